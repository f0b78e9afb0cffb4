/-! methods, both sides: town -/
section X
variable {Kd : Nat → Nat} {μ : Nat → Nat → Int32} {n : Nat → Nat → Option Nat} {ρ : Nat → Nat → Int32}
theorem x_town (hR : Rep Kd μ n ρ) : ∃ r μ' n' ρ', m_X11_town (kC Kd) lC 0 (μ, n) = some (r, (μ', n')) ∧ m_X12_town kR lR 0 (ρ, nR) = some (r, (ρ', nR)) ∧ Rep Kd μ' n' ρ' := by
  have hR0 := hR
  obtain ⟨np, nt, ⟨h1, h2, h3, h4, h5, h6, h7⟩, ⟨⟨k1, k2, k3, k4, k5⟩, h9, h10'⟩, ⟨⟨z, z1, z2, z3, z4⟩, _⟩, ⟨m0, _⟩, _⟩ := hR
  have h05 : μ 0 5 = nI nt := h3.2.1.trans k1
  have h1' := h1
  obtain ⟨⟨n0, n1, n3, n4, n6, n7, n11, n12, n13, n14, n15, n16⟩, hn3, hnT, hw, hn30⟩ := h1
  by_cases h5' : nt = 5
  · subst h5'
    refine ⟨-4, μ, n, ρ, ?_, ?_, hR0⟩
    · unfold m_X11_town
      rw [C_g0, h05, if_neg (by decide)]
    · unfold m_X12_town
      rw [R_g1, R_s22, k1, if_pos (show nI 5 = 5 from rfl)]
  have hnt : nt < 5 := by omega
  obtain ⟨μ1, a1, a2, a3, a4⟩ := k_read (Kd := Kd) (m := nt) (z := z) (s := ρ 1) (n := n) (fun x hx => (z4 x hx).2) z1 hnt h1' z3 m0 (fun x hx => (z4 x hx).1)
  obtain ⟨ρe, d1, d2, d3⟩ := r_town (m := nt) (z := z) k1 hnt z2 z1 (fun x hx => (z4 x hx).2)
  obtain ⟨b1, b2, b3, b4⟩ := d1
  have zc : m_X8_clear (kC Kd) lC 10 (μ1, wn n 30 1 (some (40 + 5 * nt))) = some (0, (wm μ1 10 3 0, wn n 30 1 (some (40 + 5 * nt)))) := w_clear (i := 0) (by omega)
  have c10 : ∀ {α : Type} (F : Option α), fm_ck (kC Kd 10 == 8) F = F := fun F => C_ck rfl F
  have f0 : ∀ r, r ≠ 30 → r ≠ 31 → (r < 40 + 5 * nt ∨ 44 + 5 * nt < r) → μ1 r = μ r := a2
  have hpref : ∀ (X : Int32), (X = if (twn (sgT (ρ 1) z)).1 = true then -1 else nI (twn (sgT (ρ 1) z)).2.1) → m_X11_town (kC Kd) lC 0 (μ, n) = if X = -1 then some (nI nt, (wm (wm μ1 10 3 0) 0 5 (nI (nt + 1)), wn n 30 1 (some (40 + 5 * nt)))) else some (-10 - X, (wm μ1 10 3 0, wn n 30 1 (some (40 + 5 * nt)))) := by
    intro X hX
    unfold m_X11_town
    have h05' : wm μ1 10 3 0 0 5 = nI nt := by rw [wm_r (by omega), f0 0 (by omega) (by omega) (by omega)]; exact h05
    rw [C_g0, h05, if_pos (show nI nt < (5 : Int32) from nI_lt (b := 5) hnt (by omega)), C_r0 n7, C_r0 n4, C_g0, h05, C_lr3 hnt (hn3 nt hnt), C_r0 n6, C_ck30, a1, ← hX, fm_bi_s, C_r0 (by rw [wn_r (by omega)]; exact n6), c10, zc, fm_bi_s]
    by_cases hx : X = -1
    · rw [if_pos hx, if_pos hx, C_g0, h05', nI_1, C_p0, C_g0, wm_s, nI_s1]
    · rw [if_neg hx, if_neg hx]
  by_cases hok : (twn (sgT (ρ 1) z)).1 = true
  · obtain ⟨⟨p, c, hu⟩, e2⟩ := d2 hok
    obtain ⟨p', c', ht⟩ := a4 hok
    refine ⟨nI nt, _, _, _, (hpref (-1) (by rw [if_pos hok])).trans (if_pos rfl), e2, ?_⟩
    refine Rep_town hR0 (nt2 := nt + 1) k1 hnt (Nat.le_succ nt) ⟨?_, by omega, ?_, ?_, ?_⟩ ?_ (fun r r0 r10 r30 r31 rt => ?_) (fun x hx => ?_) (fun x hx => ?_) ?_ (fun r r0 r1 => ?_) (fun y hy => ?_) ?_ (fun y y1 y2 y3 y4 y5 y6 y7 => ?_) (fun m hm1 hm2 => ?_)
    · rw [wm_k (by omega), wm_s]
    · rw [wm_s, if_neg (by omega), Nat.add_sub_cancel]
    · rw [wm_k (by omega), wm_k (by omega), b4 2 (by omega) (by omega) (by omega) (by omega) (by omega)]; exact k4
    · rw [wm_k (by omega), wm_k (by omega), b4 0 (by omega) (by omega) (by omega) (by omega) (by omega)]; exact k5
    · rw [wm_s, wm_k (by omega), wm_s]
    · rw [wm_r r0, wm_r r10]; exact f0 r r30 r31 rt
    · rw [wm_k hx, wm_r (by omega), f0 0 (by omega) (by omega) (by omega)]
    · rw [wm_r (by omega), wm_k hx, f0 10 (by omega) (by omega) (by omega)]
    · rw [wm_r (by omega), wm_s]
    · rw [wm_r r1, wm_r r1]; exact b1 r r0 r1
    · rw [wm_r (by omega), wm_r (by omega)]; exact b2 y hy
    · rw [wm_k (by omega), wm_k (by omega)]; exact b3
    · rw [wm_k y3, wm_k y1]; exact b4 y y2 y4 y5 y6 y7
    · have hm : m = nt := by omega
      subst hm
      obtain ⟨t1, t2, ⟨t3, t4, t5, t6, t7, t8⟩, t9, t10⟩ := ht
      obtain ⟨u1, ⟨u2, u3, u4, u5⟩, u6, u7, u8⟩ := hu
      refine ⟨(twn (sgT (ρ 1) z)).2.2.1, (twn (sgT (ρ 1) z)).2.2.2.1, (twn (sgT (ρ 1) z)).2.2.2.2, ?_, c, ?_, ?_, ?_, ?_, ?_, t7, t8⟩
      · unfold tC
        rw [wm_r (by omega), wm_r (by omega), wm_r (by omega), wm_r (by omega), wm_r (by omega), wm_r (by omega), wm_r (by omega), wm_r (by omega), wm_r (by omega), wm_r (by omega)]
        exact ⟨t3, t4, t5, t6, t10, t7, t8⟩
      · rw [wm_k (by omega), wm_k (by omega)]; exact u1.2.2
      · have := u1.1.1
        omega
      · exact clR_c _ _ _ (fun y y1 y2 => by rw [wm_k (by omega), wm_k (by omega)]) u8
      · rw [wm_k (by omega), wm_k (by omega)]; exact u6
      · rw [wm_k (by omega), wm_k (by omega)]; exact u7
  · have hf : (twn (sgT (ρ 1) z)).1 = false := by simpa using hok
    have hq31 : (twn (sgT (ρ 1) z)).2.1 < 2 ^ 31 := by omega
    have hne : ¬ nI (twn (sgT (ρ 1) z)).2.1 = -1 := by
      intro h
      have h0 : (0 : Int32) ≤ nI (twn (sgT (ρ 1) z)).2.1 := nI_le (a := 0) (by omega) hq31
      rw [h] at h0
      exact absurd h0 (by decide)
    refine ⟨-10 - nI (twn (sgT (ρ 1) z)).2.1, _, _, _, (hpref (nI (twn (sgT (ρ 1) z)).2.1) (by rw [if_neg hok])).trans (if_neg hne), d3 hf, ?_⟩
    have hs22 : ρe 1 22 = nI nt := (b4 22 (by omega) (by omega) (by omega) (by omega) (by omega)).trans k1
    refine Rep_town hR0 (nt2 := nt) k1 hnt (Nat.le_refl nt) ⟨hs22, k2, ?_, ?_, ?_⟩ ?_ (fun r r0 r10 r30 r31 rt => ?_) (fun x hx => ?_) (fun x hx => ?_) ?_ b1 b2 b3 (fun y y1 y2 y3 y4 y5 y6 y7 => b4 y y2 y4 y5 y6 y7) (fun m hm1 hm2 => absurd hm1 (by omega))
    · rw [b4 27 (by omega) (by omega) (by omega) (by omega) (by omega)]; exact k3
    · rw [b4 2 (by omega) (by omega) (by omega) (by omega) (by omega)]; exact k4
    · rw [b4 0 (by omega) (by omega) (by omega) (by omega) (by omega)]; exact k5
    · rw [wm_r (by omega), f0 0 (by omega) (by omega) (by omega), h05, hs22]
    · rw [wm_r r10]; exact f0 r r30 r31 rt
    · rw [wm_r (by omega), f0 0 (by omega) (by omega) (by omega)]
    · rw [wm_k hx, f0 10 (by omega) (by omega) (by omega)]
    · rw [wm_s]
end X
