/-! methods, both sides: breathe, pass, on -/
section X
variable {Kd : Nat → Nat} {μ : Nat → Nat → Int32} {n : Nat → Nat → Option Nat} {ρ : Nat → Nat → Int32}
theorem Rep_0 (hR : Rep Kd μ n ρ) {k fld : Nat} {x : Int32} (hk : (fld = 8 ∧ k = 1 ∧ nn x 20) ∨ (fld = 9 ∧ k = 2 ∧ nn x 999999) ∨ (fld = 10 ∧ k = 0 ∧ nn x 9999)) : Rep Kd (wm μ 0 fld x) n (wm ρ 1 k x) := by
  obtain ⟨np, i, cl, f, t, ⟨g1, g2, g3, g4, g5, g6, g7, g8, g9, g10⟩, h99⟩ := Rep_gen hR
  refine Rep_lo hR (fun r hr _ => wm_r hr) (fun j k hk => by rw [wm_r (by omega)]) (fun j hj => wm_k (by omega)) ⟨wm_r (by omega), wm_r (by omega), by rw [wm_r (by omega)], by rw [wm_r (by omega)]⟩ ?_ ?_ (fun np' h21 h6' j hj => ?_) ?_ ?_
  · rw [wm_u]
    refine rI_w g5 (fun h => ?_) (fun h => ?_) (fun p hp h => absurd h (by omega)) (fun p hp h => absurd h (by omega)) (fun p hp h => absurd h (by omega)) (by omega)
    · rcases hk with ⟨_, h2, h3⟩ | ⟨_, h2, h3⟩ | ⟨_, h2, m, h3, h4⟩
      · exact absurd h (by omega)
      · exact absurd h (by omega)
      · exact ⟨m, by omega, h4⟩
    · rcases hk with ⟨_, h2, h3⟩ | ⟨_, h2, h3⟩ | ⟨_, h2, h3⟩
      · exact h3
      · exact absurd h (by omega)
      · exact absurd h (by omega)
  · obtain ⟨c1, c5, c8, c9, c10⟩ := g3
    have e : ∀ fl ss, (fl = 8 ∧ ss = 1) ∨ (fl = 9 ∧ ss = 2) ∨ (fl = 10 ∧ ss = 0) → μ 0 fl = ρ 1 ss → wm μ 0 fld x 0 fl = wm ρ 1 k x 1 ss := by
      intro fl ss h1 h2
      by_cases h : fl = fld
      · have : ss = k := by omega
        subst h this
        rw [wm_s, wm_s]
      · rw [wm_k h, wm_k (by omega)]
        exact h2
    refine ⟨?_, ?_, e 8 1 (by omega) c8, e 9 2 (by omega) c9, e 10 0 (by omega) c10⟩
    · rw [wm_k (by omega), wm_k (by omega)]; exact c1
    · rw [wm_k (by omega), wm_k (by omega)]; exact c5
  · have hnn := np_eq (g6.symm.trans h21) g7 h6'
    unfold cP
    simp (disch := omega) only [wm_r (r := 0), wm_k (r := 1)]
    exact g4 j (by omega)
  · rcases hk with ⟨_, h2, h3⟩ | ⟨_, h2, h3⟩ | ⟨_, h2, h3⟩
    · rw [wm_k (by omega)]; exact Rep_2 hR
    · subst h2
      rw [wm_s]; exact h3
    · rw [wm_k (by omega)]; exact Rep_2 hR
  · rcases hk with ⟨_, h2, h3⟩ | ⟨_, h2, h3⟩ | ⟨_, h2, m, h3, h4⟩
    · rw [wm_k (by omega)]; exact h99
    · rw [wm_k (by omega)]; exact h99
    · subst h2 h4
      rw [wm_s, N_nI (by omega)]
      exact h3
theorem wm_sw {ρ : Nat → Nat → Int32} {a b : Nat} {x y z : Int32} (h : a ≠ b) : wm (wm (wm ρ 1 a y) 1 b x) 1 a z = wm (wm ρ 1 a z) 1 b x := by
  funext r k
  unfold wm
  by_cases h1 : r = 1 ∧ k = a
  · rw [if_pos h1, if_neg (fun h2 => h (h1.2.symm.trans h2.2)), if_pos h1]
  · rw [if_neg h1, if_neg h1, if_neg h1]
theorem x_breathe (hR : Rep Kd μ n ρ) (a : Int32) : ∃ r μ' ρ', m_X11_breathe (kC Kd) lC 0 a (μ, n) = some (r, (μ', n)) ∧ m_X12_breathe kR lR 0 a (ρ, nR) = some (r, (ρ', nR)) ∧ Rep Kd μ' n ρ' := by
  obtain ⟨np, i, cl, f, t, hg, h99⟩ := Rep_gen hR
  have hh := k_held hg
  obtain ⟨g1, g2, g3, g4, g5, g6, g7, g8, g9, g10⟩ := hg
  have hi6 : i < 6 := by rcases g10 with ⟨_, h⟩ | ⟨h, _⟩ <;> omega
  unfold m_X11_breathe m_X12_breathe
  simp only [C_c0, R_ck, x_pC g3 g6, x_pR g6, fm_b1_s, b2i_if]
  rcases pane_c a g7 with hc | ⟨j, hj, rfl, hc⟩
  · rw [hc]
    exact ⟨_, _, _, rfl, rfl, hR⟩
  · rw [hc, if_pos rfl, if_pos rfl]
    obtain ⟨p1, _⟩ := g2 j hj
    obtain ⟨q0, q1, q2, q3, q4, q5, q6, q7⟩ := g4 j hj
    obtain ⟨e3, l3⟩ := nn_N (by omega) (g5.2.2.2 j (by omega)).1
    obtain ⟨e2, l2⟩ := nn_N (by omega) (Rep_2 hR)
    have ho := r_offer g5 g8 (show j < 6 by omega)
    have hk := k_off (Kd := Kd) (n := n) hi6 g9.1 g9.2.1 (show N (ρ 1 (3 + j)) < 4096 by omega)
    rw [← e3] at hk
    have hle := of_le f t (N (ρ 1 (3 + j))) g9.2.2.2.2.2.1 g9.2.2.2.2.2.2
    have hrb : m_X12_breathes kR lR 0 (nI j) (ρ, nR) = some (nI (offN f t (N (ρ 1 (3 + j)))), (wm (wm ρ 1 2 (nI (N (ρ 1 2) + offN f t (N (ρ 1 (3 + j)))))) 1 (3 + j) 0, nR)) := by
      unfold m_X12_breathes
      simp (disch := omega) only [R_ck, ho, fm_b1_s, R_g1, R_s2, R_w2, L_3, R_ws]
      rw [e2, nI_add, ← e2]
    have hlt : (nI (N (ρ 1 2)) + nI (offN f t (N (ρ 1 (3 + j)))) < 999999 ↔ N (ρ 1 2) + offN f t (N (ρ 1 (3 + j))) < 999999) := by
      rw [nI_add]
      exact nI_ltI (b := 999999) (by omega) (by omega)
    have hle9 : (nI (N (ρ 1 2) + offN f t (N (ρ 1 (3 + j)))) ≤ 999999 ↔ N (ρ 1 2) + offN f t (N (ρ 1 (3 + j))) ≤ 999999) := nI_leI (b := 999999) (by omega) (by omega)
    rw [hrb, fm_bi_s, hh, fm_b1_s, C_r0 g1.1.1, C_lr1 (by omega) p1, C_gio, C_ckt hi6, q4, hk, fm_b1_s, C_g0, R_let, C_p0, C_r0 g1.1.1, C_lr1 (by omega) p1, C_pio, g3.2.2.2.1]
    have hW : ∀ z, nn z 999999 → Rep Kd (wm (wm μ 0 9 z) (100 + 6 * j) 4 0) n (wm (wm ρ 1 2 z) 1 (3 + j) 0) := by
      intro z hz
      exact Rep_pane (Rep_0 hR (fld := 9) (k := 2) (x := z) (Or.inr (Or.inl ⟨rfl, rfl, hz⟩))) (by rw [wm_k (by omega)]; exact g6) g7 hj (Or.inr (Or.inl ⟨rfl, rfl, ⟨0, by omega, rfl⟩⟩))
    unfold m_X12_holds
    simp (disch := omega) only [R_g1, R_s2, R_w2]
    rw [wm_k (show (2 : Nat) ≠ 3 + j by omega), wm_s]
    by_cases hcase : N (ρ 1 2) + offN f t (N (ρ 1 (3 + j))) ≤ 999999
    · refine ⟨_, _, wm (wm ρ 1 2 (nI (N (ρ 1 2) + offN f t (N (ρ 1 (3 + j)))))) 1 (3 + j) 0, rfl, ?_, ?_⟩
      · rw [if_pos (hle9.2 hcase), wm_sw (by omega), fm_b1_s]
      · have hz : (if ρ 1 2 + nI (offN f t (N (ρ 1 (3 + j)))) < 999999 then ρ 1 2 + nI (offN f t (N (ρ 1 (3 + j)))) else 999999) = nI (N (ρ 1 2) + offN f t (N (ρ 1 (3 + j)))) := by
          rw [e2, N_nI (show N (ρ 1 2) < 2 ^ 31 by omega)]
          by_cases h9 : N (ρ 1 2) + offN f t (N (ρ 1 (3 + j))) < 999999
          · rw [if_pos (hlt.2 h9), nI_add]
          · rw [if_neg (fun a => h9 (hlt.1 a)), show N (ρ 1 2) + offN f t (N (ρ 1 (3 + j))) = 999999 by omega]
            rfl
        rw [hz]
        exact hW _ (nn_mk hcase)
    · refine ⟨_, _, wm (wm ρ 1 2 999999) 1 (3 + j) 0, rfl, ?_, ?_⟩
      · rw [if_neg (fun a => hcase (hle9.1 a)), wm_sw (by omega), fm_b1_s]
      · have hz : (if ρ 1 2 + nI (offN f t (N (ρ 1 (3 + j)))) < 999999 then ρ 1 2 + nI (offN f t (N (ρ 1 (3 + j)))) else 999999) = 999999 := by
          rw [e2]
          rw [if_neg (fun a => hcase (Nat.le_of_lt (hlt.1 a)))]
        rw [hz]
        exact hW _ ⟨999999, Nat.le_refl _, rfl⟩
end X
