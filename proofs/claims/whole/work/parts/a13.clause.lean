/-! methods, both sides: town; the class -/
def sgT (s : Nat → Int32) (z : Nat) : Nat → Int32 := fun p => if p < z then s (111 + p) else -1
theorem sgT_I {s : Nat → Int32} {z : Nat} (h : ∀ x, x < z → nn (s (111 + x)) 127) : sgI z (sgT s z) := by
  intro p
  unfold sgT
  refine ⟨fun hp => ?_, fun hp => if_neg (by omega)⟩
  rw [if_pos hp]
  obtain ⟨x, h1, h2⟩ := h p hp
  exact ⟨x, by omega, h2⟩
section R
variable {Kd : Nat → Nat} {m z : Nat} {s : Nat → Int32} {n : Nat → Nat → Option Nat}
theorem k_ril (hT : ∀ x, x < z → nn (s (111 + x)) 127) (hz : z ≤ 100) (hm : m < 5) (hN : mN n) {μ0 : Nat → Nat → Int32} (h3 : μ0 10 3 = nI z) (h0 : μ0 10 0 = nI 100) (ht : ∀ x, x < z → μ0 11 (3 * x) = s (111 + x)) : ∀ (d i fuel : Nat) (μ : Nat → Nat → Int32), i + d = z → (∀ r, r ≠ 31 → μ r = μ0 r) → (∀ x, x < i → μ 31 x = sgT s z x) → ∃ μ', b_X6_readInto_13 (kC Kd) lC (fuel + d + 12) 30 (40 + 5 * m) 10 (nI z) (nI i) (μ, n) = some (if (twn (sgT s z)).1 = true then -1 else nI (twn (sgT s z)).2.1, (μ', wn n 30 1 (some (40 + 5 * m)))) ∧ rQ m z (sgT s z) (wn n 30 1 (some (40 + 5 * m))) μ0 μ' (twn (sgT s z)) := by
  obtain ⟨⟨n0, n1, n3, n4, n6, n7, n11, n12, n13, n14, n15, n16⟩, hn3, hnT, hw, hn30⟩ := hN
  intro d
  induction d with
  | zero =>
    intro i fuel μ hi hr hx
    have hi : i = z := hi
    subst hi
    have hTm := hnT m (by omega)
    have hcS : tS m i (sgT s i) (wn n 30 1 (some (40 + 5 * m))) (wm (wm (wm (wm (wm (wm μ 31 i (-1)) (40 + 5 * m) 0 3) (40 + 5 * m) 1 2) (40 + 5 * m) 2 0) (40 + 5 * m) 5 0) 30 2 0) 0 0 ([], 3, 2) := by
      refine ⟨⟨⟨by rw [wn_r (by omega)]; exact hn30, wn_s _ _ _, ?_, hm, hz⟩, wm_s _ _ _ _, Nat.zero_le _, fun x hx1 => ?_, ?_⟩, Nat.le_refl _, ⟨?_, ?_, ?_, Nat.zero_le _, by decide, by decide⟩, rfl, trivial⟩
      · obtain ⟨t1, t2, t3, t4⟩ := hTm
        exact ⟨by rw [wn_r (by omega)]; exact t1, by rw [wn_r (by omega)]; exact t2, by rw [wn_r (by omega)]; exact t3, by rw [wn_r (by omega)]; exact t4⟩
      · rw [wm_r (by omega), wm_r (by omega), wm_r (by omega), wm_r (by omega), wm_r (by omega)]
        by_cases hxi : x = i
        · subst hxi
          rw [wm_s]
          exact (if_neg (Nat.lt_irrefl _)).symm
        · rw [wm_k hxi]
          exact hx x (by omega)
      · rw [wm_r (by omega), wm_s]; rfl
      · rw [wm_r (by omega), wm_k (by omega), wm_k (by omega), wm_k (by omega), wm_s]; rfl
      · rw [wm_r (by omega), wm_k (by omega), wm_k (by omega), wm_s]; rfl
      · rw [wm_r (by omega), wm_k (by omega), wm_s]; rfl
    obtain ⟨μ', a1, a2, a3, a4⟩ := k_twn (Kd := Kd) (sgT_I hT) hcS fuel
    refine ⟨μ', ?_, fun r r30 r31 rt => ?_, a3, a4⟩
    · rw [← a1, show fuel + 0 + 12 = fuel + 11 + 1 by omega, ri13_s]
      generalize b_X6_readInto_66 (kC Kd) lC (fuel + 11) = G
      unfold k_X6_readInto_13
      rw [if_pos (Int32.le_refl _), C_gr30 hn30, C_st (L := 101) rfl rfl (by omega) (by decide), C_pr rfl, C_gr30 (wn_s _ _ _), C_ckt (by omega)]
      unfold m_X10_clear
      rw [C_pit (by omega), C_pit (by omega), C_pit (by omega), C_pit (by omega), fm_b1_s, C_pi30, R_let]
      rfl
    · rw [a2 r r30 r31 rt, wm_r r30, wm_r (by omega), wm_r (by omega), wm_r (by omega), wm_r (by omega), wm_r r31, hr r r31]
  | succ d ih =>
    intro i fuel μ hi hr hx
    have hat : m_X8_at (kC Kd) lC 10 (nI i) 0 (μ, n) = some (μ 11 (3 * i)) := w_at (i := 0) (y := 0) (by omega) (by rw [hr _ (by omega)]; exact h3) (by rw [hr _ (by omega)]; exact h0) (hw 0 (by omega)).1 (show z ≤ mW 0 from hz) (by omega) (by omega)
    rw [hr 11 (by omega), ht i (by omega)] at hat
    obtain ⟨μ', a1, a2⟩ := ih (i + 1) fuel (wm μ 31 i (s (111 + i))) (by omega) (fun r r31 => (wm_r r31).trans (hr r r31)) (fun x hx1 => by
      by_cases hxi : x = i
      · subst hxi
        rw [wm_s]
        exact (if_pos (by omega)).symm
      · rw [wm_k hxi]
        exact hx x (by omega))
    refine ⟨μ', ?_, a2⟩
    rw [← a1, show fuel + (d + 1) + 12 = fuel + d + 12 + 1 by omega, ri13_s]
    unfold k_X6_readInto_13
    rw [if_neg (nI_ge (show i < z by omega) (by omega)), C_gr30 hn30, C_ck (show (kC Kd 10 == 8) = true from rfl), hat, fm_b1_s, C_st (L := 101) rfl rfl (by omega) (by decide), R_let, nI_1]
theorem k_read (hT : ∀ x, x < z → nn (s (111 + x)) 127) (hz : z ≤ 100) (hm : m < 5) (hN : mN n) {μ : Nat → Nat → Int32} (h3 : μ 10 3 = nI z) (h0 : μ 10 0 = nI 100) (ht : ∀ x, x < z → μ 11 (3 * x) = s (111 + x)) : ∃ μ', m_X6_readInto (kC Kd) lC 30 (40 + 5 * m) 10 (μ, n) = some (if (twn (sgT s z)).1 = true then -1 else nI (twn (sgT s z)).2.1, (μ', wn n 30 1 (some (40 + 5 * m)))) ∧ rQ m z (sgT s z) (wn n 30 1 (some (40 + 5 * m))) μ μ' (twn (sgT s z)) := by
  obtain ⟨μ', a1, a2⟩ := k_ril (Kd := Kd) hT hz hm hN h3 h0 ht z 0 (988 - z) μ (by omega) (fun _ _ => rfl) (fun x hx => absurd hx (by omega))
  refine ⟨μ', ?_, a2⟩
  have hsz : m_X8_size (kC Kd) lC 10 (μ, n) = some (nI (min z 100)) := w_size (i := 0) (by omega) h3 h0 (by omega)
  rw [← a1, show 988 - z + z + 12 = fm_LF by unfold fm_LF; omega]
  unfold m_X6_readInto
  rw [C_ck (show (kC Kd 10 == 8) = true from rfl), hsz, fm_b1_s, Nat.min_eq_left hz, if_neg (show ¬ (100 : Int32) < nI z from nI_nlt (a := 100) (by omega) (by omega)), R_let, R_let]
  rfl
end R
