/-! PANE: the reference -/
section PANE
variable {ρ : Nat → Nat → Int32} {np k v w : Nat}
theorem p116_s (n : Nat) : b_X12_pane_116 kR lR (n + 1) = k_X12_pane_116 kR lR (b_X12_pane_116 kR lR n) := rfl
theorem p116_i (p i : Nat) : (40 : Int32) + 4 * nI p + nI i = nI (40 + 4 * p + i) := by
  rw [show (4 : Int32) * nI p = nI (4 * p) from (Int32.ofNat_mul 4 p).symm, show (40 : Int32) + nI (4 * p) = nI (40 + 4 * p) from nI_add 40 _, nI_add]
theorem p116_w (n : Nat) {p i : Nat} (hi : i < 4) (hp : p < 6) : b_X12_pane_116 kR lR (n + 1) 0 (nI p) (nI i) (ρ, nR) = b_X12_pane_116 kR lR n 0 (nI p) (nI (i + 1)) (wm ρ 1 (40 + 4 * p + i) 0, nR) := by
  rw [p116_s]
  unfold k_X12_pane_116
  rw [if_neg (show ¬ (4 : Int32) ≤ nI i from nI_ge (b := 4) hi (by omega)), R_g1, p116_i, R_ws (by omega), R_let, nI_1]
theorem p116_e (n : Nat) {p : Nat} : b_X12_pane_116 kR lR (n + 1) 0 (nI p) (nI 4) (ρ, nR) = some (nI p, (wm ρ 1 21 (ρ 1 21 + 1), nR)) := by
  rw [p116_s]
  unfold k_X12_pane_116
  rw [if_pos (show (4 : Int32) ≤ nI 4 from by decide), R_g1, R_sl 21 (by decide), R_wsl 21 (by decide)]
theorem in_1 {x m : Nat} (h : x ≤ m) (hm : m < 2 ^ 31) : (decide (0 ≤ nI x) && decide (nI x ≤ nI m)) = true := by
  rw [decide_eq_true (nI_pos' (by omega)), decide_eq_true (nI_le h hm)]
  rfl
/-- what the new pane writes into the numbers of the reference -/
def paneW (np k v w : Nat) (s : Nat → Int32) : Nat → Int32 := fun i => if i = 21 then nI (np + 1) else if i = 28 + np then nI k else if i = 34 + np then nI v else if i = 15 + np then nI w else if i = 3 + np ∨ i = 9 + np ∨ (40 + 4 * np ≤ i ∧ i < 44 + 4 * np) then 0 else s i
theorem r_pane_ok (hk : k ≤ 6) (hv : v ≤ 9) (hw : w ≤ 9) (hp : np < 6) (h21 : ρ 1 21 = nI np) : ∃ ρ', m_X12_pane kR lR 0 (nI k) (nI v) (nI w) (ρ, nR) = some (nI np, (ρ', nR)) ∧ (∀ r, r ≠ 1 → ρ' r = ρ r) ∧ ρ' 1 = paneW np k v w (ρ 1) := by
  unfold m_X12_pane
  rw [r_in0, r_in0, r_in0, show (6 : Int32) = nI 6 from rfl, show (9 : Int32) = nI 9 from rfl, in_1 hk (by omega), in_1 hv (by omega), in_1 hw (by omega)]
  rw [fm_b1_s, if_neg (show ¬ b2i true = 0 by decide), fm_b1_s, if_neg (show ¬ b2i true = 0 by decide), fm_b1_s, if_neg (show ¬ b2i true = 0 by decide)]
  rw [R_g1, R_sl 21 (by decide)]
  rw [show (ρ 1 (OfNat.ofNat 21 : Nat)) = nI np from h21, if_neg (show ¬ nI np = nI 6 from fun h => by have := (nI_eq (by omega) (by omega)).1 h; omega)]
  rw [R_g1, R_sl 21 (by decide), show (ρ 1 (OfNat.ofNat 21 : Nat)) = nI np from h21]
  rw [show (28 : Int32) + nI np = nI (28 + np) from nI_add 28 np, show (34 : Int32) + nI np = nI (34 + np) from nI_add 34 np, show (15 : Int32) + nI np = nI (15 + np) from nI_add 15 np, show (3 : Int32) + nI np = nI (3 + np) from nI_add 3 np, show nI 9 + nI np = nI (9 + np) from nI_add 9 np]
  rw [R_g1, R_ws (by omega), R_g1, R_ws (by omega), R_g1, R_ws (by omega), R_g1, R_ws (by omega), R_g1, R_ws (by omega), R_let]
  rw [show fm_LF = 995 + 1 + 1 + 1 + 1 + 1 from rfl, show (0 : Int32) = nI 0 from rfl, p116_w _ (by omega) hp, p116_w _ (by omega) hp, p116_w _ (by omega) hp, p116_w _ (by omega) hp, p116_e]
  refine ⟨_, rfl, fun r hr => ?_, ?_⟩
  · rw [wm_r hr, wm_r hr, wm_r hr, wm_r hr, wm_r hr, wm_r hr, wm_r hr, wm_r hr, wm_r hr, wm_r hr]
  · funext i
    have e : ∀ (μ : Nat → Nat → Int32) (j : Nat) (x : Int32) (i : Nat), wm μ 1 j x 1 i = if i = j then x else μ 1 i := fun μ j x i => by simp [wm]
    have e21 : ∀ (μ : Nat → Nat → Int32) (j : Nat) (x : Int32), 21 ≠ j → wm μ 1 j x 1 21 = μ 1 21 := fun μ j x h => wm_k h
    unfold paneW
    rw [e, e21 _ _ _ (by omega), e21 _ _ _ (by omega), e21 _ _ _ (by omega), e21 _ _ _ (by omega), e21 _ _ _ (by omega), e21 _ _ _ (by omega), e21 _ _ _ (by omega), e21 _ _ _ (by omega), e21 _ _ _ (by omega), h21, nI_1]
    by_cases c1 : i = 21
    · rw [if_pos c1, if_pos c1]
    rw [if_neg c1, if_neg c1, e, e, e, e, e, e, e, e, e]
    by_cases d3 : i = 40 + 4 * np + (0 + 1 + 1 + 1)
    · rw [if_pos d3, if_neg (by omega), if_neg (by omega), if_neg (by omega), if_pos (by omega)]
    rw [if_neg d3]
    by_cases d2 : i = 40 + 4 * np + (0 + 1 + 1)
    · rw [if_pos d2, if_neg (by omega), if_neg (by omega), if_neg (by omega), if_pos (by omega)]
    rw [if_neg d2]
    by_cases d1 : i = 40 + 4 * np + (0 + 1)
    · rw [if_pos d1, if_neg (by omega), if_neg (by omega), if_neg (by omega), if_pos (by omega)]
    rw [if_neg d1]
    by_cases d0 : i = 40 + 4 * np + (0)
    · rw [if_pos d0, if_neg (by omega), if_neg (by omega), if_neg (by omega), if_pos (by omega)]
    rw [if_neg d0]
    by_cases e9 : i = 9 + np
    · rw [if_pos e9, if_neg (by omega), if_neg (by omega), if_neg (by omega), if_pos (by omega)]; exact nI_0
    rw [if_neg e9]
    by_cases e3 : i = 3 + np
    · rw [if_pos e3, if_neg (by omega), if_neg (by omega), if_neg (by omega), if_pos (by omega)]; exact nI_0
    rw [if_neg e3]
    by_cases a15 : i = 15 + np
    · rw [if_pos a15, if_neg (by omega), if_neg (by omega), if_pos a15]
    rw [if_neg a15]
    by_cases a34 : i = 34 + np
    · rw [if_pos a34, if_neg (by omega), if_pos a34]
    rw [if_neg a34]
    by_cases a28 : i = 28 + np
    · rw [if_pos a28, if_pos a28]
    rw [if_neg a28, if_neg a28, if_neg a34, if_neg a15, if_neg (by omega)]
end PANE
