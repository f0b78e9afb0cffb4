/-! PANE: class and reference say the same after it -/
section NEWP
variable {Kd Kd' : Nat → Nat} {μ μ' : Nat → Nat → Int32} {n n' : Nat → Nat → Option Nat} {ρ ρ' : Nat → Nat → Int32} {np k v w : Nat}
theorem pw_lo (s : Nat → Int32) {i : Nat} (h1 : i ≠ 21) (h2 : i ≠ 28 + np) (h3 : i ≠ 34 + np) (h4 : i ≠ 15 + np) (h5 : i ≠ 3 + np) (h6 : i ≠ 9 + np) (h7 : ¬ (40 + 4 * np ≤ i ∧ i < 44 + 4 * np)) : paneW np k v w s i = s i := by
  unfold paneW
  rw [if_neg h1, if_neg h2, if_neg h3, if_neg h4, if_neg (by omega)]
theorem pw_hi (s : Nat → Int32) (hp : np < 6) {i : Nat} (h : 64 ≤ i) : paneW np k v w s i = s i := pw_lo s (by omega) (by omega) (by omega) (by omega) (by omega) (by omega) (by omega)
theorem pw_z (s : Nat → Int32) (hp : np < 6) {i : Nat} (h : i = 3 + np ∨ i = 9 + np ∨ (40 + 4 * np ≤ i ∧ i < 44 + 4 * np)) : paneW np k v w s i = 0 := by
  unfold paneW
  rw [if_neg (by omega), if_neg (by omega), if_neg (by omega), if_neg (by omega), if_pos h]
theorem pw_28 (s : Nat → Int32) (hp : np < 6) : paneW np k v w s (28 + np) = nI k := by
  unfold paneW
  rw [if_neg (by omega), if_pos rfl]
theorem pw_34 (s : Nat → Int32) (hp : np < 6) : paneW np k v w s (34 + np) = nI v := by
  unfold paneW
  rw [if_neg (by omega), if_neg (by omega), if_pos rfl]
theorem pw_15 (s : Nat → Int32) (hp : np < 6) : paneW np k v w s (15 + np) = nI w := by
  unfold paneW
  rw [if_neg (by omega), if_neg (by omega), if_neg (by omega), if_pos rfl]
theorem pw_21 (s : Nat → Int32) : paneW np k v w s 21 = nI (np + 1) := if_pos rfl
/-- a pane's own numbers, another pane's -/
theorem pw_o (s : Nat → Int32) (hp : np < 6) {j b x : Nat} (hj : j ≠ np) (hj6 : j < 6) (hb : b = 3 ∨ b = 9 ∨ b = 15 ∨ b = 28 ∨ b = 34) : paneW np k v w s (b + j) = s (b + j) := pw_lo s (by omega) (by omega) (by omega) (by omega) (by omega) (by omega) (by omega)
theorem pw_q (s : Nat → Int32) (hp : np < 6) {j x : Nat} (hj : j ≠ np) (hj6 : j < 6) (hx : x < 4) : paneW np k v w s (40 + 4 * j + x) = s (40 + 4 * j + x) := pw_lo s (by omega) (by omega) (by omega) (by omega) (by omega) (by omega) (by omega)
theorem pw_I {s : Nat → Int32} (hI : rI s) (hp : np < 6) (hk : k ≤ 6) (hv : v ≤ 9) (hw : w ≤ 9) : rI (paneW np k v w s) := by
  obtain ⟨a0, a1, a21, aP⟩ := hI
  refine ⟨?_, ?_, ?_, fun p hp6 => ?_⟩
  · rw [pw_lo s (by omega) (by omega) (by omega) (by omega) (by omega) (by omega) (by omega)]; exact a0
  · rw [pw_lo s (by omega) (by omega) (by omega) (by omega) (by omega) (by omega) (by omega)]; exact a1
  · rw [pw_21]; exact ⟨np + 1, by omega, rfl⟩
  · obtain ⟨b1, b2, b3, b4, b5, b6⟩ := aP p hp6
    by_cases e : p = np
    · subst e
      refine ⟨?_, ?_, ?_, ?_, ?_, fun i hi => ?_⟩
      · rw [pw_z s hp (by omega)]; exact ⟨0, by omega, rfl⟩
      · rw [pw_z s hp (by omega)]; exact ⟨0, by omega, rfl⟩
      · rw [pw_15 s hp]; exact ⟨w, hw, rfl⟩
      · rw [pw_28 s hp]; exact ⟨k, hk, rfl⟩
      · rw [pw_34 s hp]; exact ⟨v, hv, rfl⟩
      · rw [pw_z s hp (by omega)]; exact ⟨0, by omega, rfl⟩
    · refine ⟨?_, ?_, ?_, ?_, ?_, fun i hi => ?_⟩
      · rw [pw_o (x := 0) s hp e hp6 (by omega)]; exact b1
      · rw [pw_o (x := 0) s hp e hp6 (by omega)]; exact b2
      · rw [pw_o (x := 0) s hp e hp6 (by omega)]; exact b3
      · rw [pw_o (x := 0) s hp e hp6 (by omega)]; exact b4
      · rw [pw_o (x := 0) s hp e hp6 (by omega)]; exact b5
      · rw [pw_q s hp e hp6 hi]; exact b6 i hi
end NEWP
