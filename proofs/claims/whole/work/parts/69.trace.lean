/-! methods, both sides: trace -/
theorem cnt_c (x : Int32) {k : Nat} (hk : k < 2000) : (decide (0 ≤ x) && decide (x ≤ nI k - 1)) = false ∨ ∃ j, j < k ∧ x = nI j ∧ (decide (0 ≤ x) && decide (x ≤ nI k - 1)) = true := by
  by_cases h0 : k = 0
  · subst h0
    left
    by_cases h1 : 0 ≤ x
    · rw [decide_eq_false (show ¬ x ≤ nI 0 - 1 from fun h => absurd (Int32.le_trans h1 h) (by decide)), Bool.and_false]
    · rw [decide_eq_false h1]
      rfl
  · obtain ⟨m, rfl⟩ : ∃ m, k = m + 1 := ⟨k - 1, by omega⟩
    rw [nI_pred]
    rcases in_c x (m := m) (by omega) with h | ⟨j, h1, h2, h3⟩
    · exact Or.inl h
    · exact Or.inr ⟨j, by omega, h2, h3⟩
section X
variable {Kd : Nat → Nat} {μ : Nat → Nat → Int32} {n : Nat → Nat → Option Nat} {ρ : Nat → Nat → Int32}
theorem x_trace (hR : Rep Kd μ n ρ) (a : Int32) : ∃ r, m_X11_trace (kC Kd) lC 0 a (μ, n) = some r ∧ m_X12_trace kR lR 0 a (ρ, nR) = some r := by
  obtain ⟨np, nt, ⟨h1, _⟩, _, _, ⟨_, _, _, _, m4, _⟩, ⟨r, r1, r2, r3, r4⟩, _⟩ := hR
  obtain ⟨⟨_, _, _, _, _, _, _, _, _, n14, _⟩, _, _, hw, _⟩ := h1
  have hw0 : n 22 1 = some 23 := (hw 4 (by omega)).1
  have c22 : ∀ {α : Type} (F : Option α), fm_ck (kC Kd 22 == 8) F = F := fun F => C_ck rfl F
  have zs : m_X8_size (kC Kd) lC 22 (μ, n) = some (nI (min r 20)) := w_size (Kd := Kd) (n := n) (i := 4) (by omega) r3 m4 (by omega)
  have h20 : (20 ≤ nI r ↔ 20 ≤ r) := nI_leI (a := 20) (by omega) (by omega)
  have hR' : m_X12_trace kR lR 0 a (ρ, nR) = fm_b1 (m_X12_in kR lR a 0 (nI (min r 20) - 1) (ρ, nR)) fun x22 => if x22 = 0 then some (-1) else fm_gr kR 12 0 16 (ρ, nR) fun q29 => fm_ld kR lR 13 q29 a (ρ, nR) fun x33 => some x33 := by
    unfold m_X12_trace
    simp only [R_gi]
    rw [r2]
    by_cases h : 20 ≤ r
    · rw [if_pos (h20.2 h), Nat.min_eq_right h]
      rfl
    · rw [if_neg (fun a => h (h20.1 a)), Nat.min_eq_left (by omega)]
  rw [hR']
  unfold m_X11_trace
  simp only [r_in0, fm_b1_s, b2i_if]
  rw [C_r0 n14, c22, zs, fm_b1_s, k_isWithin, fm_b1_s, b2i_if]
  rcases cnt_c a (k := min r 20) (by omega) with hc | ⟨j, hj, rfl, hc⟩
  · rw [hc]
    exact ⟨_, rfl, rfl⟩
  rw [hc, if_pos rfl, if_pos rfl, C_r0 n14, c22, R_g16, R_ld (r := 9) (t := 13) rfl (show j < 20 by omega) (by decide)]
  have hat : m_X8_at (kC Kd) lC 22 (nI j) 0 (μ, n) = some (μ 23 (3 * j)) := by
    have hsz : m_X8_size (kC Kd) lC 22 (μ, n) = some (nI (min r 20)) := zs
    obtain ⟨m, hm⟩ : ∃ m, min r 20 = m + 1 := ⟨min r 20 - 1, by omega⟩
    unfold m_X8_at
    rw [c22, hsz, fm_b1_s, k_isWithin, fm_b1_s, hm, nI_pred, wi_T (by omega) (by omega), b2i_if, if_pos rfl, k_isWithin, fm_b1_s, b2i_if, if_pos (by decide)]
    rw [C_gr (q := 23) rfl hw0, show (3 : Int32) = nI 3 from rfl, pk_mul, show (0 : Int32) = nI 0 from rfl, nI_add, Nat.add_zero, Nat.mul_comm j 3]
    exact C_ld (kap := kC Kd) (lam := lC) (r := 23) (t := 13) (L := 60) rfl rfl (by omega) (by decide) _
  rw [hat, fm_b1_s, r4 j (by omega) (by omega)]
  exact ⟨_, rfl, rfl⟩
end X
