/-! methods, both sides: heat -/
section X
variable {Kd : Nat → Nat} {μ : Nat → Nat → Int32} {n : Nat → Nat → Option Nat} {ρ : Nat → Nat → Int32}
theorem x_heat (hR : Rep Kd μ n ρ) (a b c : Int32) : ∃ r μ' n' ρ', m_X11_heat (kC Kd) lC 0 a b c (μ, n) = some (r, (μ', n')) ∧ m_X12_heat kR lR 0 a b c (ρ, nR) = some (r, (ρ', nR)) ∧ Rep Kd μ' n' ρ' := by
  obtain ⟨np, i, cl, f, t, hg, h99⟩ := Rep_gen hR
  have hg0 := hg
  obtain ⟨g1, g2, g3, g4, g5, g6, g7, g8, g9, g10⟩ := hg
  unfold m_X11_heat m_X12_heat
  simp only [R_let, C_c0, R_ck, k_isWithin, r_in0, x_pC g3 g6, x_pR g6, fm_b1_s, b2i_if]
  rcases pane_c a g7 with hc | ⟨j, hj, rfl, hc⟩
  · rw [hc]
    exact ⟨_, _, _, _, rfl, rfl, hR⟩
  rw [hc, if_pos rfl, if_pos rfl]
  by_cases hc1' : ¬ (decide (0 ≤ c) && decide (c ≤ 1)) = true
  · rw [if_neg hc1', if_neg hc1']
    exact ⟨_, _, _, _, rfl, rfl, hR⟩
  have hc1 := Decidable.of_not_not hc1'
  rw [if_pos hc1, if_pos hc1, show (20 : Int32) = nI 20 from rfl]
  rcases in_c b (m := 20) (by omega) with hc | ⟨N0, hN, rfl, hc⟩
  · rw [hc]
    exact ⟨_, _, _, _, rfl, rfl, hR⟩
  rw [hc, if_pos rfl, if_pos rfl]
  obtain ⟨r, μ', n', ρ', x1, x2, x3, x4⟩ := x_heatl (Kd := Kd) (c := c) hj hN h99 10 0 0 (-1) 989 989 μ n ρ (by omega) hg0 rfl
  exact ⟨r, μ', n', ρ', x1, x2, Rep_k (kQ_d x3) x4 hR⟩
end X
