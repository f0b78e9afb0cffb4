/-! methods, both sides: odds, mean -/
section X
variable {Kd : Nat → Nat} {μ : Nat → Nat → Int32} {n : Nat → Nat → Option Nat} {ρ : Nat → Nat → Int32}
theorem x_odds (hR : Rep Kd μ n ρ) (a b c d : Int32) : ∃ r μ' n' ρ', m_X11_odds (kC Kd) lC 0 a b c d (μ, n) = some (r, (μ', n')) ∧ m_X12_odds kR lR 0 a b c d (ρ, nR) = some (r, (ρ', nR)) ∧ Rep Kd μ' n' ρ' := by
  obtain ⟨np, i, cl, f, t, hg, h99⟩ := Rep_gen hR
  have hg0 := hg
  obtain ⟨g1, g2, g3, g4, g5, g6, g7, g8, g9, g10⟩ := hg
  unfold m_X11_odds m_X12_odds
  simp only [R_let, C_c0, R_ck, k_isWithin, r_in0, x_pC g3 g6, x_pR g6, fm_b1_s, b2i_if]
  rcases pane_c a g7 with hc | ⟨j, hj, rfl, hc⟩
  · rw [hc]
    exact ⟨_, _, _, _, rfl, rfl, hR⟩
  rw [hc, if_pos rfl, if_pos rfl, show (60 : Int32) = nI 60 from rfl]
  rcases in_c b (m := 60) (by omega) with hc | ⟨N0, hN, rfl, hc⟩
  · rw [hc]
    exact ⟨_, _, _, _, rfl, rfl, hR⟩
  rw [hc, if_pos rfl, if_pos rfl]
  by_cases hc1' : ¬ (decide (0 ≤ c) && decide (c ≤ 999)) = true
  · rw [if_neg hc1', if_neg hc1']
    exact ⟨_, _, _, _, rfl, rfl, hR⟩
  have hc1 := Decidable.of_not_not hc1'
  rw [if_pos hc1, if_pos hc1]
  by_cases hd1' : ¬ (decide (0 ≤ d) && decide (d ≤ 1)) = true
  · rw [if_neg hd1', if_neg hd1']
    exact ⟨_, _, _, _, rfl, rfl, hR⟩
  have hd1 := Decidable.of_not_not hd1'
  rw [if_pos hd1, if_pos hd1]
  obtain ⟨r, μ', n', ρ', x1, x2, x3, x4⟩ := x_oddsl (Kd := Kd) (a3 := c) (a4 := d) hj hN h99 21 0 0 978 978 μ n ρ (by omega) (by omega) hg0 rfl
  exact ⟨r, μ', n', ρ', x1, x2, Rep_k (kQ_d x3) x4 hR⟩
theorem x_mean (hR : Rep Kd μ n ρ) (a : Int32) : ∃ r μ' n' ρ', m_X11_mean (kC Kd) lC 0 a (μ, n) = some (r, (μ', n')) ∧ m_X12_mean kR lR 0 a (ρ, nR) = some r ∧ ρ' = ρ ∧ Rep Kd μ' n' ρ' := by
  obtain ⟨np, i, cl, f, t, hg, h99⟩ := Rep_gen hR
  have hg0 := hg
  obtain ⟨g1, g2, g3, g4, g5, g6, g7, g8, g9, g10⟩ := hg
  unfold m_X11_mean m_X12_mean
  simp only [R_let, C_c0, R_ck, k_isWithin, r_in0, fm_b1_s, b2i_if, C_g0, g3.1.trans g6, R_g1, R_s21, g6]
  by_cases hd1' : ¬ (decide (0 ≤ a) && decide (a ≤ 1)) = true
  · rw [if_neg hd1', if_neg hd1']
    exact ⟨_, _, _, _, rfl, rfl, rfl, hR⟩
  have hd1 := Decidable.of_not_not hd1'
  rw [if_pos hd1, if_pos hd1]
  by_cases h0 : np = 0
  · subst h0
    exact ⟨_, _, _, _, rfl, rfl, rfl, hR⟩
  rw [if_neg (nI_ne0 (by omega) (by omega)), if_neg (nI_ne0 (by omega) (by omega))]
  obtain ⟨μ1, n1, b1, b2⟩ := k_offB (N0 := 0) hg0 (by omega) (by omega)
  have ho := r_offers g5 g8 g6 g7
  have hs : sumO f t (fun p => goS (pq (ρ 1) cl p) (shB (ρ 1) p) 0 (N (ρ 1 0)) (N (ρ 1 (3 + p)))) np = sumO f t (fun p => N (ρ 1 (3 + p))) np := sumO_c np (fun p _ => by
    unfold goS
    by_cases h : shB (ρ 1) p = true
    · rw [if_pos h]
    · rw [if_neg h]
      rfl)
  rw [hs] at b1
  have hle := sumO_le f t (fun p => N (ρ 1 (3 + p))) g9.2.2.2.2.2.1 g9.2.2.2.2.2.2 np
  obtain ⟨v, e1, e2⟩ := x_frac (kap := kC Kd) (lam := lC) (kap2 := kR) (lam2 := lR) (μ1, n1) (ρ, nR) (sumO f t (fun p => N (ρ 1 (3 + p))) np) np a (by omega) (by omega) (by omega)
  have hc1 : μ1 0 2 = nI np := by rw [b2.1 0 (by omega)]; exact g3.1.trans g6
  rw [show (0 : Int32) = nI 0 from rfl, b1, fm_bi_s, C_g0, hc1, e1, fm_b1_s, ho, fm_b1_s, nI_l (by omega), nI_l (by omega), e2, fm_b1_s]
  exact ⟨_, _, _, _, rfl, rfl, rfl, Rep_k (kQ_d b2) ⟨rfl, rfl, rfl, rfl, rfl⟩ hR⟩
end X
