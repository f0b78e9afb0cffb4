/-! methods, both sides: on; what best, heat, comes, odds share -/
section X
variable {Kd : Nat → Nat} {μ : Nat → Nat → Int32} {n : Nat → Nat → Option Nat} {ρ : Nat → Nat → Int32}
theorem x_on (hR : Rep Kd μ n ρ) (a b : Int32) : ∃ r μ' n' ρ', m_X11_on (kC Kd) lC 0 a b (μ, n) = some (r, (μ', n')) ∧ m_X12_on kR lR 0 a b (ρ, nR) = some (r, (ρ', nR)) ∧ Rep Kd μ' n' ρ' := by
  obtain ⟨np, i, cl, f, t, hg, h99⟩ := Rep_gen hR
  have hg0 := hg
  obtain ⟨g1, g2, g3, g4, g5, g6, g7, g8, g9, g10⟩ := hg
  -- the reference's hours, kept and put back
  have href : ∀ N0, N0 ≤ 60 → ∃ ρ1 ρ2 ρ3, m_X12_keeps kR lR 0 (ρ, nR) = some (ρ1, nR) ∧ m_X12_goesOn kR lR 0 (nI N0) (ρ1, nR) = some (ρ2, nR) ∧ m_X12_offers kR lR 0 (ρ2, nR) = some (nI (sumO f t (fun p => goS (pq (ρ 1) cl p) (shB (ρ 1) p) N0 (N (ρ 1 0)) (N (ρ 1 (3 + p)))) np)) ∧ (∀ p, p < np → ρ2 1 (3 + p) = nI (goS (pq (ρ 1) cl p) (shB (ρ 1) p) N0 (N (ρ 1 0)) (N (ρ 1 (3 + p))))) ∧ m_X12_goesBack kR lR 0 (ρ2, nR) = some (ρ3, nR) ∧ rK ρ ρ3 := by
    intro N0 hN
    obtain ⟨ρ1, a1, a2, a3⟩ := r_keeps ρ
    have h1 : ρ1 1 = ρ 1 := a2 1 (by omega)
    have q5 : rI (ρ1 1) := by rw [h1]; exact g5
    have q8 : hdR (ρ1 1) cl f t := by rw [h1]; exact g8
    have q6 : ρ1 1 21 = nI np := by rw [h1]; exact g6
    obtain ⟨ρ2, c1, c2, c3, c4, c5⟩ := r_goesOn (n := N0) q5 q8 q6 g7 (by omega) (by rw [h1]; omega)
    rw [h1] at c3 c4 c5
    have hlt : ∀ p, p < np → goS (pq (ρ 1) cl p) (shB (ρ 1) p) N0 (N (ρ 1 0)) (N (ρ 1 (3 + p))) < 4096 := fun p hp => goS_lt _ _ _ _ _ (N_lt g5 (by omega))
    have w5 : rI (ρ2 1) := rI_g (np := np) (cl := cl) g5 c3 (by omega) (fun p hp => ⟨_, hlt p hp, c4 p hp⟩) g7 c5
    have w6 : ρ2 1 21 = nI np := by rw [c5 21 (by omega) (by omega)]; exact g6
    have ho := r_offers w5 (hdR_c (fun j hj => c5 j (by omega) (by omega)) g8) w6 g7
    rw [sumO_c (g' := fun p => goS (pq (ρ 1) cl p) (shB (ρ 1) p) N0 (N (ρ 1 0)) (N (ρ 1 (3 + p)))) np (fun p hp => by rw [c4 p hp, N_nI (Nat.lt_trans (hlt p hp) (by omega))])] at ho
    obtain ⟨ρ3, b1, b2, b3⟩ := r_back a2 a3 c2 (fun j hj => by rw [h1]; exact c5 j (by omega) (by omega))
    exact ⟨ρ1, ρ2, ρ3, a1, c1, ho, c4, b1, rK_b b2 b3⟩
  unfold m_X11_on m_X12_on
  simp only [R_let, C_c0, R_ck, k_isWithin, r_in0, x_pC g3 g6, x_pR g6, fm_b1_s, b2i_if]
  by_cases b0 : b = 0
  · rw [if_pos b0, if_pos b0, if_neg (show ¬ (1 : Int32) = 0 by decide), show (60 : Int32) = nI 60 from rfl]
    rcases in_c a (m := 60) (by omega) with hc | ⟨N0, hN, rfl, hc⟩
    · rw [hc]
      exact ⟨_, _, _, _, rfl, rfl, hR⟩
    · rw [hc, if_pos rfl, if_pos rfl, if_neg (show ¬ (1 : Int32) = 0 by decide)]
      obtain ⟨μ1, n1, b1, b2⟩ := k_offB (N0 := N0) hg0 (by omega) (by omega)
      obtain ⟨ρ1, ρ2, ρ3, c1, c2, c3, c4, c5, c6⟩ := href N0 hN
      rw [b1, fm_bi_s, c1, fm_b1_s, c2, fm_b1_s, if_pos b0, c3, fm_b1_s, c5, fm_b1_s]
      exact ⟨_, _, _, _, rfl, rfl, Rep_k (kQ_d b2) c6 hR⟩
  · rw [if_neg b0, if_neg b0, if_pos trivial]
    rcases pane_c (b - 10) g7 with hc | ⟨j, hj, hbj, hc⟩
    · rw [hc]
      refine ⟨-1, μ, n, ρ, ?_, rfl, hR⟩
      by_cases h10 : b < 10
      · rw [if_pos h10]
      · rw [if_neg h10]
        rfl
    · have hb : b = nI (j + 10) := by
        have := Int32.sub_add_cancel b 10
        rw [hbj] at this
        rw [← this]
        exact nI_add j 10
      rw [hc, if_pos rfl, if_pos rfl, if_neg (show ¬ b < 10 by rw [hb]; exact nI_nlt (a := j + 10) (b := 10) (by omega) (by omega)), show (60 : Int32) = nI 60 from rfl]
      rcases in_c a (m := 60) (by omega) with hc | ⟨N0, hN, rfl, hc⟩
      · rw [hc]
        exact ⟨_, _, _, _, rfl, rfl, hR⟩
      · rw [hc, if_pos rfl, if_pos rfl, if_pos trivial]
        obtain ⟨μ1, n1, b1, b2⟩ := k_iceB (N0 := N0) hg0 hj (by omega) (by omega)
        obtain ⟨ρ1, ρ2, ρ3, c1, c2, c3, c4, c5, c6⟩ := href N0 hN
        have hix : (3 : Int32) + b - 10 = nI (3 + j) := by
          rw [hb, L_3, show 3 + (j + 10) = 3 + j + 10 by omega, ← nI_add]
          exact Int32.add_sub_cancel _ _
        rw [hbj, b1, fm_bi_s, c1, fm_b1_s, c2, fm_b1_s, if_neg b0]
        simp (disch := omega) only [R_g1]
        rw [hix, R_s (by omega), c5, fm_b1_s, c4 j hj]
        exact ⟨_, _, _, _, rfl, rfl, Rep_k (kQ_d b2) c6 hR⟩
end X
