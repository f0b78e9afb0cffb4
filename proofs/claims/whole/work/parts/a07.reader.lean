/-! methods, both sides: town; the class's reader: parts, level by level -/
section R
variable {Kd : Nat → Nat} {m z : Nat} {sg : Nat → Int32} {n : Nat → Nat → Option Nat}
theorem k_both (hs : sgI z sg) {F1 F2 F3 : Nat → Int32 → fm_M → Option (Int32 × fm_M)} {f : Nat → Bool × Nat × List Op} {a1 : Int32} (hF : cSim m z sg n f (fun S => F3 30 a1 S)) : cSim m z sg n (bo sg f) (fun S => s_X6_both (kC Kd) lC F1 F2 F3 30 a1 S) := by
  intro μ p c hc hcp
  obtain ⟨μ1, a1', a2⟩ := hF μ p c hc hcp
  obtain ⟨μ2, b1, b2⟩ := k_bothl (Kd := Kd) (F1 := F1) (F2 := F2) hs hF hcp 100 0 899 μ1 (f p) (by omega) a2
  refine ⟨μ2, ?_, b2⟩
  show s_X6_both (kC Kd) lC F1 F2 F3 30 a1 (μ, n) = _
  unfold s_X6_both
  rw [C_ck30, show F3 30 a1 (μ, n) = _ from a1', fm_bi_s, R_let]
  exact b1
theorem k_either (hs : sgI z sg) {F1 F2 F3 : Nat → Int32 → fm_M → Option (Int32 × fm_M)} {f : Nat → Bool × Nat × List Op} {a1 : Int32} (hF : cSim m z sg n (bo sg f) (fun S => F2 30 a1 S)) : cSim m z sg n (ei sg f) (fun S => s_X6_either (kC Kd) lC F1 F2 F3 30 a1 S) := by
  intro μ p c hc hcp
  obtain ⟨μ1, a1', a2⟩ := hF μ p c hc hcp
  obtain ⟨μ2, b1, b2⟩ := k_eitherl (Kd := Kd) (F1 := F1) (F3 := F3) hs hF hcp 100 0 899 μ1 (bo sg f p) (by omega) a2
  refine ⟨μ2, ?_, b2⟩
  show s_X6_either (kC Kd) lC F1 F2 F3 30 a1 (μ, n) = _
  unfold s_X6_either
  rw [C_ck30, show F2 30 a1 (μ, n) = _ from a1', fm_bi_s, R_let]
  exact b1
theorem k_part0 (hs : sgI z sg) {F1 F2 F3 : Nat → Int32 → fm_M → Option (Int32 × fm_M)} : cSim m z sg n (pa sg 0) (fun S => s_X6_part (kC Kd) lC F1 F2 F3 30 (nI 5) S) := by
  intro μ p c hc hcp
  have hc0 := hc
  obtain ⟨⟨h0, h01, ht, hm, hz⟩, h1, h2, h3, h4⟩ := hc
  obtain ⟨μt, t1, t2⟩ := k_tst (Kd := Kd) hs hc0 hcp
  show ∃ μ', s_X6_part (kC Kd) lC F1 F2 F3 30 (nI 5) (μ, n) = _ ∧ _
  unfold s_X6_part
  rw [C_gr30 h0, C_gi30, h1, C_ld31 (by omega), h3 p h2, pa_0, show fm_LF = 999 + 1 from rfl, b_X6_part_19]
  generalize b_X6_part_19 (kC Kd) lC F1 F2 F3 999 = G
  unfold k_X6_part_19
  have hfail : cQ m z sg n μ p c μ (false, p, []) := ⟨c, hc0, ⟨Nat.le_refl _, by simp only; omega⟩, cF_r m μ, fun _ _ => ⟨rfl, rfl⟩, fun h => absurd h (by simp)⟩
  by_cases e33 : sg p = 33
  · rw [if_pos e33, if_neg (by decide), if_neg (show ¬ nI 5 < 5 by decide), fm_z0, if_pos (Or.inl e33)]
    exact ⟨μ, rfl, hfail⟩
  · rw [if_neg e33, if_pos rfl, C_gr30 h0, C_gi30, h1, C_ld31 (by omega), h3 p h2]
    by_cases e40 : sg p = 40
    · rw [if_pos e40, if_neg (show ¬ nI 5 < 5 by decide), fm_z0, if_pos (Or.inr e40)]
      exact ⟨μ, rfl, hfail⟩
    · rw [if_neg e40, C_ck30, t1, fm_bi_s, fm_zB, if_neg (fun h => h.elim e33 e40)]
      exact ⟨μt, rfl, t2⟩
theorem k_partS (hs : sgI z sg) {L : Nat} (hL : L < 5) {F1 F2 F3 : Nat → Int32 → fm_M → Option (Int32 × fm_M)} (hE : cSim m z sg n (ei sg (pa sg L)) (fun S => F1 30 (nI (5 - L)) S)) (hP : cSim m z sg n (pa sg L) (fun S => F3 30 (nI (5 - L)) S)) : cSim m z sg n (pa sg (L + 1)) (fun S => s_X6_part (kC Kd) lC F1 F2 F3 30 (nI (5 - (L + 1))) S) := by
  intro μ p c hc hcp
  have hc0 := hc
  obtain ⟨⟨h0, h01, ht, hm, hz⟩, h1, h2, h3, h4⟩ := hc
  have hlt : nI (5 - (L + 1)) < (5 : Int32) := nI_lt (b := 5) (by omega) (by omega)
  have hnx : nI (5 - (L + 1)) + 1 = nI (5 - L) := by rw [nI_1, show 5 - (L + 1) + 1 = 5 - L by omega]
  show ∃ μ', s_X6_part (kC Kd) lC F1 F2 F3 30 (nI (5 - (L + 1))) (μ, n) = _ ∧ _
  unfold s_X6_part
  rw [C_gr30 h0, C_gi30, h1, C_ld31 (by omega), h3 p h2, pa_s, show fm_LF = 999 + 1 from rfl, b_X6_part_19]
  generalize b_X6_part_19 (kC Kd) lC F1 F2 F3 999 = G
  unfold k_X6_part_19
  by_cases e33 : sg p = 33
  · have hpz := sgI_n hs (show sg p ≠ -1 by rw [e33]; decide)
    have hc1 : cS m z sg n (wm μ 30 2 (nI (p + 1))) (p + 1) c := cS_p hc0 (by omega)
    obtain ⟨μ2, x1, c2, x2, ⟨x3, x4⟩, x5, x6, x7⟩ := hP _ (p + 1) c hc1 (by omega)
    have hpz2 := x2.2.2.1
    obtain ⟨μ3, y1, y2, y3, y4, y5, y6⟩ := k_add (Kd := Kd) x2 (show c2 < 100 by omega) 33 0
    rw [if_pos e33, if_neg (by decide), if_pos hlt, C_gi30, h1, C_pi30, nI_1 p, if_neg (by decide), C_ck30, hnx, show F3 30 (nI (5 - L)) (wm μ 30 2 (nI (p + 1)), n) = _ from x1, fm_bi_s, C_gr30 h01, C_ckt (by omega), y1, fm_b1_s, fm_zB, if_pos e33]
    refine ⟨μ3, rfl, c2 + 1, y2, ⟨by omega, by simp only; omega⟩, cF_t (cF_30 _ _ _ _) (cF_t x5 y3), ?_, fun hok => ?_⟩
    · exact cA_t (cA_30 _ _ _ _ _) (cA_t x6 (fun i hi => y4 i (by omega)))
    · obtain ⟨x8, x9⟩ := x7 hok
      refine ⟨by simp only [List.length_append, List.length_singleton]; omega, cdC_app _ _ _ (cdC_g _ _ (fun x hx1 hx2 => y4 x (by omega)) x9) ?_⟩
      rw [← x8]
      exact ⟨y5, y6, trivial⟩
  · rw [if_neg e33, if_pos rfl, C_gr30 h0, C_gi30, h1, C_ld31 (by omega), h3 p h2, if_neg e33]
    by_cases e40 : sg p = 40
    · have hpz := sgI_n hs (show sg p ≠ -1 by rw [e40]; decide)
      have hc1 : cS m z sg n (wm μ 30 2 (nI (p + 1))) (p + 1) c := cS_p hc0 (by omega)
      obtain ⟨μ2, x1, c2, x2, ⟨x3, x4⟩, x5, x6, x7⟩ := hE _ (p + 1) c hc1 (by omega)
      rw [if_pos e40, if_pos hlt, C_gi30, h1, C_pi30, nI_1 p, if_pos rfl, C_ck30, hnx, show F1 30 (nI (5 - L)) (wm μ 30 2 (nI (p + 1)), n) = _ from x1, fm_bi_s, if_pos e40]
      generalize hr : ei sg (pa sg L) (p + 1) = r at *
      obtain ⟨b, q, ops⟩ := r
      cases b with
      | false =>
        rw [if_pos (show b2i false = 0 from rfl), fm_z0, if_neg (fun h => absurd h.1 (by simp))]
        exact ⟨μ2, rfl, c2, x2, ⟨x3, by simp only at x4 ⊢; omega⟩, cF_t (cF_30 _ _ _ _) x5, cA_t (cA_30 _ _ _ _ _) x6, fun h => absurd h (by simp)⟩
      | true =>
        simp only at x2 x4 x7
        rw [if_neg (show ¬ b2i true = 0 by decide), C_ck30, k_take x2]
        by_cases e41 : sg q = 41
        · have hqz := sgI_n hs (show sg q ≠ -1 by rw [e41]; decide)
          rw [if_pos e41, fm_bi_s, if_neg (by decide), fm_z1, if_pos ⟨rfl, e41⟩]
          refine ⟨_, rfl, c2, cS_p x2 (by omega), ⟨x3, by simp only; omega⟩, cF_t (cF_30 _ _ _ _) (cF_t x5 (cF_30 _ _ _ _)), cA_t (cA_30 _ _ _ _ _) (cA_t x6 (cA_30 _ _ _ _ _)), fun _ => ?_⟩
          obtain ⟨x8, x9⟩ := x7 trivial
          exact ⟨x8, cdC_g _ _ (fun x _ _ => by rw [wm_r (by omega), wm_r (by omega)]; exact ⟨rfl, rfl⟩) x9⟩
        · rw [if_neg e41, fm_bi_s, if_pos rfl, fm_z0, if_neg (fun h => e41 h.2)]
          exact ⟨μ2, rfl, c2, x2, ⟨x3, by simp only; omega⟩, cF_t (cF_30 _ _ _ _) x5, cA_t (cA_30 _ _ _ _ _) x6, fun h => absurd h (by simp)⟩
    · obtain ⟨μt, t1, t2⟩ := k_tst (Kd := Kd) hs hc0 hcp
      rw [if_neg e40, C_ck30, t1, fm_bi_s, fm_zB, if_neg e40]
      exact ⟨μt, rfl, t2⟩
theorem k_lvl (hs : sgI z sg) : ∀ L, L ≤ 5 → ∀ M, cSim m z sg n (pa sg L) (fun S => (grp_rd (kC Kd) lC (M + 3 * L + 1)).2.2 30 (nI (5 - L)) S) ∧ cSim m z sg n (bo sg (pa sg L)) (fun S => (grp_rd (kC Kd) lC (M + 3 * L + 2)).2.1 30 (nI (5 - L)) S) ∧ cSim m z sg n (ei sg (pa sg L)) (fun S => (grp_rd (kC Kd) lC (M + 3 * L + 3)).1 30 (nI (5 - L)) S)
  | 0, _, M => by
    have h1 : ∀ M, cSim m z sg n (pa sg 0) (fun S => (grp_rd (kC Kd) lC (M + 1)).2.2 30 (nI 5) S) := fun M => k_part0 hs
    have h2 : ∀ M, cSim m z sg n (bo sg (pa sg 0)) (fun S => (grp_rd (kC Kd) lC (M + 2)).2.1 30 (nI 5) S) := fun M => k_both hs (h1 M)
    exact ⟨h1 M, h2 M, k_either hs (h2 M)⟩
  | L + 1, hL, M => by
    have ih := k_lvl hs L (by omega)
    have h1 : ∀ M, cSim m z sg n (pa sg (L + 1)) (fun S => (grp_rd (kC Kd) lC (M + 3 * (L + 1) + 1)).2.2 30 (nI (5 - (L + 1))) S) := fun M => k_partS hs (by omega) (ih M).2.2 (by
      have h := (ih (M + 2)).1
      rw [show M + 2 + 3 * L + 1 = M + 3 * (L + 1) by omega] at h
      exact h)
    have h2 : ∀ M, cSim m z sg n (bo sg (pa sg (L + 1))) (fun S => (grp_rd (kC Kd) lC (M + 3 * (L + 1) + 2)).2.1 30 (nI (5 - (L + 1))) S) := fun M => k_both hs (h1 M)
    exact ⟨h1 M, h2 M, k_either hs (h2 M)⟩
end R
