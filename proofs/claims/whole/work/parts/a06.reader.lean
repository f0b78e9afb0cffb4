/-! methods, both sides: town; the class's reader: loops -/
def cSim (m z : Nat) (sg : Nat → Int32) (n : Nat → Nat → Option Nat) (f : Nat → Bool × Nat × List Op) (F : fm_M → Option (Int32 × fm_M)) : Prop := ∀ (μ : Nat → Nat → Int32) (p c : Nat), cS m z sg n μ p c → c ≤ p → ∃ μ', F (μ, n) = some (b2i (f p).1, (μ', n)) ∧ cQ m z sg n μ p c μ' (f p)
section R
variable {Kd : Nat → Nat} {m z : Nat} {sg : Nat → Int32} {n : Nat → Nat → Option Nat}
theorem k_bothl (hs : sgI z sg) {F1 F2 F3 : Nat → Int32 → fm_M → Option (Int32 × fm_M)} {f : Nat → Bool × Nat × List Op} {a1 : Int32} (hF : cSim m z sg n f (fun S => F3 30 a1 S)) {μ0 : Nat → Nat → Int32} {p0 c0 : Nat} (hc0 : c0 ≤ p0) : ∀ (d i fuel : Nat) (μ : Nat → Nat → Int32) (st : Bool × Nat × List Op), i + d = 100 → cQ m z sg n μ0 p0 c0 μ st → ∃ μ', b_X6_both_8 (kC Kd) lC F1 F2 F3 (fuel + d + 1) 30 a1 (b2i st.1) (nI i) (μ, n) = some (b2i (lp sg f 38 (7, 0, 0) d st).1, (μ', n)) ∧ cQ m z sg n μ0 p0 c0 μ' (lp sg f 38 (7, 0, 0) d st) := by
  intro d
  induction d with
  | zero =>
    intro i fuel μ st hi hq
    have hi : i = 100 := hi
    subst hi
    refine ⟨μ, ?_, hq⟩
    rw [b_X6_both_8]
    unfold k_X6_both_8
    rw [if_pos (show (100 : Int32) ≤ nI 100 by decide), fm_zB]
    rfl
  | succ d ih =>
    intro i fuel μ st hi hq
    obtain ⟨b, q, ops⟩ := st
    have hlp : lp sg f 38 (7, 0, 0) (d + 1) (b, q, ops) = if b = true ∧ sg q = 38 then lp sg f 38 (7, 0, 0) d ((f (q + 1)).1, (f (q + 1)).2.1, ops ++ (f (q + 1)).2.2 ++ [(7, 0, 0)]) else (b, q, ops) := rfl
    have hn100 : ¬ (100 : Int32) ≤ nI i := nI_ge (b := 100) (by omega) (by omega)
    rw [hlp, show fuel + (d + 1) + 1 = fuel + d + 1 + 1 by omega, b_X6_both_8]
    have ih' := ih (i + 1) fuel
    generalize b_X6_both_8 (kC Kd) lC F1 F2 F3 (fuel + d + 1) = G at ih' ⊢
    unfold k_X6_both_8
    rw [if_neg hn100]
    cases b with
    | false =>
      rw [if_pos (show b2i false = 0 from rfl), fm_zB, if_neg (fun h => absurd h.1 (by decide))]
      exact ⟨μ, rfl, hq⟩
    | true =>
      have hq0 := hq
      obtain ⟨c', h1, ⟨h2, h3⟩, h4, h5, h6⟩ := hq
      simp only at h1 h3 h6
      rw [if_neg (show ¬ b2i true = 0 by decide), C_ck30, k_take h1]
      by_cases hsq : sg q = 38
      · have hqz := sgI_n hs (show sg q ≠ -1 by rw [hsq]; decide)
        rw [if_pos hsq, if_pos ⟨rfl, hsq⟩, fm_bi_s, if_neg (by decide), C_ck30]
        have hc1 : cS m z sg n (wm μ 30 2 (nI (q + 1))) (q + 1) c' := cS_p h1 (by omega)
        obtain ⟨μ2, x1, c2, x2, ⟨x3, x4⟩, x5, x6, x7⟩ := hF (wm μ 30 2 (nI (q + 1))) (q + 1) c' hc1 (by omega)
        have hz := x2.1.2.2.2.2
        have hm := x2.1.2.2.2.1
        have n1 := x2.1.2.1
        have hpz := x2.2.2.1
        obtain ⟨μ3, y1, y2, y3, y4, y5, y6⟩ := k_add (Kd := Kd) x2 (show c2 < 100 by omega) 38 0
        rw [show F3 30 a1 (wm μ 30 2 (nI (q + 1)), n) = _ from x1, fm_bi_s, C_gr30 n1, C_ckt (by omega), y1, fm_b1_s, R_let, nI_1]
        refine ih' μ3 ((f (q + 1)).1, (f (q + 1)).2.1, ops ++ (f (q + 1)).2.2 ++ [(7, 0, 0)]) (by omega) ⟨c2 + 1, y2, ⟨by omega, show c2 + 1 + p0 ≤ (f (q + 1)).2.1 + c0 by omega⟩, cF_t h4 (cF_t (cF_30 _ _ _ _) (cF_t x5 y3)), ?_, fun hok => ?_⟩
        · exact cA_t h5 (cA_t (cA_30 _ _ _ _ _) (cA_t (fun i hi => x6 i (by omega)) (fun i hi => y4 i (by omega))))
        · obtain ⟨x8, x9⟩ := x7 hok
          obtain ⟨h8, h9⟩ := h6 trivial
          refine ⟨by simp only [List.length_append, List.length_singleton]; omega, ?_⟩
          refine cdC_app _ _ _ (cdC_app _ _ _ (cdC_g _ _ (fun x hx1 hx2 => ?_) h9) ?_) ?_
          · have e1 := y4 x (by omega)
            have e2 := x6 x (by omega)
            rw [e1.1, e1.2, e2.1, e2.2, wm_r (by omega), wm_r (by omega)]
            exact ⟨rfl, rfl⟩
          · rw [← h8]
            exact cdC_g _ _ (fun x hx1 hx2 => y4 x (by omega)) x9
          · rw [show c0 + (ops ++ (f (q + 1)).2.2).length = c2 by rw [List.length_append]; omega]
            exact ⟨y5, y6, trivial⟩
      · rw [if_neg hsq, if_neg (fun h => hsq h.2), fm_bi_s, if_pos rfl, fm_zB]
        exact ⟨μ, rfl, hq0⟩
theorem k_eitherl (hs : sgI z sg) {F1 F2 F3 : Nat → Int32 → fm_M → Option (Int32 × fm_M)} {f : Nat → Bool × Nat × List Op} {a1 : Int32} (hF : cSim m z sg n f (fun S => F2 30 a1 S)) {μ0 : Nat → Nat → Int32} {p0 c0 : Nat} (hc0 : c0 ≤ p0) : ∀ (d i fuel : Nat) (μ : Nat → Nat → Int32) (st : Bool × Nat × List Op), i + d = 100 → cQ m z sg n μ0 p0 c0 μ st → ∃ μ', b_X6_either_8 (kC Kd) lC F1 F2 F3 (fuel + d + 1) 30 a1 (b2i st.1) (nI i) (μ, n) = some (b2i (lp sg f 124 (8, 0, 0) d st).1, (μ', n)) ∧ cQ m z sg n μ0 p0 c0 μ' (lp sg f 124 (8, 0, 0) d st) := by
  intro d
  induction d with
  | zero =>
    intro i fuel μ st hi hq
    have hi : i = 100 := hi
    subst hi
    refine ⟨μ, ?_, hq⟩
    rw [b_X6_either_8]
    unfold k_X6_either_8
    rw [if_pos (show (100 : Int32) ≤ nI 100 by decide), fm_zB]
    rfl
  | succ d ih =>
    intro i fuel μ st hi hq
    obtain ⟨b, q, ops⟩ := st
    have hlp : lp sg f 124 (8, 0, 0) (d + 1) (b, q, ops) = if b = true ∧ sg q = 124 then lp sg f 124 (8, 0, 0) d ((f (q + 1)).1, (f (q + 1)).2.1, ops ++ (f (q + 1)).2.2 ++ [(8, 0, 0)]) else (b, q, ops) := rfl
    have hn100 : ¬ (100 : Int32) ≤ nI i := nI_ge (b := 100) (by omega) (by omega)
    rw [hlp, show fuel + (d + 1) + 1 = fuel + d + 1 + 1 by omega, b_X6_either_8]
    have ih' := ih (i + 1) fuel
    generalize b_X6_either_8 (kC Kd) lC F1 F2 F3 (fuel + d + 1) = G at ih' ⊢
    unfold k_X6_either_8
    rw [if_neg hn100]
    cases b with
    | false =>
      rw [if_pos (show b2i false = 0 from rfl), fm_zB, if_neg (fun h => absurd h.1 (by decide))]
      exact ⟨μ, rfl, hq⟩
    | true =>
      have hq0 := hq
      obtain ⟨c', h1, ⟨h2, h3⟩, h4, h5, h6⟩ := hq
      simp only at h1 h3 h6
      rw [if_neg (show ¬ b2i true = 0 by decide), C_ck30, k_take h1]
      by_cases hsq : sg q = 124
      · have hqz := sgI_n hs (show sg q ≠ -1 by rw [hsq]; decide)
        rw [if_pos hsq, if_pos ⟨rfl, hsq⟩, fm_bi_s, if_neg (by decide), C_ck30]
        have hc1 : cS m z sg n (wm μ 30 2 (nI (q + 1))) (q + 1) c' := cS_p h1 (by omega)
        obtain ⟨μ2, x1, c2, x2, ⟨x3, x4⟩, x5, x6, x7⟩ := hF (wm μ 30 2 (nI (q + 1))) (q + 1) c' hc1 (by omega)
        have hz := x2.1.2.2.2.2
        have hm := x2.1.2.2.2.1
        have n1 := x2.1.2.1
        have hpz := x2.2.2.1
        obtain ⟨μ3, y1, y2, y3, y4, y5, y6⟩ := k_add (Kd := Kd) x2 (show c2 < 100 by omega) 124 0
        rw [show F2 30 a1 (wm μ 30 2 (nI (q + 1)), n) = _ from x1, fm_bi_s, C_gr30 n1, C_ckt (by omega), y1, fm_b1_s, R_let, nI_1]
        refine ih' μ3 ((f (q + 1)).1, (f (q + 1)).2.1, ops ++ (f (q + 1)).2.2 ++ [(8, 0, 0)]) (by omega) ⟨c2 + 1, y2, ⟨by omega, show c2 + 1 + p0 ≤ (f (q + 1)).2.1 + c0 by omega⟩, cF_t h4 (cF_t (cF_30 _ _ _ _) (cF_t x5 y3)), ?_, fun hok => ?_⟩
        · exact cA_t h5 (cA_t (cA_30 _ _ _ _ _) (cA_t (fun i hi => x6 i (by omega)) (fun i hi => y4 i (by omega))))
        · obtain ⟨x8, x9⟩ := x7 hok
          obtain ⟨h8, h9⟩ := h6 trivial
          refine ⟨by simp only [List.length_append, List.length_singleton]; omega, ?_⟩
          refine cdC_app _ _ _ (cdC_app _ _ _ (cdC_g _ _ (fun x hx1 hx2 => ?_) h9) ?_) ?_
          · have e1 := y4 x (by omega)
            have e2 := x6 x (by omega)
            rw [e1.1, e1.2, e2.1, e2.2, wm_r (by omega), wm_r (by omega)]
            exact ⟨rfl, rfl⟩
          · rw [← h8]
            exact cdC_g _ _ (fun x hx1 hx2 => y4 x (by omega)) x9
          · rw [show c0 + (ops ++ (f (q + 1)).2.2).length = c2 by rw [List.length_append]; omega]
            exact ⟨y5, y6, trivial⟩
      · rw [if_neg hsq, if_neg (fun h => hsq h.2), fm_bi_s, if_pos rfl, fm_zB]
        exact ⟨μ, rfl, hq0⟩
end R
