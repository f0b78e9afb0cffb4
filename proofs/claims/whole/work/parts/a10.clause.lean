/-! methods, both sides: town; the class's clauses -/
section R
variable {Kd : Nat → Nat} {m z : Nat} {sg : Nat → Int32} {n : Nat → Nat → Option Nat}
theorem k_tail (hs : sgI z sg) {x8 : Int32} {μ μ2 : Nat → Nat → Int32} {q2 c v : Nat} {st : Ts} (h : tS m z sg n μ2 q2 c st) (hf : tF m μ μ2) (hl : st.1.length < 10) (hv : v < 100) (h102 : ¬ x8 = 102) (h116 : ¬ x8 = 116) (h3 : μ2 30 3 = nI v) : ∃ μ', (fm_gi (kC Kd) 6 30 3 (μ2, n) fun x31 => if x8 = 102 then (fm_gr (kC Kd) 6 30 1 (μ2, n) fun q42 => fm_pi (kC Kd) 10 q42 0 (μ2, n) x31 fun S46 => fm_z 1 (some (1, S46))) else (if x8 = 116 then (fm_gr (kC Kd) 6 30 1 (μ2, n) fun q58 => fm_pi (kC Kd) 10 q58 1 (μ2, n) x31 fun S62 => fm_z 1 (some (1, S62))) else (fm_ck (kC Kd 30 == 6) <| fm_bi (m_X6_take (kC Kd) lC 30 32 (μ2, n)) fun x70 S70 => if x70 = 0 then (fm_let (0 : Int32) fun x89 => fm_gr (kC Kd) 6 30 1 S70 fun q91 => if x8 = 99 then (fm_ck (kC Kd q91 == 10) <| fm_b1 (m_X10_addClause (kC Kd) lC q91 x31 S70) fun S106 => fm_z x89 (some (x89, S106))) else (fm_ck (kC Kd q91 == 10) <| fm_b1 (m_X10_addClause (kC Kd) lC q91 (-x31) S70) fun S106 => fm_z x89 (some (x89, S106)))) else (fm_ck (kC Kd 30 == 6) <| fm_bi (m_X6_either fm_RF (kC Kd) lC 30 0 S70) fun x78 S78 => if x78 = 0 then (fm_let (0 : Int32) fun x89 => fm_gr (kC Kd) 6 30 1 S78 fun q91 => if x8 = 99 then (fm_ck (kC Kd q91 == 10) <| fm_b1 (m_X10_addClause (kC Kd) lC q91 x31 S78) fun S106 => fm_z x89 (some (x89, S106))) else (fm_ck (kC Kd q91 == 10) <| fm_b1 (m_X10_addClause (kC Kd) lC q91 (-x31) S78) fun S106 => fm_z x89 (some (x89, S106)))) else (fm_let (1 : Int32) fun x89 => fm_gr (kC Kd) 6 30 1 S78 fun q91 => if x8 = 99 then (fm_ck (kC Kd q91 == 10) <| fm_b1 (m_X10_addClause (kC Kd) lC q91 x31 S78) fun S106 => fm_z x89 (some (x89, S106))) else (fm_ck (kC Kd q91 == 10) <| fm_b1 (m_X10_addClause (kC Kd) lC q91 (-x31) S78) fun S106 => fm_z x89 (some (x89, S106)))))))) = some (b2i (if sg q2 = 32 then ((ei sg (pa sg 5) (q2 + 1)).1, (ei sg (pa sg 5) (q2 + 1)).2.1, (st.1 ++ [((ei sg (pa sg 5) (q2 + 1)).2.2, decide (wi x8 = 2), v)], st.2.1, st.2.2)) else ((false, q2, st) : Bool × Nat × Ts)).1, (μ', n)) ∧ cR m z sg n μ μ' (if sg q2 = 32 then ((ei sg (pa sg 5) (q2 + 1)).1, (ei sg (pa sg 5) (q2 + 1)).2.1, (st.1 ++ [((ei sg (pa sg 5) (q2 + 1)).2.2, decide (wi x8 = 2), v)], st.2.1, st.2.2)) else ((false, q2, st) : Bool × Nat × Ts)) := by
  obtain ⟨hc, hcp, ⟨f0, f1, f2, f3, f4, f5⟩, hsl, hcl⟩ := h
  have hc0 := hc
  obtain ⟨⟨h0, h01, ht, hm, hz⟩, h1, h2, h3', h4⟩ := hc
  have hadd : ∀ {μ4 : Nat → Nat → Int32} {p4 c4 : Nat} (b : Bool), cS m z sg n μ4 p4 c4 → μ4 (40 + 5 * m) 2 = nI st.1.length → ∃ μ5, (fm_let (b2i b) fun x89 => fm_gr (kC Kd) 6 30 1 (μ4, n) fun q91 => if x8 = 99 then (fm_ck (kC Kd q91 == 10) <| fm_b1 (m_X10_addClause (kC Kd) lC q91 (nI v) (μ4, n)) fun S106 => fm_z x89 (some (x89, S106))) else (fm_ck (kC Kd q91 == 10) <| fm_b1 (m_X10_addClause (kC Kd) lC q91 (-(nI v)) (μ4, n)) fun S106 => fm_z x89 (some (x89, S106)))) = some (b2i b, (μ5, n)) ∧ cS m z sg n μ5 p4 c4 ∧ (∀ r, r ≠ 40 + 5 * m → r ≠ 41 + 5 * m → r ≠ 42 + 5 * m → μ5 r = μ4 r) ∧ (∀ y, y ≠ 2 → μ5 (40 + 5 * m) y = μ4 (40 + 5 * m) y) ∧ μ5 (40 + 5 * m) 2 = nI (st.1.length + 1) ∧ (∀ y, y ≠ st.1.length → μ5 (41 + 5 * m) y = μ4 (41 + 5 * m) y ∧ μ5 (42 + 5 * m) y = μ4 (42 + 5 * m) y) ∧ μ5 (41 + 5 * m) st.1.length = (if decide (wi x8 = 2) = true then nI v else - nI v) ∧ μ5 (42 + 5 * m) st.1.length = nI c4 := by
    intro μ4 p4 c4 b hc4 hk4
    by_cases h99 : x8 = 99
    · obtain ⟨μ5, a1, a2, a3, a4, a5, a6, a7, a8⟩ := k_addCl (Kd := Kd) hc4 hk4 hl (nI v)
      refine ⟨μ5, ?_, a2, a3, a4, a5, a6, ?_, a8⟩
      · rw [R_let, C_gr30 h01, if_pos h99, C_ckt (by omega), a1, fm_b1_s, fm_zB]
      · rw [a7, decide_eq_true ((wi_e x8).2.2.1 h99), if_pos rfl]
    · obtain ⟨μ5, a1, a2, a3, a4, a5, a6, a7, a8⟩ := k_addCl (Kd := Kd) hc4 hk4 hl (-(nI v))
      refine ⟨μ5, ?_, a2, a3, a4, a5, a6, ?_, a8⟩
      · rw [R_let, C_gr30 h01, if_neg h99, C_ckt (by omega), a1, fm_b1_s, fm_zB]
      · rw [a7, decide_eq_false (fun h => h99 ((wi_e x8).2.2.2 h)), if_neg (by decide)]
  rw [C_gi30, h3, if_neg h102, if_neg h116, C_ck30, k_take hc0]
  by_cases hsp : sg q2 = 32
  · have hqz := sgI_n hs (show sg q2 ≠ -1 by rw [hsp]; decide)
    rw [if_pos hsp, if_pos hsp, fm_bi_s, if_neg (by decide), C_ck30]
    have hc1 : cS m z sg n (wm μ2 30 2 (nI (q2 + 1))) (q2 + 1) c := cS_p hc0 (by omega)
    obtain ⟨μ4, x1, c4, x2, ⟨x3, x4⟩, x5, x6, x7⟩ := (k_lvl (Kd := Kd) (n := n) hs 5 (by omega) 42).2.2 _ (q2 + 1) c hc1 (by omega)
    have x1' : m_X6_either fm_RF (kC Kd) lC 30 0 (wm μ2 30 2 (nI (q2 + 1)), n) = some (b2i (ei sg (pa sg 5) (q2 + 1)).1, (μ4, n)) := x1
    obtain ⟨g1, g2, g3⟩ := ei_gd hs (pa_gd hs 5) (q2 + 1) (by omega)
    have e2 : μ4 (40 + 5 * m) 2 = nI st.1.length := by rw [x5.2 2 (by omega), wm_r (by omega)]; exact f2
    obtain ⟨μ5, a1, a2, a3, a4, a5, a6, a7, a8⟩ := hadd (ei sg (pa sg 5) (q2 + 1)).1 x2 e2
    have hF : tF m μ μ5 := tF_t hf (tF_t (tF_30 (fun r hr => wm_r hr)) (tF_t (tF_c x5) (fun r b1 b2 b3 => a3 r (by omega) (by omega) (by omega))))
    rw [x1', fm_bi_s]
    generalize ei sg (pa sg 5) (q2 + 1) = r at *
    obtain ⟨b, q, ops⟩ := r
    cases b with
    | false =>
      rw [if_pos (show b2i false = 0 from rfl)]
      exact ⟨μ5, a1, hF, ⟨c4, a2⟩, fun h => absurd h (by simp)⟩
    | true =>
      rw [if_neg (show ¬ b2i true = 0 by decide)]
      refine ⟨μ5, a1, hF, ⟨c4, a2⟩, fun _ => ⟨c4, a2, ?_, ⟨?_, ?_, ?_, ?_, f4, f5⟩, ?_, ?_⟩⟩
      · simp only at x4 ⊢
        omega
      · rw [a4 0 (by omega), x5.2 0 (by omega), wm_r (by omega)]; exact f0
      · rw [a4 1 (by omega), x5.2 1 (by omega), wm_r (by omega)]; exact f1
      · rw [a5]
        simp only [List.length_append, List.length_singleton]
      · simp only [List.length_append, List.length_singleton]
        omega
      · obtain ⟨x8', x9⟩ := x7 rfl
        simp only at x8' ⊢
        rw [sL_app, x8', hsl]
        show sL st.1 + ops.length = sL st.1 + (ops.length + 0)
        omega
      · obtain ⟨x8', x9⟩ := x7 rfl
        obtain ⟨g4, g5, g6⟩ := g3 rfl
        simp only at x8' x9 g1 g4 g5 g6 x4
        have e43 : μ5 (43 + 5 * m) = μ4 (43 + 5 * m) := a3 _ (by omega) (by omega) (by omega)
        have e44 : μ5 (44 + 5 * m) = μ4 (44 + 5 * m) := a3 _ (by omega) (by omega) (by omega)
        rw [e43, e44]
        refine clC_app st.1 0 0 (clC_g _ _ _ (fun x b1 b2 => ?_) (fun y b1 b2 => ?_) hcl) ?_ (g6 0 (by omega)) hv ?_ ?_ ?_
        · have e6 := x6 x (by omega)
          rw [wm_r (by omega), wm_r (by omega)] at e6
          exact e6
        · have e7 := a6 y (by omega)
          rw [e7.1, e7.2, x5.1 (41 + 5 * m) (by omega) (by omega) (by omega) (by omega), x5.1 (42 + 5 * m) (by omega) (by omega) (by omega) (by omega), wm_r (by omega), wm_r (by omega)]
          exact ⟨rfl, rfl⟩
        · rw [Nat.zero_add, ← hsl]
          exact x9
        · rw [Nat.zero_add, ← hsl]
          show c + ops.length ≤ 100
          omega
        · rw [Nat.zero_add, Nat.zero_add, a8, x8', hsl]
        · rw [Nat.zero_add, a7]
  · rw [if_neg hsp, if_neg hsp, fm_bi_s, if_pos rfl]
    obtain ⟨μ5, a1, a2, a3, a4, a5, a6, a7, a8⟩ := hadd false hc0 f2
    exact ⟨μ5, a1, tF_t hf (fun r b1 b2 b3 => a3 r (by omega) (by omega) (by omega)), ⟨c, a2⟩, fun h => absurd h (by simp)⟩
end R
