/-! LAW: each method on both sides (tool/law.py prints them) -/
theorem lq_feed {l : Launch} {D : va_G} {ids : Nat → Nat} (a : Int32) : lw_ok l D ids y_X11_feed prog_1_method_2_code 2 2 y_X12_feed prog_14_method_8_code 2 1 [.int a] := by
  intro Kd N μ n ρ RL ad adT sk sv hR hC hE hT
  obtain ⟨r, μ1, ρ1, e1, e2, hR1⟩ := x_feed hR a
  obtain ⟨g1, g2⟩ := g_m_X11_feed gR_0 hC _ e1
  exact ⟨r, μ1, n, ρ1, fun sz => c_X11_feed hE g1 sz, fun sz => c_X12_feed hT e2 sz, hR1, g2⟩
theorem lq_town {l : Launch} {D : va_G} {ids : Nat → Nat} : lw_ok l D ids y_X11_town prog_1_method_3_code 2 65 y_X12_town prog_14_method_21_code 2 70 [] := by
  intro Kd N μ n ρ RL ad adT sk sv hR hC hE hT
  obtain ⟨r, μ1, n1, ρ1, e1, e2, hR1⟩ := x_town hR
  obtain ⟨g1, g2⟩ := g_m_X11_town gR_0 hC _ e1
  exact ⟨r, μ1, n1, ρ1, fun sz => c_X11_town hE g1 sz, fun sz => c_X12_town hT e2 sz, hR1, g2⟩
theorem lq_of {l : Launch} {D : va_G} {ids : Nat → Nat} (a b : Int32) : lw_ok l D ids y_X11_of prog_1_method_5_code 4 2 y_X12_of prog_14_method_30_code 3 2 [.int a, .int b] := by
  intro Kd N μ n ρ RL ad adT sk sv hR hC hE hT
  obtain ⟨r, e1, e2⟩ := x_of hR a b
  obtain ⟨g1, g2⟩ := g_m_X11_of gR_0 hC _ e1
  exact ⟨r, μ, n, ρ, fun sz => c_X11_of hE g1 sz, fun sz => c_X12_of hT e2 sz, hR, hC⟩
theorem lq_grows {l : Launch} {D : va_G} {ids : Nat → Nat} (a b : Int32) : lw_ok l D ids y_X11_grows prog_1_method_6_code 3 5 y_X12_grows prog_14_method_31_code 3 3 [.int a, .int b] := by
  intro Kd N μ n ρ RL ad adT sk sv hR hC hE hT
  obtain ⟨r, μ1, n1, ρ1, e1, e2, hR1⟩ := x_grows hR a b
  obtain ⟨g1, g2⟩ := g_m_X11_grows gR_0 hC _ e1
  exact ⟨r, μ1, n1, ρ1, fun sz => c_X11_grows hE g1 sz, fun sz => c_X12_grows hT e2 sz, hR1, g2⟩
theorem lq_row {l : Launch} {D : va_G} {ids : Nat → Nat} (a b d : Int32) : lw_ok l D ids y_X11_row prog_1_method_7_code 6 2 y_X12_row prog_14_method_32_code 4 2 [.int a, .int b, .int d] := by
  intro Kd N μ n ρ RL ad adT sk sv hR hC hE hT
  obtain ⟨r, μ1, ρ1, e1, e2, hR1⟩ := x_row hR a b d
  obtain ⟨g1, g2⟩ := g_m_X11_row gR_0 hC _ e1
  exact ⟨r, μ1, n, ρ1, fun sz => c_X11_row hE g1 sz, fun sz => c_X12_row hT e2 sz, hR1, g2⟩
theorem lq_set {l : Launch} {D : va_G} {ids : Nat → Nat} (a b d : Int32) : lw_ok l D ids y_X11_set prog_1_method_8_code 6 2 y_X12_set prog_14_method_33_code 4 2 [.int a, .int b, .int d] := by
  intro Kd N μ n ρ RL ad adT sk sv hR hC hE hT
  obtain ⟨r, μ1, ρ1, e1, e2, hR1⟩ := x_set hR a b d
  obtain ⟨g1, g2⟩ := g_m_X11_set gR_0 hC _ e1
  exact ⟨r, μ1, n, ρ1, fun sz => c_X11_set hE g1 sz, fun sz => c_X12_set hT e2 sz, hR1, g2⟩
theorem lq_cold {l : Launch} {D : va_G} {ids : Nat → Nat} (a : Int32) : lw_ok l D ids y_X11_cold prog_1_method_9_code 3 1 y_X12_cold prog_14_method_34_code 2 1 [.int a] := by
  intro Kd N μ n ρ RL ad adT sk sv hR hC hE hT
  obtain ⟨r, μ1, ρ1, e1, e2, hR1⟩ := x_cold hR a
  obtain ⟨g1, g2⟩ := g_m_X11_cold gR_0 hC _ e1
  exact ⟨r, μ1, n, ρ1, fun sz => c_X11_cold hE g1 sz, fun sz => c_X12_cold hT e2 sz, hR1, g2⟩
theorem lq_shut {l : Launch} {D : va_G} {ids : Nat → Nat} (a b : Int32) (hb : b = 0 ∨ b = 1) : lw_ok l D ids y_X11_shut prog_1_method_10_code 4 2 y_X12_shut prog_14_method_35_code 3 2 [.int a, .int b] := by
  intro Kd N μ n ρ RL ad adT sk sv hR hC hE hT
  obtain ⟨r, μ1, ρ1, e1, e2, hR1⟩ := x_shut hR a b hb
  obtain ⟨g1, g2⟩ := g_m_X11_shut gR_0 hC _ e1
  exact ⟨r, μ1, n, ρ1, fun sz => c_X11_shut hE g1 sz, fun sz => c_X12_shut hT e2 sz, hR1, g2⟩
theorem lq_breathe {l : Launch} {D : va_G} {ids : Nat → Nat} (a : Int32) : lw_ok l D ids y_X11_breathe prog_1_method_11_code 3 2 y_X12_breathe prog_14_method_38_code 3 3 [.int a] := by
  intro Kd N μ n ρ RL ad adT sk sv hR hC hE hT
  obtain ⟨r, μ1, ρ1, e1, e2, hR1⟩ := x_breathe hR a
  obtain ⟨g1, g2⟩ := g_m_X11_breathe gR_0 hC _ e1
  exact ⟨r, μ1, n, ρ1, fun sz => c_X11_breathe hE g1 sz, fun sz => c_X12_breathe hT e2 sz, hR1, g2⟩
theorem lq_told {l : Launch} {D : va_G} {ids : Nat → Nat} (a : Int32) : lw_ok l D ids y_X11_told prog_1_method_12_code 2 7 y_X12_told prog_14_method_40_code 2 3 [.int a] := by
  intro Kd N μ n ρ RL ad adT sk sv hR hC hE hT
  obtain ⟨r, μ1, n1, e1, e2, hR1⟩ := x_told hR a
  obtain ⟨g1, g2⟩ := g_m_X11_told gR_0 hC _ e1
  exact ⟨r, μ1, n1, ρ, fun sz => c_X11_told hE g1 sz, fun sz => c_X12_told hT e2 sz, hR1, g2⟩
theorem lq_pass {l : Launch} {D : va_G} {ids : Nat → Nat} (a : Int32) : lw_ok l D ids y_X11_pass prog_1_method_13_code 3 7 y_X12_pass prog_14_method_46_code 2 7 [.int a] := by
  intro Kd N μ n ρ RL ad adT sk sv hR hC hE hT
  obtain ⟨r, μ1, n1, ρ1, e1, e2, hR1⟩ := x_pass hR a
  obtain ⟨g1, g2⟩ := g_m_X11_pass gR_0 hC _ e1
  exact ⟨r, μ1, n1, ρ1, fun sz => c_X11_pass hE g1 sz, fun sz => c_X12_pass hT e2 sz, hR1, g2⟩
theorem lq_on {l : Launch} {D : va_G} {ids : Nat → Nat} (a b : Int32) : lw_ok l D ids y_X11_on prog_1_method_14_code 4 7 y_X12_on prog_14_method_47_code 4 7 [.int a, .int b] := by
  intro Kd N μ n ρ RL ad adT sk sv hR hC hE hT
  obtain ⟨r, μ1, n1, ρ1, e1, e2, hR1⟩ := x_on hR a b
  obtain ⟨g1, g2⟩ := g_m_X11_on gR_0 hC _ e1
  exact ⟨r, μ1, n1, ρ1, fun sz => c_X11_on hE g1 sz, fun sz => c_X12_on hT e2 sz, hR1, g2⟩
theorem lq_best {l : Launch} {D : va_G} {ids : Nat → Nat} (a b d : Int32) : lw_ok l D ids y_X11_best prog_1_method_15_code 8 5 y_X12_best prog_14_method_48_code 8 6 [.int a, .int b, .int d] := by
  intro Kd N μ n ρ RL ad adT sk sv hR hC hE hT
  obtain ⟨r, μ1, n1, ρ1, e1, e2, hR1⟩ := x_best hR a b d
  obtain ⟨g1, g2⟩ := g_m_X11_best gR_0 hC _ e1
  exact ⟨r, μ1, n1, ρ1, fun sz => c_X11_best hE g1 sz, fun sz => c_X12_best hT e2 sz, hR1, g2⟩
theorem lq_heat {l : Launch} {D : va_G} {ids : Nat → Nat} (a b d : Int32) : lw_ok l D ids y_X11_heat prog_1_method_16_code 8 6 y_X12_heat prog_14_method_49_code 8 6 [.int a, .int b, .int d] := by
  intro Kd N μ n ρ RL ad adT sk sv hR hC hE hT
  obtain ⟨r, μ1, n1, ρ1, e1, e2, hR1⟩ := x_heat hR a b d
  obtain ⟨g1, g2⟩ := g_m_X11_heat gR_0 hC _ e1
  exact ⟨r, μ1, n1, ρ1, fun sz => c_X11_heat hE g1 sz, fun sz => c_X12_heat hT e2 sz, hR1, g2⟩
theorem lq_comes {l : Launch} {D : va_G} {ids : Nat → Nat} (a b : Int32) : lw_ok l D ids y_X11_comes prog_1_method_17_code 5 5 y_X12_comes prog_14_method_50_code 5 6 [.int a, .int b] := by
  intro Kd N μ n ρ RL ad adT sk sv hR hC hE hT
  obtain ⟨r, μ1, n1, ρ1, e1, e2, hR1⟩ := x_comes hR a b
  obtain ⟨g1, g2⟩ := g_m_X11_comes gR_0 hC _ e1
  exact ⟨r, μ1, n1, ρ1, fun sz => c_X11_comes hE g1 sz, fun sz => c_X12_comes hT e2 sz, hR1, g2⟩
theorem lq_breaths {l : Launch} {D : va_G} {ids : Nat → Nat} (a b : Int32) : lw_ok l D ids y_X11_breaths prog_1_method_18_code 8 7 y_X12_breaths prog_14_method_55_code 4 63 [.int a, .int b] := by
  intro Kd N μ n ρ RL ad adT sk sv hR hC hE hT
  obtain ⟨r, μ1, n1, ρ1, e1, e2, hR1⟩ := x_breaths hR a b
  obtain ⟨g1, g2⟩ := g_m_X11_breaths gR_0 hC _ e1
  exact ⟨r, μ1, n1, ρ1, fun sz => c_X11_breaths hE g1 sz, fun sz => c_X12_breaths hT e2 sz, hR1, g2⟩
theorem lq_see {l : Launch} {D : va_G} {ids : Nat → Nat} (a b d : Int32) : lw_ok l D ids y_X11_see prog_1_method_19_code 4 2 y_X12_see prog_14_method_56_code 4 2 [.int a, .int b, .int d] := by
  intro Kd N μ n ρ RL ad adT sk sv hR hC hE hT
  obtain ⟨r, μ1, ρ1, e1, e2, hR1⟩ := x_see hR a b d
  obtain ⟨g1, g2⟩ := g_m_X11_see gR_0 hC _ e1
  exact ⟨r, μ1, n, ρ1, fun sz => c_X11_see hE g1 sz, fun sz => c_X12_see hT e2 sz, hR1, g2⟩
theorem lq_colds {l : Launch} {D : va_G} {ids : Nat → Nat} (a : Int32) : lw_ok l D ids y_X11_colds prog_1_method_20_code 5 7 y_X12_colds prog_14_method_59_code 2 8 [.int a] := by
  intro Kd N μ n ρ RL ad adT sk sv hR hC hE hT
  obtain ⟨r, μ1, n1, ρ1, e1, e2, hR1⟩ := x_colds hR a
  obtain ⟨g1, g2⟩ := g_m_X11_colds gR_0 hC _ e1
  exact ⟨r, μ1, n1, ρ1, fun sz => c_X11_colds hE g1 sz, fun sz => c_X12_colds hT e2 sz, hR1, g2⟩
theorem lq_warms {l : Launch} {D : va_G} {ids : Nat → Nat} (a : Int32) : lw_ok l D ids y_X11_warms prog_1_method_21_code 4 7 y_X12_warms prog_14_method_60_code 4 7 [.int a] := by
  intro Kd N μ n ρ RL ad adT sk sv hR hC hE hT
  obtain ⟨r, μ1, n1, ρ1, e1, e2, hR1⟩ := x_warms hR a
  obtain ⟨g1, g2⟩ := g_m_X11_warms gR_0 hC _ e1
  exact ⟨r, μ1, n1, ρ1, fun sz => c_X11_warms hE g1 sz, fun sz => c_X12_warms hT e2 sz, hR1, g2⟩
theorem lq_firm {l : Launch} {D : va_G} {ids : Nat → Nat} (a b : Int32) : lw_ok l D ids y_X11_firm prog_1_method_22_code 6 7 y_X12_firm prog_14_method_61_code 3 8 [.int a, .int b] := by
  intro Kd N μ n ρ RL ad adT sk sv hR hC hE hT
  obtain ⟨r, μ1, n1, ρ1, e1, e2, hR1⟩ := x_firm hR a b
  obtain ⟨g1, g2⟩ := g_m_X11_firm gR_0 hC _ e1
  exact ⟨r, μ1, n1, ρ1, fun sz => c_X11_firm hE g1 sz, fun sz => c_X12_firm hT e2 sz, hR1, g2⟩
theorem lq_odds {l : Launch} {D : va_G} {ids : Nat → Nat} (a b d e : Int32) : lw_okL l D ids y_X11_odds prog_1_method_23_code 8 6 y_X12_odds prog_14_method_63_code 8 6 [.int a, .int b, .int d, .int e] := by
  intro Kd N μ n ρ RL ad adT sk sv hR hC hE hT
  obtain ⟨r, μ1, n1, ρ1, e1, e2, hR1⟩ := x_odds hR a b d e
  obtain ⟨g1, g2⟩ := g_m_X11_odds gR_0 hC _ e1
  exact ⟨r, μ1, n1, ρ1, fun sz => c_X11_odds hE g1 sz, fun sz => c_X12_odds hT e2 sz, hR1, g2⟩
theorem lq_mean {l : Launch} {D : va_G} {ids : Nat → Nat} (a : Int32) : lw_okL l D ids y_X11_mean prog_1_method_24_code 2 7 y_X12_mean prog_14_method_64_code 2 3 [.int a] := by
  intro Kd N μ n ρ RL ad adT sk sv hR hC hE hT
  obtain ⟨r, μ1, n1, ρ1, e1, e2, e3, hR1⟩ := x_mean hR a
  subst e3
  obtain ⟨g1, g2⟩ := g_m_X11_mean gR_0 hC _ e1
  exact ⟨r, μ1, n1, _, fun sz => c_X11_mean hE g1 sz, fun sz => c_X12_mean hT e2 sz, hR1, g2⟩
theorem lq_plan {l : Launch} {D : va_G} {ids : Nat → Nat} (a b : Int32) : lw_ok l D ids y_X11_plan prog_1_method_25_code 3 2 y_X12_plan prog_14_method_65_code 3 2 [.int a, .int b] := by
  intro Kd N μ n ρ RL ad adT sk sv hR hC hE hT
  obtain ⟨r, μ1, ρ1, e1, e2, hR1⟩ := x_plan hR a b
  obtain ⟨g1, g2⟩ := g_m_X11_plan gR_0 hC _ e1
  exact ⟨r, μ1, n, ρ1, fun sz => c_X11_plan hE g1 sz, fun sz => c_X12_plan hT e2 sz, hR1, g2⟩
theorem lq_done {l : Launch} {D : va_G} {ids : Nat → Nat} (a : Int32) : lw_ok l D ids y_X11_done prog_1_method_26_code 6 6 y_X12_done prog_14_method_67_code 3 7 [.int a] := by
  intro Kd N μ n ρ RL ad adT sk sv hR hC hE hT
  obtain ⟨r, μ1, n1, ρ1, e1, e2, hR1⟩ := x_done hR a
  obtain ⟨g1, g2⟩ := g_m_X11_done gR_0 hC _ e1
  exact ⟨r, μ1, n1, ρ1, fun sz => c_X11_done hE g1 sz, fun sz => c_X12_done hT e2 sz, hR1, g2⟩
theorem lq_book {l : Launch} {D : va_G} {ids : Nat → Nat} (a b : Int32) : lw_ok l D ids y_X11_book prog_1_method_27_code 3 2 y_X12_book prog_14_method_68_code 3 2 [.int a, .int b] := by
  intro Kd N μ n ρ RL ad adT sk sv hR hC hE hT
  obtain ⟨r, μ1, ρ1, e1, e2, hR1⟩ := x_book hR a b
  obtain ⟨g1, g2⟩ := g_m_X11_book gR_0 hC _ e1
  exact ⟨r, μ1, n, ρ1, fun sz => c_X11_book hE g1 sz, fun sz => c_X12_book hT e2 sz, hR1, g2⟩
theorem lq_looked {l : Launch} {D : va_G} {ids : Nat → Nat} : lw_ok l D ids y_X11_looked prog_1_method_28_code 3 3 y_X12_looked prog_14_method_69_code 2 0 [] := by
  intro Kd N μ n ρ RL ad adT sk sv hR hC hE hT
  obtain ⟨r, e1, e2⟩ := x_looked hR
  obtain ⟨g1, g2⟩ := g_m_X11_looked gR_0 hC _ e1
  exact ⟨r, μ, n, ρ, fun sz => c_X11_looked hE g1 sz, fun sz => c_X12_looked hT e2 sz, hR, hC⟩
theorem lq_act {l : Launch} {D : va_G} {ids : Nat → Nat} (a b d : Int32) : lw_ok l D ids y_X11_act prog_1_method_29_code 4 7 y_X12_act prog_14_method_78_code 4 7 [.int a, .int b, .int d] := by
  intro Kd N μ n ρ RL ad adT sk sv hR hC hE hT
  obtain ⟨r, μ1, ρ1, e1, e2, hR1⟩ := x_act hR a b d
  obtain ⟨g1, g2⟩ := g_m_X11_act gR_0 hC _ e1
  exact ⟨r, μ1, n, ρ1, fun sz => c_X11_act hE g1 sz, fun sz => c_X12_act hT e2 sz, hR1, g2⟩
theorem lq_trace {l : Launch} {D : va_G} {ids : Nat → Nat} (a : Int32) : lw_ok l D ids y_X11_trace prog_1_method_30_code 2 3 y_X12_trace prog_14_method_79_code 2 1 [.int a] := by
  intro Kd N μ n ρ RL ad adT sk sv hR hC hE hT
  obtain ⟨r, e1, e2⟩ := x_trace hR a
  obtain ⟨g1, g2⟩ := g_m_X11_trace gR_0 hC _ e1
  exact ⟨r, μ, n, ρ, fun sz => c_X11_trace hE g1 sz, fun sz => c_X12_trace hT e2 sz, hR, hC⟩
theorem lq_as {l : Launch} {D : va_G} {ids : Nat → Nat} (a b : Int32) : lw_ok l D ids y_X11_as prog_1_method_31_code 3 2 y_X12_as prog_14_method_80_code 3 2 [.int a, .int b] := by
  intro Kd N μ n ρ RL ad adT sk sv hR hC hE hT
  obtain ⟨r, e1, e2⟩ := x_as hR a b
  obtain ⟨g1, g2⟩ := g_m_X11_as gR_0 hC _ e1
  exact ⟨r, μ, n, ρ, fun sz => c_X11_as hE g1 sz, fun sz => c_X12_as hT e2 sz, hR, hC⟩
theorem lq_image {l : Launch} {D : va_G} {ids : Nat → Nat} : lw_ok l D ids y_X11_image prog_1_method_32_code 2 2 y_X12_image prog_14_method_81_code 2 0 [] := by
  intro Kd N μ n ρ RL ad adT sk sv hR hC hE hT
  obtain ⟨r, μ1, ρ1, e1, e2, hR1⟩ := x_image hR
  obtain ⟨g1, g2⟩ := g_m_X11_image gR_0 hC _ e1
  exact ⟨r, μ1, n, ρ1, fun sz => c_X11_image hE g1 sz, fun sz => c_X12_image hT e2 sz, hR1, g2⟩
theorem lq_undo {l : Launch} {D : va_G} {ids : Nat → Nat} : lw_ok l D ids y_X11_undo prog_1_method_33_code 2 3 y_X12_undo prog_14_method_82_code 2 0 [] := by
  intro Kd N μ n ρ RL ad adT sk sv hR hC hE hT
  obtain ⟨r, μ1, ρ1, e1, e2, hR1⟩ := x_undo hR
  obtain ⟨g1, g2⟩ := g_m_X11_undo gR_0 hC _ e1
  exact ⟨r, μ1, n, ρ1, fun sz => c_X11_undo hE g1 sz, fun sz => c_X12_undo hT e2 sz, hR1, g2⟩
theorem lq_count {l : Launch} {D : va_G} {ids : Nat → Nat} (a : Int32) : lw_ok l D ids y_X11_count prog_1_method_34_code 2 2 y_X12_count prog_14_method_83_code 2 1 [.int a] := by
  intro Kd N μ n ρ RL ad adT sk sv hR hC hE hT
  obtain ⟨r, e1, e2⟩ := x_count hR a
  obtain ⟨g1, g2⟩ := g_m_X11_count gR_0 hC _ e1
  exact ⟨r, μ, n, ρ, fun sz => c_X11_count hE g1 sz, fun sz => c_X12_count hT e2 sz, hR, hC⟩
