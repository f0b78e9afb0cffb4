/-! the class's models and what can be reached (wip/whole/tool/reach.py prints this) -/
theorem g_k_J7_fill_53178_5 {Kd : Nat → Nat} {np : Nat} {go5 go51 : Nat → Int32 → Int32 → Int32 → fm_M → Option fm_M} {r0 : Nat} {a1 : Int32} {a2 : Int32} {a3 : Int32} {S : fm_M} (hgo5 : ∀ (x0 : Nat) (x1 : Int32) (x2 : Int32) (x3 : Int32) (x4 : fm_M), gR Kd np x0 → cl Kd np x4 → gL (pS Kd np) (go5 x0 x1 x2 x3 x4) (go51 x0 x1 x2 x3 x4)) (hr0 : gR Kd np r0) (hS : cl Kd np S) : gL (pS Kd np) (k_J7_fill_53178_5 (kC Kd) lC go5 r0 a1 a2 a3 S) (k_J7_fill_53178_5 (kF Kd np) lC go51 r0 a1 a2 a3 S) := by
  unfold k_J7_fill_53178_5
  refine gL_ite (fun _ => ?_) (fun _ => ?_)
  · exact gL_someS (by assumption)
  · refine gL_st (by assumption) (by assumption) (fun _ _ => ?_)
    refine gL_let ?_
    exact hgo5 _ _ _ _ _ (by assumption) (by assumption)
theorem g_b_J7_fill_53178_5 {Kd : Nat → Nat} {np : Nat}     : ∀ (n : Nat) {y0 : Nat} {y1 : Int32} {y2 : Int32} {y3 : Int32} {y4 : fm_M}, gR Kd np y0 → cl Kd np y4 → gL (pS Kd np) (b_J7_fill_53178_5 (kC Kd) lC  n y0 y1 y2 y3 y4) (b_J7_fill_53178_5 (kF Kd np) lC  n y0 y1 y2 y3 y4) := by
  intro n
  induction n with
  | zero =>
    intro y0 y1 y2 y3 y4 hy0 hy4
    exact gL_none _
  | succ n ih =>
    intro y0 y1 y2 y3 y4 hy0 hy4
    exact g_k_J7_fill_53178_5 (Kd := Kd) (go5 := b_J7_fill_53178_5 (kC Kd) lC  n) (go51 := b_J7_fill_53178_5 (kF Kd np) lC  n) (fun _ _ _ _ _ k0 k1 => ih k0 k1) hy0 hy4
theorem g_m_J7_fill_53178 {Kd : Nat → Nat} {np : Nat}  {r0 : Nat} {a1 : Int32} {S : fm_M}  (hr0 : gR Kd np r0) (hS : cl Kd np S) : gL (pS Kd np) (m_J7_fill_53178 (kC Kd) lC r0 a1 S) (m_J7_fill_53178 (kF Kd np) lC r0 a1 S) := by
  unfold m_J7_fill_53178
  refine gL_let ?_
  refine gL_ln (by assumption) (fun _ => ?_)
  exact g_b_J7_fill_53178_5 _ (by assumption) (by assumption)
theorem g_m_X1_start {Kd : Nat → Nat} {np : Nat}  {r0 : Nat} {r1 : Nat} {a2 : Int32} {a3 : Int32} {S : fm_M}  (hr0 : gR Kd np r0) (hr1 : gR Kd np r1) (hS : cl Kd np S) : gL (pS Kd np) (m_X1_start (kC Kd) lC r0 r1 a2 a3 S) (m_X1_start (kF Kd np) lC r0 r1 a2 a3 S) := by
  unfold m_X1_start
  refine gL_pr (by assumption) (by assumption) (by assumption) (fun _ _ => ?_)
  refine gL_pi (by assumption) (by assumption) (fun _ _ => ?_)
  refine gL_pi (by assumption) (by assumption) (fun _ _ => ?_)
  refine gL_gr (by decide) ok_1_0 (by assumption) (by assumption) (fun _ _ => ?_)
  refine gL_gi (by assumption) (fun _ => ?_)
  refine gL_pi (by assumption) (by assumption) (fun _ _ => ?_)
  refine gL_gr (by decide) ok_1_0 (by assumption) (by assumption) (fun _ _ => ?_)
  refine gL_gi (by assumption) (fun _ => ?_)
  refine gL_pi (by assumption) (by assumption) (fun _ _ => ?_)
  refine gL_gr (by decide) ok_1_0 (by assumption) (by assumption) (fun _ _ => ?_)
  refine gL_gi (by assumption) (fun _ => ?_)
  refine gL_pi (by assumption) (by assumption) (fun _ _ => ?_)
  refine gL_gr (by decide) ok_1_0 (by assumption) (by assumption) (fun _ _ => ?_)
  refine gL_gi (by assumption) (fun _ => ?_)
  refine gL_pz (by assumption) (by assumption) (fun _ _ => ?_)
  exact gL_someS (by assumption)
theorem g_m_X1_offer {Kd : Nat → Nat} {np : Nat}  {r0 : Nat} {S : fm_M}  (hr0 : gR Kd np r0) (hS : cl Kd np S) : gL pT (m_X1_offer (kC Kd) lC r0 S) (m_X1_offer (kF Kd np) lC r0 S) := by
  unfold m_X1_offer
  refine gL_gr (by decide) ok_1_1 (by assumption) (by assumption) (fun _ _ => ?_)
  refine gL_gi (by assumption) (fun _ => ?_)
  refine gL_ck (by assumption) ?_
  refine gL_b1I (g_m_X10_offerOf (by assumption) (by assumption)) (fun _ => ?_)
  exact gL_someI _
theorem g_m_X1_cellsBeside {Kd : Nat → Nat} {np : Nat}  {r0 : Nat} {a1 : Int32} {S : fm_M}  (hr0 : gR Kd np r0) (hS : cl Kd np S) : gL pT (m_X1_cellsBeside (kC Kd) lC r0 a1 S) (m_X1_cellsBeside (kF Kd np) lC r0 a1 S) := by
  unfold m_X1_cellsBeside
  refine gL_gi (by assumption) (fun _ => ?_)
  refine gL_let ?_
  refine gL_gi (by assumption) (fun _ => ?_)
  refine gL_let ?_
  refine gL_ite (fun _ => ?_) (fun _ => ?_)
  · refine gL_let ?_
    refine gL_ite (fun _ => ?_) (fun _ => ?_)
    · refine gL_let ?_
      refine gL_ite (fun _ => ?_) (fun _ => ?_)
      · refine gL_let ?_
        exact gL_someI _
      · refine gL_let ?_
        exact gL_someI _
    · refine gL_let ?_
      refine gL_ite (fun _ => ?_) (fun _ => ?_)
      · refine gL_let ?_
        exact gL_someI _
      · refine gL_let ?_
        exact gL_someI _
  · refine gL_let ?_
    refine gL_ite (fun _ => ?_) (fun _ => ?_)
    · refine gL_let ?_
      refine gL_ite (fun _ => ?_) (fun _ => ?_)
      · refine gL_let ?_
        exact gL_someI _
      · refine gL_let ?_
        exact gL_someI _
    · refine gL_let ?_
      refine gL_ite (fun _ => ?_) (fun _ => ?_)
      · refine gL_let ?_
        exact gL_someI _
      · refine gL_let ?_
        exact gL_someI _
theorem g_m_X1_cellsOfTest {Kd : Nat → Nat} {np : Nat}  {r0 : Nat} {a1 : Int32} {a2 : Int32} {S : fm_M}  (hr0 : gR Kd np r0) (hS : cl Kd np S) : gL pT (m_X1_cellsOfTest (kC Kd) lC r0 a1 a2 S) (m_X1_cellsOfTest (kF Kd np) lC r0 a1 a2 S) := by
  unfold m_X1_cellsOfTest
  refine gL_ite (fun _ => ?_) (fun _ => ?_)
  · exact gL_someI _
  · refine gL_ite (fun _ => ?_) (fun _ => ?_)
    · refine gL_gr (by decide) ok_1_0 (by assumption) (by assumption) (fun _ _ => ?_)
      refine gL_gi (by assumption) (fun _ => ?_)
      refine gL_ite (fun _ => ?_) (fun _ => ?_)
      · exact gL_someI _
      · exact gL_someI _
    · refine gL_ite (fun _ => ?_) (fun _ => ?_)
      · refine gL_ck (by assumption) ?_
        refine gL_b1I (g_m_X1_cellsBeside (by assumption) (by assumption)) (fun _ => ?_)
        exact gL_someI _
      · refine gL_ite (fun _ => ?_) (fun _ => ?_)
        · refine gL_gr (by decide) ok_1_0 (by assumption) (by assumption) (fun _ _ => ?_)
          refine gL_gi (by assumption) (fun _ => ?_)
          refine gL_ite (fun _ => ?_) (fun _ => ?_)
          · exact gL_someI _
          · exact gL_someI _
        · refine gL_ite (fun _ => ?_) (fun _ => ?_)
          · refine gL_gi (by assumption) (fun _ => ?_)
            refine gL_ite (fun _ => ?_) (fun _ => ?_)
            · exact gL_someI _
            · exact gL_someI _
          · refine gL_gi (by assumption) (fun _ => ?_)
            refine gL_let ?_
            refine gL_ite (fun _ => ?_) (fun _ => ?_)
            · exact gL_someI _
            · exact gL_someI _
theorem g_k_X1_cellsWhere_22 {Kd : Nat → Nat} {np : Nat} {go22 go221 : Nat → Int32 → Int32 → Int32 → fm_M → Option (Int32 × fm_M)} {go109 go1091 : Nat → Int32 → Int32 → Int32 → Int32 → fm_M → Option (Int32 × fm_M)} {r0 : Nat} {a1 : Int32} {a2 : Int32} {a3 : Int32} {S : fm_M} (hgo22 : ∀ (x0 : Nat) (x1 : Int32) (x2 : Int32) (x3 : Int32) (x4 : fm_M), gR Kd np x0 → cl Kd np x4 → gL (pIS Kd np) (go22 x0 x1 x2 x3 x4) (go221 x0 x1 x2 x3 x4)) (hgo109 : ∀ (x0 : Nat) (x1 : Int32) (x2 : Int32) (x3 : Int32) (x4 : Int32) (x5 : fm_M), gR Kd np x0 → cl Kd np x5 → gL (pIS Kd np) (go109 x0 x1 x2 x3 x4 x5) (go1091 x0 x1 x2 x3 x4 x5)) (hr0 : gR Kd np r0) (hS : cl Kd np S) : gL (pIS Kd np) (k_X1_cellsWhere_22 (kC Kd) lC go22 go109 r0 a1 a2 a3 S) (k_X1_cellsWhere_22 (kF Kd np) lC go221 go1091 r0 a1 a2 a3 S) := by
  unfold k_X1_cellsWhere_22
  refine gL_gr (by decide) ok_1_1 (by assumption) (by assumption) (fun _ _ => ?_)
  refine gL_gr (by decide) ok_10_4 (by assumption) (by assumption) (fun _ _ => ?_)
  refine gL_ld (by assumption) (fun _ => ?_)
  refine gL_ite (fun _ => ?_) (fun _ => ?_)
  · refine gL_gr (by decide) ok_1_9 (by assumption) (by assumption) (fun _ _ => ?_)
    refine gL_ld (by assumption) (fun _ => ?_)
    exact gL_someIS (by assumption)
  · refine gL_gr (by decide) ok_1_1 (by assumption) (by assumption) (fun _ _ => ?_)
    refine gL_gr (by decide) ok_10_6 (by assumption) (by assumption) (fun _ _ => ?_)
    refine gL_ld (by assumption) (fun _ => ?_)
    refine gL_ite (fun _ => ?_) (fun _ => ?_)
    · refine gL_ite (fun _ => ?_) (fun _ => ?_)
      · refine gL_ite (fun _ => ?_) (fun _ => ?_)
        · refine gL_ite (fun _ => ?_) (fun _ => ?_)
          · exact hgo109 _ _ _ _ _ _ (by assumption) (by assumption)
          · refine gL_let ?_
            refine gL_gr (by decide) ok_1_9 (by assumption) (by assumption) (fun _ _ => ?_)
            refine gL_ld (by assumption) (fun _ => ?_)
            refine gL_gr (by decide) ok_1_9 (by assumption) (by assumption) (fun _ _ => ?_)
            refine gL_ld (by assumption) (fun _ => ?_)
            refine gL_st (by assumption) (by assumption) (fun _ _ => ?_)
            refine gL_let ?_
            exact hgo22 _ _ _ _ _ (by assumption) (by assumption)
        · exact hgo109 _ _ _ _ _ _ (by assumption) (by assumption)
      · refine gL_gr (by decide) ok_1_9 (by assumption) (by assumption) (fun _ _ => ?_)
        refine gL_ld (by assumption) (fun _ => ?_)
        refine gL_st (by assumption) (by assumption) (fun _ _ => ?_)
        refine gL_let ?_
        exact hgo22 _ _ _ _ _ (by assumption) (by assumption)
    · refine gL_ite (fun _ => ?_) (fun _ => ?_)
      · refine gL_ite (fun _ => ?_) (fun _ => ?_)
        · exact hgo109 _ _ _ _ _ _ (by assumption) (by assumption)
        · refine gL_let ?_
          refine gL_gr (by decide) ok_1_9 (by assumption) (by assumption) (fun _ _ => ?_)
          refine gL_ld (by assumption) (fun _ => ?_)
          refine gL_gr (by decide) ok_1_9 (by assumption) (by assumption) (fun _ _ => ?_)
          refine gL_ld (by assumption) (fun _ => ?_)
          refine gL_st (by assumption) (by assumption) (fun _ _ => ?_)
          refine gL_let ?_
          exact hgo22 _ _ _ _ _ (by assumption) (by assumption)
      · exact hgo109 _ _ _ _ _ _ (by assumption) (by assumption)
theorem g_k_X1_cellsWhere_109 {Kd : Nat → Nat} {np : Nat} {go22 go221 : Nat → Int32 → Int32 → Int32 → fm_M → Option (Int32 × fm_M)} {go109 go1091 : Nat → Int32 → Int32 → Int32 → Int32 → fm_M → Option (Int32 × fm_M)} {r0 : Nat} {a1 : Int32} {a2 : Int32} {a3 : Int32} {a4 : Int32} {S : fm_M} (hgo22 : ∀ (x0 : Nat) (x1 : Int32) (x2 : Int32) (x3 : Int32) (x4 : fm_M), gR Kd np x0 → cl Kd np x4 → gL (pIS Kd np) (go22 x0 x1 x2 x3 x4) (go221 x0 x1 x2 x3 x4)) (hgo109 : ∀ (x0 : Nat) (x1 : Int32) (x2 : Int32) (x3 : Int32) (x4 : Int32) (x5 : fm_M), gR Kd np x0 → cl Kd np x5 → gL (pIS Kd np) (go109 x0 x1 x2 x3 x4 x5) (go1091 x0 x1 x2 x3 x4 x5)) (hr0 : gR Kd np r0) (hS : cl Kd np S) : gL (pIS Kd np) (k_X1_cellsWhere_109 (kC Kd) lC go22 go109 r0 a1 a2 a3 a4 S) (k_X1_cellsWhere_109 (kF Kd np) lC go221 go1091 r0 a1 a2 a3 a4 S) := by
  unfold k_X1_cellsWhere_109
  refine gL_ite (fun _ => ?_) (fun _ => ?_)
  · refine gL_ite (fun _ => ?_) (fun _ => ?_)
    · refine gL_ite (fun _ => ?_) (fun _ => ?_)
      · refine gL_let ?_
        exact hgo22 _ _ _ _ _ (by assumption) (by assumption)
      · refine gL_gr (by decide) ok_1_9 (by assumption) (by assumption) (fun _ _ => ?_)
        refine gL_gr (by decide) ok_1_1 (by assumption) (by assumption) (fun _ _ => ?_)
        refine gL_gr (by decide) ok_10_7 (by assumption) (by assumption) (fun _ _ => ?_)
        refine gL_ld (by assumption) (fun _ => ?_)
        refine gL_ck (by assumption) ?_
        refine gL_b1I (g_m_X1_cellsOfTest (by assumption) (by assumption)) (fun _ => ?_)
        refine gL_st (by assumption) (by assumption) (fun _ _ => ?_)
        refine gL_let ?_
        refine gL_let ?_
        exact hgo22 _ _ _ _ _ (by assumption) (by assumption)
    · refine gL_let ?_
      refine gL_gr (by decide) ok_1_9 (by assumption) (by assumption) (fun _ _ => ?_)
      refine gL_ld (by assumption) (fun _ => ?_)
      refine gL_gr (by decide) ok_1_9 (by assumption) (by assumption) (fun _ _ => ?_)
      refine gL_ld (by assumption) (fun _ => ?_)
      refine gL_st (by assumption) (by assumption) (fun _ _ => ?_)
      refine gL_let ?_
      exact hgo22 _ _ _ _ _ (by assumption) (by assumption)
  · refine gL_ite (fun _ => ?_) (fun _ => ?_)
    · refine gL_let ?_
      exact hgo22 _ _ _ _ _ (by assumption) (by assumption)
    · refine gL_gr (by decide) ok_1_9 (by assumption) (by assumption) (fun _ _ => ?_)
      refine gL_gr (by decide) ok_1_1 (by assumption) (by assumption) (fun _ _ => ?_)
      refine gL_gr (by decide) ok_10_7 (by assumption) (by assumption) (fun _ _ => ?_)
      refine gL_ld (by assumption) (fun _ => ?_)
      refine gL_ck (by assumption) ?_
      refine gL_b1I (g_m_X1_cellsOfTest (by assumption) (by assumption)) (fun _ => ?_)
      refine gL_st (by assumption) (by assumption) (fun _ _ => ?_)
      refine gL_let ?_
      refine gL_let ?_
      exact hgo22 _ _ _ _ _ (by assumption) (by assumption)
theorem g_bs_X1_cellsWhere {Kd : Nat → Nat} {np : Nat}   : ∀ n : Nat, (∀ {y0 : Nat} {y1 : Int32} {y2 : Int32} {y3 : Int32} {y4 : fm_M}, gR Kd np y0 → cl Kd np y4 → gL (pIS Kd np) (b_X1_cellsWhere_22 (kC Kd) lC  n y0 y1 y2 y3 y4) (b_X1_cellsWhere_22 (kF Kd np) lC  n y0 y1 y2 y3 y4)) ∧ (∀ {y0 : Nat} {y1 : Int32} {y2 : Int32} {y3 : Int32} {y4 : Int32} {y5 : fm_M}, gR Kd np y0 → cl Kd np y5 → gL (pIS Kd np) (b_X1_cellsWhere_109 (kC Kd) lC  n y0 y1 y2 y3 y4 y5) (b_X1_cellsWhere_109 (kF Kd np) lC  n y0 y1 y2 y3 y4 y5)) := by
  intro n
  induction n with
  | zero => exact ⟨fun hy0 hy4 => gL_none _, fun hy0 hy5 => gL_none _⟩
  | succ n ih =>
    refine ⟨?_, ?_⟩
    · intro y0 y1 y2 y3 y4 hy0 hy4
      exact g_k_X1_cellsWhere_22 (Kd := Kd) (go22 := b_X1_cellsWhere_22 (kC Kd) lC  n) (go221 := b_X1_cellsWhere_22 (kF Kd np) lC  n) (go109 := b_X1_cellsWhere_109 (kC Kd) lC  n) (go1091 := b_X1_cellsWhere_109 (kF Kd np) lC  n) (fun _ _ _ _ _ k0 k1 => ih.1 k0 k1) (fun _ _ _ _ _ _ k0 k1 => ih.2 k0 k1) hy0 hy4
    · intro y0 y1 y2 y3 y4 y5 hy0 hy5
      exact g_k_X1_cellsWhere_109 (Kd := Kd) (go22 := b_X1_cellsWhere_22 (kC Kd) lC  n) (go221 := b_X1_cellsWhere_22 (kF Kd np) lC  n) (go109 := b_X1_cellsWhere_109 (kC Kd) lC  n) (go1091 := b_X1_cellsWhere_109 (kF Kd np) lC  n) (fun _ _ _ _ _ k0 k1 => ih.1 k0 k1) (fun _ _ _ _ _ _ k0 k1 => ih.2 k0 k1) hy0 hy5
theorem g_b_X1_cellsWhere_22 {Kd : Nat → Nat} {np : Nat}   (n : Nat) {y0 : Nat} {y1 : Int32} {y2 : Int32} {y3 : Int32} {y4 : fm_M} (hy0 : gR Kd np y0) (hy4 : cl Kd np y4) : gL (pIS Kd np) (b_X1_cellsWhere_22 (kC Kd) lC  n y0 y1 y2 y3 y4) (b_X1_cellsWhere_22 (kF Kd np) lC  n y0 y1 y2 y3 y4) := (g_bs_X1_cellsWhere  n).1 hy0 hy4
theorem g_b_X1_cellsWhere_109 {Kd : Nat → Nat} {np : Nat}   (n : Nat) {y0 : Nat} {y1 : Int32} {y2 : Int32} {y3 : Int32} {y4 : Int32} {y5 : fm_M} (hy0 : gR Kd np y0) (hy5 : cl Kd np y5) : gL (pIS Kd np) (b_X1_cellsWhere_109 (kC Kd) lC  n y0 y1 y2 y3 y4 y5) (b_X1_cellsWhere_109 (kF Kd np) lC  n y0 y1 y2 y3 y4 y5) := (g_bs_X1_cellsWhere  n).2 hy0 hy5
theorem g_m_X1_cellsWhere {Kd : Nat → Nat} {np : Nat}  {r0 : Nat} {a1 : Int32} {S : fm_M}  (hr0 : gR Kd np r0) (hS : cl Kd np S) : gL (pIS Kd np) (m_X1_cellsWhere (kC Kd) lC r0 a1 S) (m_X1_cellsWhere (kF Kd np) lC r0 a1 S) := by
  unfold m_X1_cellsWhere
  refine gL_let ?_
  refine gL_ite (fun _ => ?_) (fun _ => ?_)
  · refine gL_let ?_
    exact g_b_X1_cellsWhere_22 _ (by assumption) (by assumption)
  · refine gL_gr (by decide) ok_1_1 (by assumption) (by assumption) (fun _ _ => ?_)
    refine gL_gr (by decide) ok_10_4 (by assumption) (by assumption) (fun _ _ => ?_)
    refine gL_ld (by assumption) (fun _ => ?_)
    exact g_b_X1_cellsWhere_22 _ (by assumption) (by assumption)
theorem g_k_X1_fillBites_18 {Kd : Nat → Nat} {np : Nat} {go18 go181 : Nat → Int32 → fm_M → Option fm_M} {go37 go371 : Nat → Int32 → Int32 → Int32 → fm_M → Option fm_M} {r0 : Nat} {a1 : Int32} {S : fm_M} (hgo18 : ∀ (x0 : Nat) (x1 : Int32) (x2 : fm_M), gR Kd np x0 → cl Kd np x2 → gL (pS Kd np) (go18 x0 x1 x2) (go181 x0 x1 x2)) (hgo37 : ∀ (x0 : Nat) (x1 : Int32) (x2 : Int32) (x3 : Int32) (x4 : fm_M), gR Kd np x0 → cl Kd np x4 → gL (pS Kd np) (go37 x0 x1 x2 x3 x4) (go371 x0 x1 x2 x3 x4)) (hr0 : gR Kd np r0) (hS : cl Kd np S) : gL (pS Kd np) (k_X1_fillBites_18 (kC Kd) lC go18 go37 r0 a1 S) (k_X1_fillBites_18 (kF Kd np) lC go181 go371 r0 a1 S) := by
  unfold k_X1_fillBites_18
  refine gL_gr (by decide) ok_1_1 (by assumption) (by assumption) (fun _ _ => ?_)
  refine gL_gi (by assumption) (fun _ => ?_)
  refine gL_ite (fun _ => ?_) (fun _ => ?_)
  · exact gL_someS (by assumption)
  · refine gL_ck (by assumption) ?_
    refine gL_biI (g_m_X1_cellsWhere (by assumption) (by assumption)) (fun _ _ _ => ?_)
    refine gL_let ?_
    exact hgo37 _ _ _ _ _ (by assumption) (by assumption)
theorem g_k_X1_fillBites_37 {Kd : Nat → Nat} {np : Nat} {go18 go181 : Nat → Int32 → fm_M → Option fm_M} {go37 go371 : Nat → Int32 → Int32 → Int32 → fm_M → Option fm_M} {r0 : Nat} {a1 : Int32} {a2 : Int32} {a3 : Int32} {S : fm_M} (hgo18 : ∀ (x0 : Nat) (x1 : Int32) (x2 : fm_M), gR Kd np x0 → cl Kd np x2 → gL (pS Kd np) (go18 x0 x1 x2) (go181 x0 x1 x2)) (hgo37 : ∀ (x0 : Nat) (x1 : Int32) (x2 : Int32) (x3 : Int32) (x4 : fm_M), gR Kd np x0 → cl Kd np x4 → gL (pS Kd np) (go37 x0 x1 x2 x3 x4) (go371 x0 x1 x2 x3 x4)) (hr0 : gR Kd np r0) (hS : cl Kd np S) : gL (pS Kd np) (k_X1_fillBites_37 (kC Kd) lC go18 go37 r0 a1 a2 a3 S) (k_X1_fillBites_37 (kF Kd np) lC go181 go371 r0 a1 a2 a3 S) := by
  unfold k_X1_fillBites_37
  refine gL_ite (fun _ => ?_) (fun _ => ?_)
  · refine gL_let ?_
    exact hgo18 _ _ _ (by assumption) (by assumption)
  · refine gL_ite (fun _ => ?_) (fun _ => ?_)
    · refine gL_let ?_
      exact hgo37 _ _ _ _ _ (by assumption) (by assumption)
    · refine gL_gr (by decide) ok_1_8 (by assumption) (by assumption) (fun _ _ => ?_)
      refine gL_ld (by assumption) (fun _ => ?_)
      refine gL_gr (by decide) ok_1_1 (by assumption) (by assumption) (fun _ _ => ?_)
      refine gL_gr (by decide) ok_10_3 (by assumption) (by assumption) (fun _ _ => ?_)
      refine gL_ld (by assumption) (fun _ => ?_)
      refine gL_st (by assumption) (by assumption) (fun _ _ => ?_)
      refine gL_let ?_
      exact hgo37 _ _ _ _ _ (by assumption) (by assumption)
theorem g_bs_X1_fillBites {Kd : Nat → Nat} {np : Nat}   : ∀ n : Nat, (∀ {y0 : Nat} {y1 : Int32} {y2 : fm_M}, gR Kd np y0 → cl Kd np y2 → gL (pS Kd np) (b_X1_fillBites_18 (kC Kd) lC  n y0 y1 y2) (b_X1_fillBites_18 (kF Kd np) lC  n y0 y1 y2)) ∧ (∀ {y0 : Nat} {y1 : Int32} {y2 : Int32} {y3 : Int32} {y4 : fm_M}, gR Kd np y0 → cl Kd np y4 → gL (pS Kd np) (b_X1_fillBites_37 (kC Kd) lC  n y0 y1 y2 y3 y4) (b_X1_fillBites_37 (kF Kd np) lC  n y0 y1 y2 y3 y4)) := by
  intro n
  induction n with
  | zero => exact ⟨fun hy0 hy2 => gL_none _, fun hy0 hy4 => gL_none _⟩
  | succ n ih =>
    refine ⟨?_, ?_⟩
    · intro y0 y1 y2 hy0 hy2
      exact g_k_X1_fillBites_18 (Kd := Kd) (go18 := b_X1_fillBites_18 (kC Kd) lC  n) (go181 := b_X1_fillBites_18 (kF Kd np) lC  n) (go37 := b_X1_fillBites_37 (kC Kd) lC  n) (go371 := b_X1_fillBites_37 (kF Kd np) lC  n) (fun _ _ _ k0 k1 => ih.1 k0 k1) (fun _ _ _ _ _ k0 k1 => ih.2 k0 k1) hy0 hy2
    · intro y0 y1 y2 y3 y4 hy0 hy4
      exact g_k_X1_fillBites_37 (Kd := Kd) (go18 := b_X1_fillBites_18 (kC Kd) lC  n) (go181 := b_X1_fillBites_18 (kF Kd np) lC  n) (go37 := b_X1_fillBites_37 (kC Kd) lC  n) (go371 := b_X1_fillBites_37 (kF Kd np) lC  n) (fun _ _ _ k0 k1 => ih.1 k0 k1) (fun _ _ _ _ _ k0 k1 => ih.2 k0 k1) hy0 hy4
theorem g_b_X1_fillBites_18 {Kd : Nat → Nat} {np : Nat}   (n : Nat) {y0 : Nat} {y1 : Int32} {y2 : fm_M} (hy0 : gR Kd np y0) (hy2 : cl Kd np y2) : gL (pS Kd np) (b_X1_fillBites_18 (kC Kd) lC  n y0 y1 y2) (b_X1_fillBites_18 (kF Kd np) lC  n y0 y1 y2) := (g_bs_X1_fillBites  n).1 hy0 hy2
theorem g_b_X1_fillBites_37 {Kd : Nat → Nat} {np : Nat}   (n : Nat) {y0 : Nat} {y1 : Int32} {y2 : Int32} {y3 : Int32} {y4 : fm_M} (hy0 : gR Kd np y0) (hy4 : cl Kd np y4) : gL (pS Kd np) (b_X1_fillBites_37 (kC Kd) lC  n y0 y1 y2 y3 y4) (b_X1_fillBites_37 (kF Kd np) lC  n y0 y1 y2 y3 y4) := (g_bs_X1_fillBites  n).2 hy0 hy4
theorem g_m_X1_fillBites {Kd : Nat → Nat} {np : Nat}  {r0 : Nat} {S : fm_M}  (hr0 : gR Kd np r0) (hS : cl Kd np S) : gL (pS Kd np) (m_X1_fillBites (kC Kd) lC r0 S) (m_X1_fillBites (kF Kd np) lC r0 S) := by
  unfold m_X1_fillBites
  refine gL_gr (by decide) ok_1_8 (by assumption) (by assumption) (fun _ _ => ?_)
  refine gL_gi (by assumption) (fun _ => ?_)
  refine gL_gi (by assumption) (fun _ => ?_)
  refine gL_b1S (g_m_J7_fill_53178 (by assumption) (by assumption)) (fun _ _ => ?_)
  refine gL_let ?_
  exact g_b_X1_fillBites_18 _ (by assumption) (by assumption)
theorem g_m_X1_growthAt {Kd : Nat → Nat} {np : Nat}  {r0 : Nat} {a1 : Int32} {S : fm_M}  (hr0 : gR Kd np r0) (hS : cl Kd np S) : gL (pIS Kd np) (m_X1_growthAt (kC Kd) lC r0 a1 S) (m_X1_growthAt (kF Kd np) lC r0 a1 S) := by
  unfold m_X1_growthAt
  refine gL_ck (by assumption) ?_
  refine gL_b1S (g_m_X1_fillBites (by assumption) (by assumption)) (fun _ _ => ?_)
  refine gL_gr (by decide) ok_1_0 (by assumption) (by assumption) (fun _ _ => ?_)
  refine gL_b1I (g_v_growth (by assumption) (by assumption) (by assumption)) (fun _ => ?_)
  exact gL_someIS (by assumption)
theorem g_k_X1_goHour_18 {Kd : Nat → Nat} {np : Nat} {go18 go181 : Nat → Int32 → Int32 → fm_M → Option fm_M} {go50 go501 : Nat → Int32 → Int32 → Int32 → Int32 → fm_M → Option fm_M} {r0 : Nat} {a1 : Int32} {a2 : Int32} {S : fm_M} (hgo18 : ∀ (x0 : Nat) (x1 : Int32) (x2 : Int32) (x3 : fm_M), gR Kd np x0 → cl Kd np x3 → gL (pS Kd np) (go18 x0 x1 x2 x3) (go181 x0 x1 x2 x3)) (hgo50 : ∀ (x0 : Nat) (x1 : Int32) (x2 : Int32) (x3 : Int32) (x4 : Int32) (x5 : fm_M), gR Kd np x0 → cl Kd np x5 → gL (pS Kd np) (go50 x0 x1 x2 x3 x4 x5) (go501 x0 x1 x2 x3 x4 x5)) (hr0 : gR Kd np r0) (hS : cl Kd np S) : gL (pS Kd np) (k_X1_goHour_18 (kC Kd) lC go18 go50 r0 a1 a2 S) (k_X1_goHour_18 (kF Kd np) lC go181 go501 r0 a1 a2 S) := by
  unfold k_X1_goHour_18
  refine gL_ite (fun _ => ?_) (fun _ => ?_)
  · refine gL_pi (by assumption) (by assumption) (fun _ _ => ?_)
    refine gL_gi (by assumption) (fun _ => ?_)
    refine gL_pi (by assumption) (by assumption) (fun _ _ => ?_)
    exact gL_someS (by assumption)
  · refine gL_gr (by decide) ok_1_0 (by assumption) (by assumption) (fun _ _ => ?_)
    refine gL_b1I (g_v_growth (by assumption) (by assumption) (by assumption)) (fun _ => ?_)
    refine gL_gi (by assumption) (fun _ => ?_)
    refine gL_ite (fun _ => ?_) (fun _ => ?_)
    · exact hgo50 _ _ _ _ _ _ (by assumption) (by assumption)
    · exact hgo50 _ _ _ _ _ _ (by assumption) (by assumption)
theorem g_k_X1_goHour_50 {Kd : Nat → Nat} {np : Nat} {go18 go181 : Nat → Int32 → Int32 → fm_M → Option fm_M} {go50 go501 : Nat → Int32 → Int32 → Int32 → Int32 → fm_M → Option fm_M} {r0 : Nat} {a1 : Int32} {a2 : Int32} {a3 : Int32} {ak0 : Int32} {S : fm_M} (hgo18 : ∀ (x0 : Nat) (x1 : Int32) (x2 : Int32) (x3 : fm_M), gR Kd np x0 → cl Kd np x3 → gL (pS Kd np) (go18 x0 x1 x2 x3) (go181 x0 x1 x2 x3)) (hgo50 : ∀ (x0 : Nat) (x1 : Int32) (x2 : Int32) (x3 : Int32) (x4 : Int32) (x5 : fm_M), gR Kd np x0 → cl Kd np x5 → gL (pS Kd np) (go50 x0 x1 x2 x3 x4 x5) (go501 x0 x1 x2 x3 x4 x5)) (hr0 : gR Kd np r0) (hS : cl Kd np S) : gL (pS Kd np) (k_X1_goHour_50 (kC Kd) lC go18 go50 r0 a1 a2 a3 ak0 S) (k_X1_goHour_50 (kF Kd np) lC go181 go501 r0 a1 a2 a3 ak0 S) := by
  unfold k_X1_goHour_50
  refine gL_ite (fun _ => ?_) (fun _ => ?_)
  · refine gL_ite (fun _ => ?_) (fun _ => ?_)
    · refine gL_ite (fun _ => ?_) (fun _ => ?_)
      · refine gL_let ?_
        exact hgo18 _ _ _ _ (by assumption) (by assumption)
      · refine gL_ite (fun _ => ?_) (fun _ => ?_)
        · refine gL_let ?_
          refine gL_let ?_
          exact hgo18 _ _ _ _ (by assumption) (by assumption)
        · refine gL_ck (by assumption) ?_
          refine gL_b1I (g_m_X1_frozenBeside (by assumption) (by assumption)) (fun _ => ?_)
          refine gL_ite (fun _ => ?_) (fun _ => ?_)
          · refine gL_let ?_
            exact hgo18 _ _ _ _ (by assumption) (by assumption)
          · refine gL_let ?_
            refine gL_let ?_
            exact hgo18 _ _ _ _ (by assumption) (by assumption)
    · refine gL_let ?_
      exact hgo18 _ _ _ _ (by assumption) (by assumption)
  · refine gL_ite (fun _ => ?_) (fun _ => ?_)
    · refine gL_ite (fun _ => ?_) (fun _ => ?_)
      · refine gL_ite (fun _ => ?_) (fun _ => ?_)
        · refine gL_let ?_
          exact hgo18 _ _ _ _ (by assumption) (by assumption)
        · refine gL_ite (fun _ => ?_) (fun _ => ?_)
          · refine gL_let ?_
            refine gL_let ?_
            exact hgo18 _ _ _ _ (by assumption) (by assumption)
          · refine gL_ck (by assumption) ?_
            refine gL_b1I (g_m_X1_frozenBeside (by assumption) (by assumption)) (fun _ => ?_)
            refine gL_ite (fun _ => ?_) (fun _ => ?_)
            · refine gL_let ?_
              exact hgo18 _ _ _ _ (by assumption) (by assumption)
            · refine gL_let ?_
              refine gL_let ?_
              exact hgo18 _ _ _ _ (by assumption) (by assumption)
      · refine gL_let ?_
        exact hgo18 _ _ _ _ (by assumption) (by assumption)
    · refine gL_let ?_
      refine gL_let ?_
      exact hgo18 _ _ _ _ (by assumption) (by assumption)
theorem g_bs_X1_goHour {Kd : Nat → Nat} {np : Nat}   : ∀ n : Nat, (∀ {y0 : Nat} {y1 : Int32} {y2 : Int32} {y3 : fm_M}, gR Kd np y0 → cl Kd np y3 → gL (pS Kd np) (b_X1_goHour_18 (kC Kd) lC  n y0 y1 y2 y3) (b_X1_goHour_18 (kF Kd np) lC  n y0 y1 y2 y3)) ∧ (∀ {y0 : Nat} {y1 : Int32} {y2 : Int32} {y3 : Int32} {y4 : Int32} {y5 : fm_M}, gR Kd np y0 → cl Kd np y5 → gL (pS Kd np) (b_X1_goHour_50 (kC Kd) lC  n y0 y1 y2 y3 y4 y5) (b_X1_goHour_50 (kF Kd np) lC  n y0 y1 y2 y3 y4 y5)) := by
  intro n
  induction n with
  | zero => exact ⟨fun hy0 hy3 => gL_none _, fun hy0 hy5 => gL_none _⟩
  | succ n ih =>
    refine ⟨?_, ?_⟩
    · intro y0 y1 y2 y3 hy0 hy3
      exact g_k_X1_goHour_18 (Kd := Kd) (go18 := b_X1_goHour_18 (kC Kd) lC  n) (go181 := b_X1_goHour_18 (kF Kd np) lC  n) (go50 := b_X1_goHour_50 (kC Kd) lC  n) (go501 := b_X1_goHour_50 (kF Kd np) lC  n) (fun _ _ _ _ k0 k1 => ih.1 k0 k1) (fun _ _ _ _ _ _ k0 k1 => ih.2 k0 k1) hy0 hy3
    · intro y0 y1 y2 y3 y4 y5 hy0 hy5
      exact g_k_X1_goHour_50 (Kd := Kd) (go18 := b_X1_goHour_18 (kC Kd) lC  n) (go181 := b_X1_goHour_18 (kF Kd np) lC  n) (go50 := b_X1_goHour_50 (kC Kd) lC  n) (go501 := b_X1_goHour_50 (kF Kd np) lC  n) (fun _ _ _ _ k0 k1 => ih.1 k0 k1) (fun _ _ _ _ _ _ k0 k1 => ih.2 k0 k1) hy0 hy5
theorem g_b_X1_goHour_18 {Kd : Nat → Nat} {np : Nat}   (n : Nat) {y0 : Nat} {y1 : Int32} {y2 : Int32} {y3 : fm_M} (hy0 : gR Kd np y0) (hy3 : cl Kd np y3) : gL (pS Kd np) (b_X1_goHour_18 (kC Kd) lC  n y0 y1 y2 y3) (b_X1_goHour_18 (kF Kd np) lC  n y0 y1 y2 y3) := (g_bs_X1_goHour  n).1 hy0 hy3
theorem g_b_X1_goHour_50 {Kd : Nat → Nat} {np : Nat}   (n : Nat) {y0 : Nat} {y1 : Int32} {y2 : Int32} {y3 : Int32} {y4 : Int32} {y5 : fm_M} (hy0 : gR Kd np y0) (hy5 : cl Kd np y5) : gL (pS Kd np) (b_X1_goHour_50 (kC Kd) lC  n y0 y1 y2 y3 y4 y5) (b_X1_goHour_50 (kF Kd np) lC  n y0 y1 y2 y3 y4 y5) := (g_bs_X1_goHour  n).2 hy0 hy5
theorem g_m_X1_goHour {Kd : Nat → Nat} {np : Nat}  {r0 : Nat} {S : fm_M}  (hr0 : gR Kd np r0) (hS : cl Kd np S) : gL (pS Kd np) (m_X1_goHour (kC Kd) lC r0 S) (m_X1_goHour (kF Kd np) lC r0 S) := by
  unfold m_X1_goHour
  refine gL_gi (by assumption) (fun _ => ?_)
  refine gL_ite (fun _ => ?_) (fun _ => ?_)
  · refine gL_ck (by assumption) ?_
    refine gL_b1S (g_m_X1_fillBites (by assumption) (by assumption)) (fun _ _ => ?_)
    refine gL_gi (by assumption) (fun _ => ?_)
    refine gL_let ?_
    exact g_b_X1_goHour_18 _ (by assumption) (by assumption)
  · refine gL_gi (by assumption) (fun _ => ?_)
    refine gL_pi (by assumption) (by assumption) (fun _ _ => ?_)
    exact gL_someS (by assumption)
theorem g_k_X1_goHours_2 {Kd : Nat → Nat} {np : Nat} {go2 go21 : Nat → Int32 → Int32 → fm_M → Option fm_M} {r0 : Nat} {a1 : Int32} {a2 : Int32} {S : fm_M} (hgo2 : ∀ (x0 : Nat) (x1 : Int32) (x2 : Int32) (x3 : fm_M), gR Kd np x0 → cl Kd np x3 → gL (pS Kd np) (go2 x0 x1 x2 x3) (go21 x0 x1 x2 x3)) (hr0 : gR Kd np r0) (hS : cl Kd np S) : gL (pS Kd np) (k_X1_goHours_2 (kC Kd) lC go2 r0 a1 a2 S) (k_X1_goHours_2 (kF Kd np) lC go21 r0 a1 a2 S) := by
  unfold k_X1_goHours_2
  refine gL_ite (fun _ => ?_) (fun _ => ?_)
  · exact gL_someS (by assumption)
  · refine gL_ck (by assumption) ?_
    refine gL_b1S (g_m_X1_goHour (by assumption) (by assumption)) (fun _ _ => ?_)
    refine gL_let ?_
    exact hgo2 _ _ _ _ (by assumption) (by assumption)
theorem g_b_X1_goHours_2 {Kd : Nat → Nat} {np : Nat}     : ∀ (n : Nat) {y0 : Nat} {y1 : Int32} {y2 : Int32} {y3 : fm_M}, gR Kd np y0 → cl Kd np y3 → gL (pS Kd np) (b_X1_goHours_2 (kC Kd) lC  n y0 y1 y2 y3) (b_X1_goHours_2 (kF Kd np) lC  n y0 y1 y2 y3) := by
  intro n
  induction n with
  | zero =>
    intro y0 y1 y2 y3 hy0 hy3
    exact gL_none _
  | succ n ih =>
    intro y0 y1 y2 y3 hy0 hy3
    exact g_k_X1_goHours_2 (Kd := Kd) (go2 := b_X1_goHours_2 (kC Kd) lC  n) (go21 := b_X1_goHours_2 (kF Kd np) lC  n) (fun _ _ _ _ k0 k1 => ih k0 k1) hy0 hy3
theorem g_m_X1_goHours {Kd : Nat → Nat} {np : Nat}  {r0 : Nat} {a1 : Int32} {S : fm_M}  (hr0 : gR Kd np r0) (hS : cl Kd np S) : gL (pS Kd np) (m_X1_goHours (kC Kd) lC r0 a1 S) (m_X1_goHours (kF Kd np) lC r0 a1 S) := by
  unfold m_X1_goHours
  refine gL_let ?_
  exact g_b_X1_goHours_2 _ (by assumption) (by assumption)
theorem g_m_X1_breath {Kd : Nat → Nat} {np : Nat}  {r0 : Nat} {S : fm_M}  (hr0 : gR Kd np r0) (hS : cl Kd np S) : gL (pIS Kd np) (m_X1_breath (kC Kd) lC r0 S) (m_X1_breath (kF Kd np) lC r0 S) := by
  unfold m_X1_breath
  refine gL_ck (by assumption) ?_
  refine gL_b1I (g_m_X1_offer (by assumption) (by assumption)) (fun _ => ?_)
  refine gL_pi (by assumption) (by assumption) (fun _ _ => ?_)
  exact gL_someIS (by assumption)
theorem g_k_X1_goBreathed_5 {Kd : Nat → Nat} {np : Nat} {go5 go51 : Nat → Int32 → Int32 → Int32 → Int32 → fm_M → Option (Int32 × fm_M)} {r0 : Nat} {a1 : Int32} {a2 : Int32} {a3 : Int32} {a4 : Int32} {S : fm_M} (hgo5 : ∀ (x0 : Nat) (x1 : Int32) (x2 : Int32) (x3 : Int32) (x4 : Int32) (x5 : fm_M), gR Kd np x0 → cl Kd np x5 → gL (pIS Kd np) (go5 x0 x1 x2 x3 x4 x5) (go51 x0 x1 x2 x3 x4 x5)) (hr0 : gR Kd np r0) (hS : cl Kd np S) : gL (pIS Kd np) (k_X1_goBreathed_5 (kC Kd) lC go5 r0 a1 a2 a3 a4 S) (k_X1_goBreathed_5 (kF Kd np) lC go51 r0 a1 a2 a3 a4 S) := by
  unfold k_X1_goBreathed_5
  refine gL_ite (fun _ => ?_) (fun _ => ?_)
  · exact gL_someIS (by assumption)
  · refine gL_ite (fun _ => ?_) (fun _ => ?_)
    · refine gL_ck (by assumption) ?_
      refine gL_b1S (g_m_X1_goHour (by assumption) (by assumption)) (fun _ _ => ?_)
      refine gL_let ?_
      exact hgo5 _ _ _ _ _ _ (by assumption) (by assumption)
    · refine gL_ck (by assumption) ?_
      refine gL_biI (g_m_X1_breath (by assumption) (by assumption)) (fun _ _ _ => ?_)
      refine gL_let ?_
      refine gL_ck (by assumption) ?_
      refine gL_b1S (g_m_X1_goHour (by assumption) (by assumption)) (fun _ _ => ?_)
      refine gL_let ?_
      exact hgo5 _ _ _ _ _ _ (by assumption) (by assumption)
theorem g_b_X1_goBreathed_5 {Kd : Nat → Nat} {np : Nat}     : ∀ (n : Nat) {y0 : Nat} {y1 : Int32} {y2 : Int32} {y3 : Int32} {y4 : Int32} {y5 : fm_M}, gR Kd np y0 → cl Kd np y5 → gL (pIS Kd np) (b_X1_goBreathed_5 (kC Kd) lC  n y0 y1 y2 y3 y4 y5) (b_X1_goBreathed_5 (kF Kd np) lC  n y0 y1 y2 y3 y4 y5) := by
  intro n
  induction n with
  | zero =>
    intro y0 y1 y2 y3 y4 y5 hy0 hy5
    exact gL_none _
  | succ n ih =>
    intro y0 y1 y2 y3 y4 y5 hy0 hy5
    exact g_k_X1_goBreathed_5 (Kd := Kd) (go5 := b_X1_goBreathed_5 (kC Kd) lC  n) (go51 := b_X1_goBreathed_5 (kF Kd np) lC  n) (fun _ _ _ _ _ _ k0 k1 => ih k0 k1) hy0 hy5
theorem g_m_X1_goBreathed {Kd : Nat → Nat} {np : Nat}  {r0 : Nat} {a1 : Int32} {a2 : Int32} {S : fm_M}  (hr0 : gR Kd np r0) (hS : cl Kd np S) : gL (pIS Kd np) (m_X1_goBreathed (kC Kd) lC r0 a1 a2 S) (m_X1_goBreathed (kF Kd np) lC r0 a1 a2 S) := by
  unfold m_X1_goBreathed
  refine gL_let ?_
  refine gL_let ?_
  exact g_b_X1_goBreathed_5 _ (by assumption) (by assumption)
theorem g_k_X1_goPlan_4 {Kd : Nat → Nat} {np : Nat} {go4 go41 : Nat → Nat → Int32 → Int32 → fm_M → Option (Int32 × fm_M)} {r0 : Nat} {r1 : Nat} {a2 : Int32} {a3 : Int32} {S : fm_M} (hgo4 : ∀ (x0 : Nat) (x1 : Nat) (x2 : Int32) (x3 : Int32) (x4 : fm_M), gR Kd np x0 → gR Kd np x1 → cl Kd np x4 → gL (pIS Kd np) (go4 x0 x1 x2 x3 x4) (go41 x0 x1 x2 x3 x4)) (hr0 : gR Kd np r0) (hr1 : gR Kd np r1) (hS : cl Kd np S) : gL (pIS Kd np) (k_X1_goPlan_4 (kC Kd) lC go4 r0 r1 a2 a3 S) (k_X1_goPlan_4 (kF Kd np) lC go41 r0 r1 a2 a3 S) := by
  unfold k_X1_goPlan_4
  refine gL_ck (by assumption) ?_
  refine gL_b1I (g_m_X8_size (by assumption) (by assumption)) (fun _ => ?_)
  refine gL_ite (fun _ => ?_) (fun _ => ?_)
  · exact gL_someIS (by assumption)
  · refine gL_ck (by assumption) ?_
    refine gL_b1I (g_m_X8_at (by assumption) (by assumption)) (fun _ => ?_)
    refine gL_ite (fun _ => ?_) (fun _ => ?_)
    · refine gL_ck (by assumption) ?_
      refine gL_b1S (g_m_X1_goHour (by assumption) (by assumption)) (fun _ _ => ?_)
      refine gL_let ?_
      exact hgo4 _ _ _ _ _ (by assumption) (by assumption) (by assumption)
    · refine gL_ck (by assumption) ?_
      refine gL_b1I (g_m_X8_at (by assumption) (by assumption)) (fun _ => ?_)
      refine gL_gr (by decide) ok_1_0 (by assumption) (by assumption) (fun _ _ => ?_)
      refine gL_gi (by assumption) (fun _ => ?_)
      refine gL_ite (fun _ => ?_) (fun _ => ?_)
      · refine gL_ite (fun _ => ?_) (fun _ => ?_)
        · refine gL_ck (by assumption) ?_
          refine gL_biI (g_m_X1_breath (by assumption) (by assumption)) (fun _ _ _ => ?_)
          refine gL_let ?_
          refine gL_let ?_
          exact hgo4 _ _ _ _ _ (by assumption) (by assumption) (by assumption)
        · refine gL_ite (fun _ => ?_) (fun _ => ?_)
          · refine gL_pz (by assumption) (by assumption) (fun _ _ => ?_)
            refine gL_let ?_
            exact hgo4 _ _ _ _ _ (by assumption) (by assumption) (by assumption)
          · refine gL_pz (by assumption) (by assumption) (fun _ _ => ?_)
            refine gL_let ?_
            exact hgo4 _ _ _ _ _ (by assumption) (by assumption) (by assumption)
      · refine gL_let ?_
        exact hgo4 _ _ _ _ _ (by assumption) (by assumption) (by assumption)
theorem g_b_X1_goPlan_4 {Kd : Nat → Nat} {np : Nat}     : ∀ (n : Nat) {y0 : Nat} {y1 : Nat} {y2 : Int32} {y3 : Int32} {y4 : fm_M}, gR Kd np y0 → gR Kd np y1 → cl Kd np y4 → gL (pIS Kd np) (b_X1_goPlan_4 (kC Kd) lC  n y0 y1 y2 y3 y4) (b_X1_goPlan_4 (kF Kd np) lC  n y0 y1 y2 y3 y4) := by
  intro n
  induction n with
  | zero =>
    intro y0 y1 y2 y3 y4 hy0 hy1 hy4
    exact gL_none _
  | succ n ih =>
    intro y0 y1 y2 y3 y4 hy0 hy1 hy4
    exact g_k_X1_goPlan_4 (Kd := Kd) (go4 := b_X1_goPlan_4 (kC Kd) lC  n) (go41 := b_X1_goPlan_4 (kF Kd np) lC  n) (fun _ _ _ _ _ k0 k1 k2 => ih k0 k1 k2) hy0 hy1 hy4
theorem g_m_X1_goPlan {Kd : Nat → Nat} {np : Nat}  {r0 : Nat} {r1 : Nat} {S : fm_M}  (hr0 : gR Kd np r0) (hr1 : gR Kd np r1) (hS : cl Kd np S) : gL (pIS Kd np) (m_X1_goPlan (kC Kd) lC r0 r1 S) (m_X1_goPlan (kF Kd np) lC r0 r1 S) := by
  unfold m_X1_goPlan
  refine gL_let ?_
  refine gL_let ?_
  exact g_b_X1_goPlan_4 _ (by assumption) (by assumption) (by assumption)
