/-! the class's models and what can be reached (wip/whole/tool/reach.py prints this) -/
theorem g_k_X11_best_54 {Kd : Nat → Nat} {np : Nat} {go54 go541 : Int32 → Int32 → Nat → Int32 → Int32 → Int32 → fm_M → Option (Int32 × fm_M)} {a2 : Int32} {a3 : Int32} {r4 : Nat} {a5 : Int32} {a6 : Int32} {a7 : Int32} {S : fm_M} (hgo54 : ∀ (x0 : Int32) (x1 : Int32) (x2 : Nat) (x3 : Int32) (x4 : Int32) (x5 : Int32) (x6 : fm_M), gR Kd np x2 → cl Kd np x6 → gL (pIS Kd np) (go54 x0 x1 x2 x3 x4 x5 x6) (go541 x0 x1 x2 x3 x4 x5 x6)) (hr4 : gR Kd np r4) (hS : cl Kd np S) : gL (pIS Kd np) (k_X11_best_54 (kC Kd) lC go54 a2 a3 r4 a5 a6 a7 S) (k_X11_best_54 (kF Kd np) lC go541 a2 a3 r4 a5 a6 a7 S) := by
  unfold k_X11_best_54
  refine gL_ite (fun _ => ?_) (fun _ => ?_)
  · refine gL_ite (fun _ => ?_) (fun _ => ?_)
    · exact gL_someIS (by assumption)
    · exact gL_someIS (by assumption)
  · refine gL_ck (by assumption) ?_
    refine gL_b1S (g_m_X1_goHour (by assumption) (by assumption)) (fun _ _ => ?_)
    refine gL_ck (by assumption) ?_
    refine gL_b1I (g_m_X1_offer (by assumption) (by assumption)) (fun _ => ?_)
    refine gL_ite (fun _ => ?_) (fun _ => ?_)
    · refine gL_let ?_
      exact hgo54 _ _ _ _ _ _ _ (by assumption) (by assumption)
    · refine gL_ck (by assumption) ?_
      refine gL_b1I (g_m_X1_offer (by assumption) (by assumption)) (fun _ => ?_)
      refine gL_let ?_
      exact hgo54 _ _ _ _ _ _ _ (by assumption) (by assumption)
theorem g_b_X11_best_54 {Kd : Nat → Nat} {np : Nat}     : ∀ (n : Nat) {y0 : Int32} {y1 : Int32} {y2 : Nat} {y3 : Int32} {y4 : Int32} {y5 : Int32} {y6 : fm_M}, gR Kd np y2 → cl Kd np y6 → gL (pIS Kd np) (b_X11_best_54 (kC Kd) lC  n y0 y1 y2 y3 y4 y5 y6) (b_X11_best_54 (kF Kd np) lC  n y0 y1 y2 y3 y4 y5 y6) := by
  intro n
  induction n with
  | zero =>
    intro y0 y1 y2 y3 y4 y5 y6 hy2 hy6
    exact gL_none _
  | succ n ih =>
    intro y0 y1 y2 y3 y4 y5 y6 hy2 hy6
    exact g_k_X11_best_54 (Kd := Kd) (go54 := b_X11_best_54 (kC Kd) lC  n) (go541 := b_X11_best_54 (kF Kd np) lC  n) (fun _ _ _ _ _ _ _ k0 k1 => ih k0 k1) hy2 hy6
theorem g_m_X11_best {Kd : Nat → Nat} {np : Nat}  {r0 : Nat} {a1 : Int32} {a2 : Int32} {a3 : Int32} {S : fm_M}  (hr0 : gR Kd np r0) (hS : cl Kd np S) : gL (pIS Kd np) (m_X11_best (kC Kd) lC r0 a1 a2 a3 S) (m_X11_best (kF Kd np) lC r0 a1 a2 a3 S) := by
  unfold m_X11_best
  refine gL_ck (by assumption) ?_
  refine gL_b1I (g_m_X11_isPane (by assumption) (by assumption)) (fun _ => ?_)
  refine gL_ite (fun _ => ?_) (fun _ => ?_)
  · exact gL_someIS (by assumption)
  · refine gL_b1I (g_m_X11_isWithin (by assumption)) (fun _ => ?_)
    refine gL_ite (fun _ => ?_) (fun _ => ?_)
    · exact gL_someIS (by assumption)
    · refine gL_b1I (g_m_X11_isWithin (by assumption)) (fun _ => ?_)
      refine gL_ite (fun _ => ?_) (fun _ => ?_)
      · exact gL_someIS (by assumption)
      · refine gL_gi (by assumption) (fun _ => ?_)
        refine gL_ck (by assumption) ?_
        refine gL_biN (g_m_X11_courseFromNow (by assumption) (by assumption)) (fun _ _ _ _ => ?_)
        refine gL_let ?_
        refine gL_ck (by assumption) ?_
        refine gL_b1I (g_m_X1_offer (by assumption) (by assumption)) (fun _ => ?_)
        refine gL_let ?_
        exact g_b_X11_best_54 _ (by assumption) (by assumption)
theorem g_k_X11_heat_39 {Kd : Nat → Nat} {np : Nat} {go39 go391 : Nat → Int32 → Int32 → Int32 → Int32 → Int32 → Int32 → fm_M → Option (Int32 × fm_M)} {r0 : Nat} {a1 : Int32} {a2 : Int32} {a3 : Int32} {a4 : Int32} {a5 : Int32} {a6 : Int32} {S : fm_M} (hgo39 : ∀ (x0 : Nat) (x1 : Int32) (x2 : Int32) (x3 : Int32) (x4 : Int32) (x5 : Int32) (x6 : Int32) (x7 : fm_M), gR Kd np x0 → cl Kd np x7 → gL (pIS Kd np) (go39 x0 x1 x2 x3 x4 x5 x6 x7) (go391 x0 x1 x2 x3 x4 x5 x6 x7)) (hr0 : gR Kd np r0) (hS : cl Kd np S) : gL (pIS Kd np) (k_X11_heat_39 (kC Kd) lC go39 r0 a1 a2 a3 a4 a5 a6 S) (k_X11_heat_39 (kF Kd np) lC go391 r0 a1 a2 a3 a4 a5 a6 S) := by
  unfold k_X11_heat_39
  refine gL_ite (fun _ => ?_) (fun _ => ?_)
  · refine gL_ite (fun _ => ?_) (fun _ => ?_)
    · exact gL_someIS (by assumption)
    · exact gL_someIS (by assumption)
  · refine gL_gi (by assumption) (fun _ => ?_)
    refine gL_ck (by assumption) ?_
    refine gL_biN (g_m_X11_courseFromNow (by assumption) (by assumption)) (fun _ _ _ _ => ?_)
    refine gL_pi (by assumption) (by assumption) (fun _ _ => ?_)
    refine gL_ck (by assumption) ?_
    refine gL_b1S (g_m_X1_goHours (by assumption) (by assumption)) (fun _ _ => ?_)
    refine gL_ck (by assumption) ?_
    refine gL_b1I (g_m_X1_offer (by assumption) (by assumption)) (fun _ => ?_)
    refine gL_ite (fun _ => ?_) (fun _ => ?_)
    · refine gL_let ?_
      exact hgo39 _ _ _ _ _ _ _ _ (by assumption) (by assumption)
    · refine gL_ck (by assumption) ?_
      refine gL_b1I (g_m_X1_offer (by assumption) (by assumption)) (fun _ => ?_)
      refine gL_let ?_
      exact hgo39 _ _ _ _ _ _ _ _ (by assumption) (by assumption)
theorem g_b_X11_heat_39 {Kd : Nat → Nat} {np : Nat}     : ∀ (n : Nat) {y0 : Nat} {y1 : Int32} {y2 : Int32} {y3 : Int32} {y4 : Int32} {y5 : Int32} {y6 : Int32} {y7 : fm_M}, gR Kd np y0 → cl Kd np y7 → gL (pIS Kd np) (b_X11_heat_39 (kC Kd) lC  n y0 y1 y2 y3 y4 y5 y6 y7) (b_X11_heat_39 (kF Kd np) lC  n y0 y1 y2 y3 y4 y5 y6 y7) := by
  intro n
  induction n with
  | zero =>
    intro y0 y1 y2 y3 y4 y5 y6 y7 hy0 hy7
    exact gL_none _
  | succ n ih =>
    intro y0 y1 y2 y3 y4 y5 y6 y7 hy0 hy7
    exact g_k_X11_heat_39 (Kd := Kd) (go39 := b_X11_heat_39 (kC Kd) lC  n) (go391 := b_X11_heat_39 (kF Kd np) lC  n) (fun _ _ _ _ _ _ _ _ k0 k1 => ih k0 k1) hy0 hy7
theorem g_m_X11_heat {Kd : Nat → Nat} {np : Nat}  {r0 : Nat} {a1 : Int32} {a2 : Int32} {a3 : Int32} {S : fm_M}  (hr0 : gR Kd np r0) (hS : cl Kd np S) : gL (pIS Kd np) (m_X11_heat (kC Kd) lC r0 a1 a2 a3 S) (m_X11_heat (kF Kd np) lC r0 a1 a2 a3 S) := by
  unfold m_X11_heat
  refine gL_ck (by assumption) ?_
  refine gL_b1I (g_m_X11_isPane (by assumption) (by assumption)) (fun _ => ?_)
  refine gL_ite (fun _ => ?_) (fun _ => ?_)
  · exact gL_someIS (by assumption)
  · refine gL_b1I (g_m_X11_isWithin (by assumption)) (fun _ => ?_)
    refine gL_ite (fun _ => ?_) (fun _ => ?_)
    · exact gL_someIS (by assumption)
    · refine gL_b1I (g_m_X11_isWithin (by assumption)) (fun _ => ?_)
      refine gL_ite (fun _ => ?_) (fun _ => ?_)
      · exact gL_someIS (by assumption)
      · refine gL_let ?_
        refine gL_let ?_
        refine gL_let ?_
        exact g_b_X11_heat_39 _ (by assumption) (by assumption)
theorem g_k_X11_comes_36 {Kd : Nat → Nat} {np : Nat} {go36 go361 : Int32 → Nat → Int32 → fm_M → Option (Int32 × fm_M)} {a2 : Int32} {r3 : Nat} {a4 : Int32} {S : fm_M} (hgo36 : ∀ (x0 : Int32) (x1 : Nat) (x2 : Int32) (x3 : fm_M), gR Kd np x1 → cl Kd np x3 → gL (pIS Kd np) (go36 x0 x1 x2 x3) (go361 x0 x1 x2 x3)) (hr3 : gR Kd np r3) (hS : cl Kd np S) : gL (pIS Kd np) (k_X11_comes_36 (kC Kd) lC go36 a2 r3 a4 S) (k_X11_comes_36 (kF Kd np) lC go361 a2 r3 a4 S) := by
  unfold k_X11_comes_36
  refine gL_ite (fun _ => ?_) (fun _ => ?_)
  · exact gL_someIS (by assumption)
  · refine gL_gi (by assumption) (fun _ => ?_)
    refine gL_ite (fun _ => ?_) (fun _ => ?_)
    · exact gL_someIS (by assumption)
    · refine gL_ck (by assumption) ?_
      refine gL_b1S (g_m_X1_goHour (by assumption) (by assumption)) (fun _ _ => ?_)
      refine gL_let ?_
      exact hgo36 _ _ _ _ (by assumption) (by assumption)
theorem g_b_X11_comes_36 {Kd : Nat → Nat} {np : Nat}     : ∀ (n : Nat) {y0 : Int32} {y1 : Nat} {y2 : Int32} {y3 : fm_M}, gR Kd np y1 → cl Kd np y3 → gL (pIS Kd np) (b_X11_comes_36 (kC Kd) lC  n y0 y1 y2 y3) (b_X11_comes_36 (kF Kd np) lC  n y0 y1 y2 y3) := by
  intro n
  induction n with
  | zero =>
    intro y0 y1 y2 y3 hy1 hy3
    exact gL_none _
  | succ n ih =>
    intro y0 y1 y2 y3 hy1 hy3
    exact g_k_X11_comes_36 (Kd := Kd) (go36 := b_X11_comes_36 (kC Kd) lC  n) (go361 := b_X11_comes_36 (kF Kd np) lC  n) (fun _ _ _ _ k0 k1 => ih k0 k1) hy1 hy3
theorem g_m_X11_comes {Kd : Nat → Nat} {np : Nat}  {r0 : Nat} {a1 : Int32} {a2 : Int32} {S : fm_M}  (hr0 : gR Kd np r0) (hS : cl Kd np S) : gL (pIS Kd np) (m_X11_comes (kC Kd) lC r0 a1 a2 S) (m_X11_comes (kF Kd np) lC r0 a1 a2 S) := by
  unfold m_X11_comes
  refine gL_ck (by assumption) ?_
  refine gL_b1I (g_m_X11_isPane (by assumption) (by assumption)) (fun _ => ?_)
  refine gL_ite (fun _ => ?_) (fun _ => ?_)
  · exact gL_someIS (by assumption)
  · refine gL_b1I (g_m_X11_isWithin (by assumption)) (fun _ => ?_)
    refine gL_ite (fun _ => ?_) (fun _ => ?_)
    · exact gL_someIS (by assumption)
    · refine gL_gi (by assumption) (fun _ => ?_)
      refine gL_ck (by assumption) ?_
      refine gL_biN (g_m_X11_courseFromNow (by assumption) (by assumption)) (fun _ _ _ _ => ?_)
      refine gL_let ?_
      exact g_b_X11_comes_36 _ (by assumption) (by assumption)
theorem g_k_X11_breaths_53 {Kd : Nat → Nat} {np : Nat} {go53 go531 : Nat → Int32 → Int32 → Int32 → Int32 → Int32 → Int32 → fm_M → Option (Int32 × fm_M)} {r0 : Nat} {a1 : Int32} {a2 : Int32} {a3 : Int32} {a4 : Int32} {a5 : Int32} {a6 : Int32} {S : fm_M} (hgo53 : ∀ (x0 : Nat) (x1 : Int32) (x2 : Int32) (x3 : Int32) (x4 : Int32) (x5 : Int32) (x6 : Int32) (x7 : fm_M), gR Kd np x0 → cl Kd np x7 → gL (pIS Kd np) (go53 x0 x1 x2 x3 x4 x5 x6 x7) (go531 x0 x1 x2 x3 x4 x5 x6 x7)) (hr0 : gR Kd np r0) (hS : cl Kd np S) : gL (pIS Kd np) (k_X11_breaths_53 (kC Kd) lC go53 r0 a1 a2 a3 a4 a5 a6 S) (k_X11_breaths_53 (kF Kd np) lC go531 r0 a1 a2 a3 a4 a5 a6 S) := by
  unfold k_X11_breaths_53
  refine gL_ite (fun _ => ?_) (fun _ => ?_)
  · refine gL_ite (fun _ => ?_) (fun _ => ?_)
    · refine gL_ck (by assumption) ?_
      refine gL_b1I (g_m_X11_breathedAt (by assumption) (by assumption)) (fun _ => ?_)
      refine gL_gi (by assumption) (fun _ => ?_)
      refine gL_ite (fun _ => ?_) (fun _ => ?_)
      · exact gL_someIS (by assumption)
      · exact gL_someIS (by assumption)
    · exact gL_someIS (by assumption)
  · refine gL_ck (by assumption) ?_
    refine gL_b1I (g_m_X11_paidByRow (by assumption) (by assumption)) (fun _ => ?_)
    refine gL_ite (fun _ => ?_) (fun _ => ?_)
    · refine gL_let ?_
      exact hgo53 _ _ _ _ _ _ _ _ (by assumption) (by assumption)
    · refine gL_let ?_
      exact hgo53 _ _ _ _ _ _ _ _ (by assumption) (by assumption)
theorem g_b_X11_breaths_53 {Kd : Nat → Nat} {np : Nat}     : ∀ (n : Nat) {y0 : Nat} {y1 : Int32} {y2 : Int32} {y3 : Int32} {y4 : Int32} {y5 : Int32} {y6 : Int32} {y7 : fm_M}, gR Kd np y0 → cl Kd np y7 → gL (pIS Kd np) (b_X11_breaths_53 (kC Kd) lC  n y0 y1 y2 y3 y4 y5 y6 y7) (b_X11_breaths_53 (kF Kd np) lC  n y0 y1 y2 y3 y4 y5 y6 y7) := by
  intro n
  induction n with
  | zero =>
    intro y0 y1 y2 y3 y4 y5 y6 y7 hy0 hy7
    exact gL_none _
  | succ n ih =>
    intro y0 y1 y2 y3 y4 y5 y6 y7 hy0 hy7
    exact g_k_X11_breaths_53 (Kd := Kd) (go53 := b_X11_breaths_53 (kC Kd) lC  n) (go531 := b_X11_breaths_53 (kF Kd np) lC  n) (fun _ _ _ _ _ _ _ _ k0 k1 => ih k0 k1) hy0 hy7
theorem g_m_X11_breaths {Kd : Nat → Nat} {np : Nat}  {r0 : Nat} {a1 : Int32} {a2 : Int32} {S : fm_M}  (hr0 : gR Kd np r0) (hS : cl Kd np S) : gL (pIS Kd np) (m_X11_breaths (kC Kd) lC r0 a1 a2 S) (m_X11_breaths (kF Kd np) lC r0 a1 a2 S) := by
  unfold m_X11_breaths
  refine gL_ite (fun _ => ?_) (fun _ => ?_)
  · exact gL_someIS (by assumption)
  · refine gL_ite (fun _ => ?_) (fun _ => ?_)
    · refine gL_ite (fun _ => ?_) (fun _ => ?_)
      · exact gL_someIS (by assumption)
      · refine gL_ite (fun _ => ?_) (fun _ => ?_)
        · refine gL_ite (fun _ => ?_) (fun _ => ?_)
          · refine gL_ck (by assumption) ?_
            refine gL_b1S (g_m_X11_fillPays (by assumption) (by assumption)) (fun _ _ => ?_)
            refine gL_let ?_
            refine gL_let ?_
            refine gL_ck (by assumption) ?_
            refine gL_b1I (g_m_X11_rowsOfBreaths (by assumption) (by assumption)) (fun _ => ?_)
            refine gL_let ?_
            exact g_b_X11_breaths_53 _ (by assumption) (by assumption)
          · exact gL_someIS (by assumption)
        · exact gL_someIS (by assumption)
    · exact gL_someIS (by assumption)
theorem g_m_X11_see {Kd : Nat → Nat} {np : Nat}  {r0 : Nat} {a1 : Int32} {a2 : Int32} {a3 : Int32} {S : fm_M}  (hr0 : gR Kd np r0) (hS : cl Kd np S) : gL (pIS Kd np) (m_X11_see (kC Kd) lC r0 a1 a2 a3 S) (m_X11_see (kF Kd np) lC r0 a1 a2 a3 S) := by
  unfold m_X11_see
  refine gL_ite (fun _ => ?_) (fun _ => ?_)
  · refine gL_gr (by decide) ok_11_11 (by assumption) (by assumption) (fun _ _ => ?_)
    refine gL_ck (by assumption) ?_
    refine gL_biI (g_m_X8_clear (by assumption) (by assumption)) (fun _ _ _ => ?_)
    exact gL_someIS (by assumption)
  · refine gL_ck (by assumption) ?_
    refine gL_b1I (g_m_X11_isPane (by assumption) (by assumption)) (fun _ => ?_)
    refine gL_ite (fun _ => ?_) (fun _ => ?_)
    · exact gL_someIS (by assumption)
    · refine gL_b1I (g_m_X11_isWithin (by assumption)) (fun _ => ?_)
      refine gL_ite (fun _ => ?_) (fun _ => ?_)
      · exact gL_someIS (by assumption)
      · refine gL_b1I (g_m_X11_isWithin (by assumption)) (fun _ => ?_)
        refine gL_ite (fun _ => ?_) (fun _ => ?_)
        · exact gL_someIS (by assumption)
        · refine gL_gr (by decide) ok_11_11 (by assumption) (by assumption) (fun _ _ => ?_)
          refine gL_ck (by assumption) ?_
          refine gL_b1I (g_m_X8_isFull (by assumption) (by assumption)) (fun _ => ?_)
          refine gL_ite (fun _ => ?_) (fun _ => ?_)
          · refine gL_gr (by decide) ok_11_11 (by assumption) (by assumption) (fun _ _ => ?_)
            refine gL_ck (by assumption) ?_
            refine gL_biI (g_m_X8_add (by assumption) (by assumption)) (fun _ _ _ => ?_)
            exact gL_someIS (by assumption)
          · exact gL_someIS (by assumption)
theorem g_k_X11_colds_19 {Kd : Nat → Nat} {np : Nat} {go19 go191 : Nat → Int32 → Int32 → Int32 → Int32 → fm_M → Option (Int32 × fm_M)} {r0 : Nat} {a1 : Int32} {a2 : Int32} {a3 : Int32} {a4 : Int32} {S : fm_M} (hgo19 : ∀ (x0 : Nat) (x1 : Int32) (x2 : Int32) (x3 : Int32) (x4 : Int32) (x5 : fm_M), gR Kd np x0 → cl Kd np x5 → gL (pIS Kd np) (go19 x0 x1 x2 x3 x4 x5) (go191 x0 x1 x2 x3 x4 x5)) (hr0 : gR Kd np r0) (hS : cl Kd np S) : gL (pIS Kd np) (k_X11_colds_19 (kC Kd) lC go19 r0 a1 a2 a3 a4 S) (k_X11_colds_19 (kF Kd np) lC go191 r0 a1 a2 a3 a4 S) := by
  unfold k_X11_colds_19
  refine gL_ite (fun _ => ?_) (fun _ => ?_)
  · refine gL_ite (fun _ => ?_) (fun _ => ?_)
    · exact gL_someIS (by assumption)
    · exact gL_someIS (by assumption)
  · refine gL_ck (by assumption) ?_
    refine gL_biI (g_m_X11_isSeenSo (by assumption) (by assumption)) (fun _ _ _ => ?_)
    refine gL_ite (fun _ => ?_) (fun _ => ?_)
    · refine gL_let ?_
      exact hgo19 _ _ _ _ _ _ (by assumption) (by assumption)
    · refine gL_let ?_
      refine gL_let ?_
      exact hgo19 _ _ _ _ _ _ (by assumption) (by assumption)
theorem g_b_X11_colds_19 {Kd : Nat → Nat} {np : Nat}     : ∀ (n : Nat) {y0 : Nat} {y1 : Int32} {y2 : Int32} {y3 : Int32} {y4 : Int32} {y5 : fm_M}, gR Kd np y0 → cl Kd np y5 → gL (pIS Kd np) (b_X11_colds_19 (kC Kd) lC  n y0 y1 y2 y3 y4 y5) (b_X11_colds_19 (kF Kd np) lC  n y0 y1 y2 y3 y4 y5) := by
  intro n
  induction n with
  | zero =>
    intro y0 y1 y2 y3 y4 y5 hy0 hy5
    exact gL_none _
  | succ n ih =>
    intro y0 y1 y2 y3 y4 y5 hy0 hy5
    exact g_k_X11_colds_19 (Kd := Kd) (go19 := b_X11_colds_19 (kC Kd) lC  n) (go191 := b_X11_colds_19 (kF Kd np) lC  n) (fun _ _ _ _ _ _ k0 k1 => ih k0 k1) hy0 hy5
theorem g_m_X11_colds {Kd : Nat → Nat} {np : Nat}  {r0 : Nat} {a1 : Int32} {S : fm_M}  (hr0 : gR Kd np r0) (hS : cl Kd np S) : gL (pIS Kd np) (m_X11_colds (kC Kd) lC r0 a1 S) (m_X11_colds (kF Kd np) lC r0 a1 S) := by
  unfold m_X11_colds
  refine gL_b1I (g_m_X11_isWithin (by assumption)) (fun _ => ?_)
  refine gL_ite (fun _ => ?_) (fun _ => ?_)
  · exact gL_someIS (by assumption)
  · refine gL_let ?_
    refine gL_let ?_
    refine gL_let ?_
    exact g_b_X11_colds_19 _ (by assumption) (by assumption)
theorem g_k_X11_warms_14 {Kd : Nat → Nat} {np : Nat} {go14 go141 : Nat → Int32 → Int32 → Int32 → fm_M → Option (Int32 × fm_M)} {r0 : Nat} {a1 : Int32} {a2 : Int32} {a3 : Int32} {S : fm_M} (hgo14 : ∀ (x0 : Nat) (x1 : Int32) (x2 : Int32) (x3 : Int32) (x4 : fm_M), gR Kd np x0 → cl Kd np x4 → gL (pIS Kd np) (go14 x0 x1 x2 x3 x4) (go141 x0 x1 x2 x3 x4)) (hr0 : gR Kd np r0) (hS : cl Kd np S) : gL (pIS Kd np) (k_X11_warms_14 (kC Kd) lC go14 r0 a1 a2 a3 S) (k_X11_warms_14 (kF Kd np) lC go141 r0 a1 a2 a3 S) := by
  unfold k_X11_warms_14
  refine gL_ite (fun _ => ?_) (fun _ => ?_)
  · exact gL_someIS (by assumption)
  · refine gL_gi (by assumption) (fun _ => ?_)
    refine gL_gr (by decide) ok_11_0 (by assumption) (by assumption) (fun _ _ => ?_)
    refine gL_lr (by decide) (by assumption) (by assumption) (fun _ _ => ?_)
    refine gL_gi (by assumption) (fun _ => ?_)
    refine gL_ck (by assumption) ?_
    refine gL_biI (g_m_X11_isSeenSo (by assumption) (by assumption)) (fun _ _ _ => ?_)
    refine gL_ite (fun _ => ?_) (fun _ => ?_)
    · refine gL_let ?_
      exact hgo14 _ _ _ _ _ (by assumption) (by assumption)
    · refine gL_let ?_
      refine gL_let ?_
      exact hgo14 _ _ _ _ _ (by assumption) (by assumption)
theorem g_b_X11_warms_14 {Kd : Nat → Nat} {np : Nat}     : ∀ (n : Nat) {y0 : Nat} {y1 : Int32} {y2 : Int32} {y3 : Int32} {y4 : fm_M}, gR Kd np y0 → cl Kd np y4 → gL (pIS Kd np) (b_X11_warms_14 (kC Kd) lC  n y0 y1 y2 y3 y4) (b_X11_warms_14 (kF Kd np) lC  n y0 y1 y2 y3 y4) := by
  intro n
  induction n with
  | zero =>
    intro y0 y1 y2 y3 y4 hy0 hy4
    exact gL_none _
  | succ n ih =>
    intro y0 y1 y2 y3 y4 hy0 hy4
    exact g_k_X11_warms_14 (Kd := Kd) (go14 := b_X11_warms_14 (kC Kd) lC  n) (go141 := b_X11_warms_14 (kF Kd np) lC  n) (fun _ _ _ _ _ k0 k1 => ih k0 k1) hy0 hy4
theorem g_m_X11_warms {Kd : Nat → Nat} {np : Nat}  {r0 : Nat} {a1 : Int32} {S : fm_M}  (hr0 : gR Kd np r0) (hS : cl Kd np S) : gL (pIS Kd np) (m_X11_warms (kC Kd) lC r0 a1 S) (m_X11_warms (kF Kd np) lC r0 a1 S) := by
  unfold m_X11_warms
  refine gL_ck (by assumption) ?_
  refine gL_b1I (g_m_X11_isPane (by assumption) (by assumption)) (fun _ => ?_)
  refine gL_ite (fun _ => ?_) (fun _ => ?_)
  · exact gL_someIS (by assumption)
  · refine gL_let ?_
    refine gL_let ?_
    exact g_b_X11_warms_14 _ (by assumption) (by assumption)
theorem g_k_X11_firm_28 {Kd : Nat → Nat} {np : Nat} {go28 go281 : Nat → Int32 → Int32 → Int32 → Int32 → Int32 → fm_M → Option (Int32 × fm_M)} {r0 : Nat} {a1 : Int32} {a2 : Int32} {a3 : Int32} {a4 : Int32} {a5 : Int32} {S : fm_M} (hgo28 : ∀ (x0 : Nat) (x1 : Int32) (x2 : Int32) (x3 : Int32) (x4 : Int32) (x5 : Int32) (x6 : fm_M), gR Kd np x0 → cl Kd np x6 → gL (pIS Kd np) (go28 x0 x1 x2 x3 x4 x5 x6) (go281 x0 x1 x2 x3 x4 x5 x6)) (hr0 : gR Kd np r0) (hS : cl Kd np S) : gL (pIS Kd np) (k_X11_firm_28 (kC Kd) lC go28 r0 a1 a2 a3 a4 a5 S) (k_X11_firm_28 (kF Kd np) lC go281 r0 a1 a2 a3 a4 a5 S) := by
  unfold k_X11_firm_28
  refine gL_ite (fun _ => ?_) (fun _ => ?_)
  · refine gL_ite (fun _ => ?_) (fun _ => ?_)
    · exact gL_someIS (by assumption)
    · exact gL_someIS (by assumption)
  · refine gL_gi (by assumption) (fun _ => ?_)
    refine gL_gr (by decide) ok_11_0 (by assumption) (by assumption) (fun _ _ => ?_)
    refine gL_lr (by decide) (by assumption) (by assumption) (fun _ _ => ?_)
    refine gL_gi (by assumption) (fun _ => ?_)
    refine gL_ck (by assumption) ?_
    refine gL_biI (g_m_X11_isSeenSo (by assumption) (by assumption)) (fun _ _ _ => ?_)
    refine gL_ite (fun _ => ?_) (fun _ => ?_)
    · refine gL_let ?_
      exact hgo28 _ _ _ _ _ _ _ (by assumption) (by assumption)
    · refine gL_let ?_
      refine gL_let ?_
      exact hgo28 _ _ _ _ _ _ _ (by assumption) (by assumption)
theorem g_b_X11_firm_28 {Kd : Nat → Nat} {np : Nat}     : ∀ (n : Nat) {y0 : Nat} {y1 : Int32} {y2 : Int32} {y3 : Int32} {y4 : Int32} {y5 : Int32} {y6 : fm_M}, gR Kd np y0 → cl Kd np y6 → gL (pIS Kd np) (b_X11_firm_28 (kC Kd) lC  n y0 y1 y2 y3 y4 y5 y6) (b_X11_firm_28 (kF Kd np) lC  n y0 y1 y2 y3 y4 y5 y6) := by
  intro n
  induction n with
  | zero =>
    intro y0 y1 y2 y3 y4 y5 y6 hy0 hy6
    exact gL_none _
  | succ n ih =>
    intro y0 y1 y2 y3 y4 y5 y6 hy0 hy6
    exact g_k_X11_firm_28 (Kd := Kd) (go28 := b_X11_firm_28 (kC Kd) lC  n) (go281 := b_X11_firm_28 (kF Kd np) lC  n) (fun _ _ _ _ _ _ _ k0 k1 => ih k0 k1) hy0 hy6
theorem g_m_X11_firm {Kd : Nat → Nat} {np : Nat}  {r0 : Nat} {a1 : Int32} {a2 : Int32} {S : fm_M}  (hr0 : gR Kd np r0) (hS : cl Kd np S) : gL (pIS Kd np) (m_X11_firm (kC Kd) lC r0 a1 a2 S) (m_X11_firm (kF Kd np) lC r0 a1 a2 S) := by
  unfold m_X11_firm
  refine gL_ck (by assumption) ?_
  refine gL_b1I (g_m_X11_isPane (by assumption) (by assumption)) (fun _ => ?_)
  refine gL_ite (fun _ => ?_) (fun _ => ?_)
  · exact gL_someIS (by assumption)
  · refine gL_b1I (g_m_X11_isWithin (by assumption)) (fun _ => ?_)
    refine gL_ite (fun _ => ?_) (fun _ => ?_)
    · exact gL_someIS (by assumption)
    · refine gL_let ?_
      refine gL_let ?_
      refine gL_let ?_
      exact g_b_X11_firm_28 _ (by assumption) (by assumption)
theorem g_k_X11_odds_46 {Kd : Nat → Nat} {np : Nat} {go46 go461 : Nat → Int32 → Int32 → Int32 → Int32 → Int32 → Int32 → fm_M → Option (Int64 × fm_M)} {r0 : Nat} {a1 : Int32} {a2 : Int32} {a3 : Int32} {a4 : Int32} {a5 : Int32} {a6 : Int32} {S : fm_M} (hgo46 : ∀ (x0 : Nat) (x1 : Int32) (x2 : Int32) (x3 : Int32) (x4 : Int32) (x5 : Int32) (x6 : Int32) (x7 : fm_M), gR Kd np x0 → cl Kd np x7 → gL (pIS Kd np) (go46 x0 x1 x2 x3 x4 x5 x6 x7) (go461 x0 x1 x2 x3 x4 x5 x6 x7)) (hr0 : gR Kd np r0) (hS : cl Kd np S) : gL (pIS Kd np) (k_X11_odds_46 (kC Kd) lC go46 r0 a1 a2 a3 a4 a5 a6 S) (k_X11_odds_46 (kF Kd np) lC go461 r0 a1 a2 a3 a4 a5 a6 S) := by
  unfold k_X11_odds_46
  refine gL_ite (fun _ => ?_) (fun _ => ?_)
  · refine gL_b1I (g_m_X11_partOf (by assumption)) (fun _ => ?_)
    exact gL_someIS (by assumption)
  · refine gL_ck (by assumption) ?_
    refine gL_biN (g_m_X11_courseFromNow (by assumption) (by assumption)) (fun _ _ _ _ => ?_)
    refine gL_ck (by assumption) ?_
    refine gL_b1S (g_m_X1_goHours (by assumption) (by assumption)) (fun _ _ => ?_)
    refine gL_ck (by assumption) ?_
    refine gL_b1I (g_m_X1_offer (by assumption) (by assumption)) (fun _ => ?_)
    refine gL_ite (fun _ => ?_) (fun _ => ?_)
    · refine gL_let ?_
      exact hgo46 _ _ _ _ _ _ _ _ (by assumption) (by assumption)
    · refine gL_let ?_
      refine gL_let ?_
      exact hgo46 _ _ _ _ _ _ _ _ (by assumption) (by assumption)
theorem g_b_X11_odds_46 {Kd : Nat → Nat} {np : Nat}     : ∀ (n : Nat) {y0 : Nat} {y1 : Int32} {y2 : Int32} {y3 : Int32} {y4 : Int32} {y5 : Int32} {y6 : Int32} {y7 : fm_M}, gR Kd np y0 → cl Kd np y7 → gL (pIS Kd np) (b_X11_odds_46 (kC Kd) lC  n y0 y1 y2 y3 y4 y5 y6 y7) (b_X11_odds_46 (kF Kd np) lC  n y0 y1 y2 y3 y4 y5 y6 y7) := by
  intro n
  induction n with
  | zero =>
    intro y0 y1 y2 y3 y4 y5 y6 y7 hy0 hy7
    exact gL_none _
  | succ n ih =>
    intro y0 y1 y2 y3 y4 y5 y6 y7 hy0 hy7
    exact g_k_X11_odds_46 (Kd := Kd) (go46 := b_X11_odds_46 (kC Kd) lC  n) (go461 := b_X11_odds_46 (kF Kd np) lC  n) (fun _ _ _ _ _ _ _ _ k0 k1 => ih k0 k1) hy0 hy7
theorem g_m_X11_odds {Kd : Nat → Nat} {np : Nat}  {r0 : Nat} {a1 : Int32} {a2 : Int32} {a3 : Int32} {a4 : Int32} {S : fm_M}  (hr0 : gR Kd np r0) (hS : cl Kd np S) : gL (pIS Kd np) (m_X11_odds (kC Kd) lC r0 a1 a2 a3 a4 S) (m_X11_odds (kF Kd np) lC r0 a1 a2 a3 a4 S) := by
  unfold m_X11_odds
  refine gL_ck (by assumption) ?_
  refine gL_b1I (g_m_X11_isPane (by assumption) (by assumption)) (fun _ => ?_)
  refine gL_ite (fun _ => ?_) (fun _ => ?_)
  · exact gL_someIS (by assumption)
  · refine gL_b1I (g_m_X11_isWithin (by assumption)) (fun _ => ?_)
    refine gL_ite (fun _ => ?_) (fun _ => ?_)
    · exact gL_someIS (by assumption)
    · refine gL_b1I (g_m_X11_isWithin (by assumption)) (fun _ => ?_)
      refine gL_ite (fun _ => ?_) (fun _ => ?_)
      · exact gL_someIS (by assumption)
      · refine gL_b1I (g_m_X11_isWithin (by assumption)) (fun _ => ?_)
        refine gL_ite (fun _ => ?_) (fun _ => ?_)
        · exact gL_someIS (by assumption)
        · refine gL_let ?_
          refine gL_let ?_
          exact g_b_X11_odds_46 _ (by assumption) (by assumption)
theorem g_m_X11_mean {Kd : Nat → Nat} {np : Nat}  {r0 : Nat} {a1 : Int32} {S : fm_M}  (hr0 : gR Kd np r0) (hS : cl Kd np S) : gL (pIS Kd np) (m_X11_mean (kC Kd) lC r0 a1 S) (m_X11_mean (kF Kd np) lC r0 a1 S) := by
  unfold m_X11_mean
  refine gL_b1I (g_m_X11_isWithin (by assumption)) (fun _ => ?_)
  refine gL_ite (fun _ => ?_) (fun _ => ?_)
  · exact gL_someIS (by assumption)
  · refine gL_gi (by assumption) (fun _ => ?_)
    refine gL_ite (fun _ => ?_) (fun _ => ?_)
    · exact gL_someIS (by assumption)
    · refine gL_ck (by assumption) ?_
      refine gL_biI (g_m_X11_offersBehind (by assumption) (by assumption)) (fun _ _ _ => ?_)
      refine gL_gi (by assumption) (fun _ => ?_)
      refine gL_b1I (g_m_X11_partOf (by assumption)) (fun _ => ?_)
      exact gL_someIS (by assumption)
theorem g_m_X11_plan {Kd : Nat → Nat} {np : Nat}  {r0 : Nat} {a1 : Int32} {a2 : Int32} {S : fm_M}  (hr0 : gR Kd np r0) (hS : cl Kd np S) : gL (pIS Kd np) (m_X11_plan (kC Kd) lC r0 a1 a2 S) (m_X11_plan (kF Kd np) lC r0 a1 a2 S) := by
  unfold m_X11_plan
  refine gL_ite (fun _ => ?_) (fun _ => ?_)
  · refine gL_gr (by decide) ok_11_12 (by assumption) (by assumption) (fun _ _ => ?_)
    refine gL_ck (by assumption) ?_
    refine gL_biI (g_m_X8_clear (by assumption) (by assumption)) (fun _ _ _ => ?_)
    exact gL_someIS (by assumption)
  · refine gL_b1I (g_m_X11_isWithin (by assumption)) (fun _ => ?_)
    refine gL_ite (fun _ => ?_) (fun _ => ?_)
    · exact gL_someIS (by assumption)
    · refine gL_ite (fun _ => ?_) (fun _ => ?_)
      · refine gL_gr (by decide) ok_11_12 (by assumption) (by assumption) (fun _ _ => ?_)
        refine gL_ck (by assumption) ?_
        refine gL_b1I (g_m_X8_isFull (by assumption) (by assumption)) (fun _ => ?_)
        refine gL_ite (fun _ => ?_) (fun _ => ?_)
        · refine gL_gr (by decide) ok_11_12 (by assumption) (by assumption) (fun _ _ => ?_)
          refine gL_ck (by assumption) ?_
          refine gL_biI (g_m_X8_add (by assumption) (by assumption)) (fun _ _ _ => ?_)
          exact gL_someIS (by assumption)
        · exact gL_someIS (by assumption)
      · refine gL_ck (by assumption) ?_
        refine gL_b1I (g_m_X11_isPane (by assumption) (by assumption)) (fun _ => ?_)
        refine gL_ite (fun _ => ?_) (fun _ => ?_)
        · exact gL_someIS (by assumption)
        · refine gL_gr (by decide) ok_11_12 (by assumption) (by assumption) (fun _ _ => ?_)
          refine gL_ck (by assumption) ?_
          refine gL_b1I (g_m_X8_isFull (by assumption) (by assumption)) (fun _ => ?_)
          refine gL_ite (fun _ => ?_) (fun _ => ?_)
          · refine gL_gr (by decide) ok_11_12 (by assumption) (by assumption) (fun _ _ => ?_)
            refine gL_ck (by assumption) ?_
            refine gL_biI (g_m_X8_add (by assumption) (by assumption)) (fun _ _ _ => ?_)
            exact gL_someIS (by assumption)
          · exact gL_someIS (by assumption)
theorem g_k_X11_done_20 {Kd : Nat → Nat} {np : Nat} {go20 go201 : Nat → Int32 → Int32 → Int32 → Int32 → fm_M → Option (Int32 × fm_M)} {r0 : Nat} {a1 : Int32} {a2 : Int32} {a3 : Int32} {a4 : Int32} {S : fm_M} (hgo20 : ∀ (x0 : Nat) (x1 : Int32) (x2 : Int32) (x3 : Int32) (x4 : Int32) (x5 : fm_M), gR Kd np x0 → cl Kd np x5 → gL (pIS Kd np) (go20 x0 x1 x2 x3 x4 x5) (go201 x0 x1 x2 x3 x4 x5)) (hr0 : gR Kd np r0) (hS : cl Kd np S) : gL (pIS Kd np) (k_X11_done_20 (kC Kd) lC go20 r0 a1 a2 a3 a4 S) (k_X11_done_20 (kF Kd np) lC go201 r0 a1 a2 a3 a4 S) := by
  unfold k_X11_done_20
  refine gL_gi (by assumption) (fun _ => ?_)
  refine gL_ite (fun _ => ?_) (fun _ => ?_)
  · refine gL_ite (fun _ => ?_) (fun _ => ?_)
    · exact gL_someIS (by assumption)
    · exact gL_someIS (by assumption)
  · refine gL_gi (by assumption) (fun _ => ?_)
    refine gL_ck (by assumption) ?_
    refine gL_biN (g_m_X11_courseFromNow (by assumption) (by assumption)) (fun _ _ _ _ => ?_)
    refine gL_gr (by decide) ok_11_12 (by assumption) (by assumption) (fun _ _ => ?_)
    refine gL_ck (by assumption) ?_
    refine gL_biI (g_m_X1_goPlan (by assumption) (by assumption) (by assumption)) (fun _ _ _ => ?_)
    refine gL_let ?_
    refine gL_ck (by assumption) ?_
    refine gL_b1I (g_m_X1_offer (by assumption) (by assumption)) (fun _ => ?_)
    refine gL_let ?_
    refine gL_let ?_
    exact hgo20 _ _ _ _ _ _ (by assumption) (by assumption)
theorem g_b_X11_done_20 {Kd : Nat → Nat} {np : Nat}     : ∀ (n : Nat) {y0 : Nat} {y1 : Int32} {y2 : Int32} {y3 : Int32} {y4 : Int32} {y5 : fm_M}, gR Kd np y0 → cl Kd np y5 → gL (pIS Kd np) (b_X11_done_20 (kC Kd) lC  n y0 y1 y2 y3 y4 y5) (b_X11_done_20 (kF Kd np) lC  n y0 y1 y2 y3 y4 y5) := by
  intro n
  induction n with
  | zero =>
    intro y0 y1 y2 y3 y4 y5 hy0 hy5
    exact gL_none _
  | succ n ih =>
    intro y0 y1 y2 y3 y4 y5 hy0 hy5
    exact g_k_X11_done_20 (Kd := Kd) (go20 := b_X11_done_20 (kC Kd) lC  n) (go201 := b_X11_done_20 (kF Kd np) lC  n) (fun _ _ _ _ _ _ k0 k1 => ih k0 k1) hy0 hy5
theorem g_m_X11_done {Kd : Nat → Nat} {np : Nat}  {r0 : Nat} {a1 : Int32} {S : fm_M}  (hr0 : gR Kd np r0) (hS : cl Kd np S) : gL (pIS Kd np) (m_X11_done (kC Kd) lC r0 a1 S) (m_X11_done (kF Kd np) lC r0 a1 S) := by
  unfold m_X11_done
  refine gL_b1I (g_m_X11_isWithin (by assumption)) (fun _ => ?_)
  refine gL_ite (fun _ => ?_) (fun _ => ?_)
  · exact gL_someIS (by assumption)
  · refine gL_gi (by assumption) (fun _ => ?_)
    refine gL_let ?_
    refine gL_let ?_
    exact g_b_X11_done_20 _ (by assumption) (by assumption)
theorem g_m_X11_book {Kd : Nat → Nat} {np : Nat}  {r0 : Nat} {a1 : Int32} {a2 : Int32} {S : fm_M}  (hr0 : gR Kd np r0) (hS : cl Kd np S) : gL (pIS Kd np) (m_X11_book (kC Kd) lC r0 a1 a2 S) (m_X11_book (kF Kd np) lC r0 a1 a2 S) := by
  unfold m_X11_book
  refine gL_ite (fun _ => ?_) (fun _ => ?_)
  · refine gL_gr (by decide) ok_11_13 (by assumption) (by assumption) (fun _ _ => ?_)
    refine gL_ck (by assumption) ?_
    refine gL_biI (g_m_X8_clear (by assumption) (by assumption)) (fun _ _ _ => ?_)
    exact gL_someIS (by assumption)
  · refine gL_ck (by assumption) ?_
    refine gL_b1I (g_m_X11_isPane (by assumption) (by assumption)) (fun _ => ?_)
    refine gL_ite (fun _ => ?_) (fun _ => ?_)
    · exact gL_someIS (by assumption)
    · refine gL_b1I (g_m_X11_isWithin (by assumption)) (fun _ => ?_)
      refine gL_ite (fun _ => ?_) (fun _ => ?_)
      · exact gL_someIS (by assumption)
      · refine gL_gr (by decide) ok_11_13 (by assumption) (by assumption) (fun _ _ => ?_)
        refine gL_ck (by assumption) ?_
        refine gL_b1I (g_m_X8_isFull (by assumption) (by assumption)) (fun _ => ?_)
        refine gL_ite (fun _ => ?_) (fun _ => ?_)
        · refine gL_gr (by decide) ok_11_13 (by assumption) (by assumption) (fun _ _ => ?_)
          refine gL_ck (by assumption) ?_
          refine gL_biI (g_m_X8_add (by assumption) (by assumption)) (fun _ _ _ => ?_)
          exact gL_someIS (by assumption)
        · exact gL_someIS (by assumption)
theorem g_k_X11_looked_2 {Kd : Nat → Nat} {np : Nat} {go2 go21 : Nat → Int32 → Option Int32} {S : fm_M} {r0 : Nat} {a1 : Int32} (hgo2 : ∀ (x0 : Nat) (x1 : Int32), gR Kd np x0 → gL pT (go2 x0 x1) (go21 x0 x1)) (hS : cl Kd np S) (hr0 : gR Kd np r0) : gL pT (k_X11_looked_2 (kC Kd) lC S go2 r0 a1) (k_X11_looked_2 (kF Kd np) lC S go21 r0 a1) := by
  unfold k_X11_looked_2
  refine gL_gr (by decide) ok_11_13 (by assumption) (by assumption) (fun _ _ => ?_)
  refine gL_ck (by assumption) ?_
  refine gL_b1I (g_m_X8_size (by assumption) (by assumption)) (fun _ => ?_)
  refine gL_ite (fun _ => ?_) (fun _ => ?_)
  · exact gL_someI _
  · refine gL_gr (by decide) ok_11_13 (by assumption) (by assumption) (fun _ _ => ?_)
    refine gL_ck (by assumption) ?_
    refine gL_b1I (g_m_X8_at (by assumption) (by assumption)) (fun _ => ?_)
    refine gL_ck (by assumption) ?_
    refine gL_b1I (g_m_X11_isPane (by assumption) (by assumption)) (fun _ => ?_)
    refine gL_ite (fun _ => ?_) (fun _ => ?_)
    · refine gL_let ?_
      exact hgo2 _ _ (by assumption)
    · refine gL_gr (by decide) ok_11_0 (by assumption) (by assumption) (fun _ _ => ?_)
      refine gL_lr (by decide) (by assumption) (by assumption) (fun _ _ => ?_)
      refine gL_gi (by assumption) (fun _ => ?_)
      refine gL_gr (by decide) ok_11_13 (by assumption) (by assumption) (fun _ _ => ?_)
      refine gL_ck (by assumption) ?_
      refine gL_b1I (g_m_X8_at (by assumption) (by assumption)) (fun _ => ?_)
      refine gL_ite (fun _ => ?_) (fun _ => ?_)
      · refine gL_let ?_
        exact hgo2 _ _ (by assumption)
      · exact gL_someI _
theorem g_b_X11_looked_2 {Kd : Nat → Nat} {np : Nat}  {S : fm_M}  (hS : cl Kd np S) : ∀ (n : Nat) {y0 : Nat} {y1 : Int32}, gR Kd np y0 → gL pT (b_X11_looked_2 (kC Kd) lC S n y0 y1) (b_X11_looked_2 (kF Kd np) lC S n y0 y1) := by
  intro n
  induction n with
  | zero =>
    intro y0 y1 hy0
    exact gL_none _
  | succ n ih =>
    intro y0 y1 hy0
    exact g_k_X11_looked_2 (Kd := Kd) (go2 := b_X11_looked_2 (kC Kd) lC S n) (go21 := b_X11_looked_2 (kF Kd np) lC S n) (fun _ _ k0 => ih k0) hS hy0
theorem g_m_X11_looked {Kd : Nat → Nat} {np : Nat}  {r0 : Nat} {S : fm_M}  (hr0 : gR Kd np r0) (hS : cl Kd np S) : gL pT (m_X11_looked (kC Kd) lC r0 S) (m_X11_looked (kF Kd np) lC r0 S) := by
  unfold m_X11_looked
  refine gL_let ?_
  exact g_b_X11_looked_2 (by assumption) _ (by assumption)
theorem g_m_X11_act {Kd : Nat → Nat} {np : Nat}  {r0 : Nat} {a1 : Int32} {a2 : Int32} {a3 : Int32} {S : fm_M}  (hr0 : gR Kd np r0) (hS : cl Kd np S) : gL (pIS Kd np) (m_X11_act (kC Kd) lC r0 a1 a2 a3 S) (m_X11_act (kF Kd np) lC r0 a1 a2 a3 S) := by
  unfold m_X11_act
  refine gL_gr (by decide) ok_11_14 (by assumption) (by assumption) (fun _ _ => ?_)
  refine gL_ck (by assumption) ?_
  refine gL_biI (g_m_X8_clear (by assumption) (by assumption)) (fun _ _ _ => ?_)
  refine gL_ck (by assumption) ?_
  refine gL_b1I (g_m_X11_isPane (by assumption) (by assumption)) (fun _ => ?_)
  refine gL_ite (fun _ => ?_) (fun _ => ?_)
  · exact gL_someIS (by assumption)
  · refine gL_ite (fun _ => ?_) (fun _ => ?_)
    · refine gL_gr (by decide) ok_11_0 (by assumption) (by assumption) (fun _ _ => ?_)
      refine gL_lr (by decide) (by assumption) (by assumption) (fun _ _ => ?_)
      refine gL_biI (g_v_drips (by assumption) (by assumption)) (fun _ _ _ => ?_)
      exact gL_someIS (by assumption)
    · refine gL_ite (fun _ => ?_) (fun _ => ?_)
      · refine gL_gr (by decide) ok_11_0 (by assumption) (by assumption) (fun _ _ => ?_)
        refine gL_lr (by decide) (by assumption) (by assumption) (fun _ _ => ?_)
        refine gL_biI (g_v_creaks (by assumption) (by assumption)) (fun _ _ _ => ?_)
        exact gL_someIS (by assumption)
      · refine gL_ite (fun _ => ?_) (fun _ => ?_)
        · refine gL_gr (by decide) ok_11_0 (by assumption) (by assumption) (fun _ _ => ?_)
          refine gL_lr (by decide) (by assumption) (by assumption) (fun _ _ => ?_)
          refine gL_biI (g_v_shines (by assumption) (by assumption)) (fun _ _ _ => ?_)
          exact gL_someIS (by assumption)
        · exact gL_someIS (by assumption)
theorem g_m_X11_trace {Kd : Nat → Nat} {np : Nat}  {r0 : Nat} {a1 : Int32} {S : fm_M}  (hr0 : gR Kd np r0) (hS : cl Kd np S) : gL pT (m_X11_trace (kC Kd) lC r0 a1 S) (m_X11_trace (kF Kd np) lC r0 a1 S) := by
  unfold m_X11_trace
  refine gL_gr (by decide) ok_11_14 (by assumption) (by assumption) (fun _ _ => ?_)
  refine gL_ck (by assumption) ?_
  refine gL_b1I (g_m_X8_size (by assumption) (by assumption)) (fun _ => ?_)
  refine gL_b1I (g_m_X11_isWithin (by assumption)) (fun _ => ?_)
  refine gL_ite (fun _ => ?_) (fun _ => ?_)
  · exact gL_someI _
  · refine gL_gr (by decide) ok_11_14 (by assumption) (by assumption) (fun _ _ => ?_)
    refine gL_ck (by assumption) ?_
    refine gL_b1I (g_m_X8_at (by assumption) (by assumption)) (fun _ => ?_)
    exact gL_someI _
theorem g_m_X11_as {Kd : Nat → Nat} {np : Nat}  {r0 : Nat} {a1 : Int32} {a2 : Int32} {S : fm_M}  (hr0 : gR Kd np r0) (hS : cl Kd np S) : gL pT (m_X11_as (kC Kd) lC r0 a1 a2 S) (m_X11_as (kF Kd np) lC r0 a1 a2 S) := by
  unfold m_X11_as
  refine gL_ck (by assumption) ?_
  refine gL_b1I (g_m_X11_isPane (by assumption) (by assumption)) (fun _ => ?_)
  refine gL_ite (fun _ => ?_) (fun _ => ?_)
  · exact gL_someI _
  · refine gL_b1I (g_m_X11_isWithin (by assumption)) (fun _ => ?_)
    refine gL_ite (fun _ => ?_) (fun _ => ?_)
    · exact gL_someI _
    · refine gL_gr (by decide) ok_11_0 (by assumption) (by assumption) (fun _ _ => ?_)
      refine gL_lr (by decide) (by assumption) (by assumption) (fun _ _ => ?_)
      refine gL_b1I (g_m_X11_isTakenFor (by assumption) (by assumption)) (fun _ => ?_)
      refine gL_ite (fun _ => ?_) (fun _ => ?_)
      · exact gL_someI _
      · refine gL_gr (by decide) ok_11_0 (by assumption) (by assumption) (fun _ _ => ?_)
        refine gL_lr (by decide) (by assumption) (by assumption) (fun _ _ => ?_)
        refine gL_gi (by assumption) (fun _ => ?_)
        exact gL_someI _
theorem g_k_X11_image_2 {Kd : Nat → Nat} {np : Nat} {go2 go21 : Nat → Int32 → fm_M → Option (Int32 × fm_M)} {r0 : Nat} {a1 : Int32} {S : fm_M} (hgo2 : ∀ (x0 : Nat) (x1 : Int32) (x2 : fm_M), gR Kd np x0 → cl Kd np x2 → gL (pIS Kd np) (go2 x0 x1 x2) (go21 x0 x1 x2)) (hr0 : gR Kd np r0) (hS : cl Kd np S) : gL (pIS Kd np) (k_X11_image_2 (kC Kd) lC go2 r0 a1 S) (k_X11_image_2 (kF Kd np) lC go21 r0 a1 S) := by
  unfold k_X11_image_2
  refine gL_gi (by assumption) (fun _ => ?_)
  refine gL_ite (fun _ => ?_) (fun _ => ?_)
  · refine gL_gr (by decide) ok_11_6 (by assumption) (by assumption) (fun _ _ => ?_)
    refine gL_ck (by assumption) ?_
    refine gL_b1S (g_m_X8_keep (by assumption) (by assumption)) (fun _ _ => ?_)
    refine gL_gr (by decide) ok_11_11 (by assumption) (by assumption) (fun _ _ => ?_)
    refine gL_ck (by assumption) ?_
    refine gL_b1S (g_m_X8_keep (by assumption) (by assumption)) (fun _ _ => ?_)
    refine gL_gr (by decide) ok_11_12 (by assumption) (by assumption) (fun _ _ => ?_)
    refine gL_ck (by assumption) ?_
    refine gL_b1S (g_m_X8_keep (by assumption) (by assumption)) (fun _ _ => ?_)
    refine gL_gr (by decide) ok_11_13 (by assumption) (by assumption) (fun _ _ => ?_)
    refine gL_ck (by assumption) ?_
    refine gL_b1S (g_m_X8_keep (by assumption) (by assumption)) (fun _ _ => ?_)
    refine gL_gr (by decide) ok_11_15 (by assumption) (by assumption) (fun _ _ => ?_)
    refine gL_ck (by assumption) ?_
    refine gL_biI (g_m_X8_clear (by assumption) (by assumption)) (fun _ _ _ => ?_)
    refine gL_gr (by decide) ok_11_15 (by assumption) (by assumption) (fun _ _ => ?_)
    refine gL_gi (by assumption) (fun _ => ?_)
    refine gL_gi (by assumption) (fun _ => ?_)
    refine gL_ck (by assumption) ?_
    refine gL_biI (g_m_X8_add (by assumption) (by assumption)) (fun _ _ _ => ?_)
    refine gL_gr (by decide) ok_11_15 (by assumption) (by assumption) (fun _ _ => ?_)
    refine gL_gi (by assumption) (fun _ => ?_)
    refine gL_gi (by assumption) (fun _ => ?_)
    refine gL_gi (by assumption) (fun _ => ?_)
    refine gL_ck (by assumption) ?_
    refine gL_biI (g_m_X8_add (by assumption) (by assumption)) (fun _ _ _ => ?_)
    refine gL_gi (by assumption) (fun _ => ?_)
    exact gL_someIS (by assumption)
  · refine gL_gr (by decide) ok_11_0 (by assumption) (by assumption) (fun _ _ => ?_)
    refine gL_lr (by decide) (by assumption) (by assumption) (fun _ _ => ?_)
    refine gL_b1S (g_v_keep (by assumption) (by assumption)) (fun _ _ => ?_)
    refine gL_let ?_
    exact hgo2 _ _ _ (by assumption) (by assumption)
theorem g_b_X11_image_2 {Kd : Nat → Nat} {np : Nat}     : ∀ (n : Nat) {y0 : Nat} {y1 : Int32} {y2 : fm_M}, gR Kd np y0 → cl Kd np y2 → gL (pIS Kd np) (b_X11_image_2 (kC Kd) lC  n y0 y1 y2) (b_X11_image_2 (kF Kd np) lC  n y0 y1 y2) := by
  intro n
  induction n with
  | zero =>
    intro y0 y1 y2 hy0 hy2
    exact gL_none _
  | succ n ih =>
    intro y0 y1 y2 hy0 hy2
    exact g_k_X11_image_2 (Kd := Kd) (go2 := b_X11_image_2 (kC Kd) lC  n) (go21 := b_X11_image_2 (kF Kd np) lC  n) (fun _ _ _ k0 k1 => ih k0 k1) hy0 hy2
theorem g_m_X11_image {Kd : Nat → Nat} {np : Nat}  {r0 : Nat} {S : fm_M}  (hr0 : gR Kd np r0) (hS : cl Kd np S) : gL (pIS Kd np) (m_X11_image (kC Kd) lC r0 S) (m_X11_image (kF Kd np) lC r0 S) := by
  unfold m_X11_image
  refine gL_let ?_
  exact g_b_X11_image_2 _ (by assumption) (by assumption)
theorem g_k_X11_undo_80 {Kd : Nat → Nat} {np : Nat} {go80 go801 : Nat → Int32 → fm_M → Option (Int32 × fm_M)} {r0 : Nat} {a1 : Int32} {S : fm_M} (hgo80 : ∀ (x0 : Nat) (x1 : Int32) (x2 : fm_M), gR Kd np x0 → cl Kd np x2 → gL (pIS Kd np) (go80 x0 x1 x2) (go801 x0 x1 x2)) (hr0 : gR Kd np r0) (hS : cl Kd np S) : gL (pIS Kd np) (k_X11_undo_80 (kC Kd) lC go80 r0 a1 S) (k_X11_undo_80 (kF Kd np) lC go801 r0 a1 S) := by
  unfold k_X11_undo_80
  refine gL_gi (by assumption) (fun _ => ?_)
  refine gL_ite (fun _ => ?_) (fun _ => ?_)
  · refine gL_gr (by decide) ok_11_6 (by assumption) (by assumption) (fun _ _ => ?_)
    refine gL_ck (by assumption) ?_
    refine gL_b1S (g_m_X8_takeBack (by assumption) (by assumption)) (fun _ _ => ?_)
    refine gL_gr (by decide) ok_11_11 (by assumption) (by assumption) (fun _ _ => ?_)
    refine gL_ck (by assumption) ?_
    refine gL_b1S (g_m_X8_takeBack (by assumption) (by assumption)) (fun _ _ => ?_)
    refine gL_gr (by decide) ok_11_12 (by assumption) (by assumption) (fun _ _ => ?_)
    refine gL_ck (by assumption) ?_
    refine gL_b1S (g_m_X8_takeBack (by assumption) (by assumption)) (fun _ _ => ?_)
    refine gL_gr (by decide) ok_11_13 (by assumption) (by assumption) (fun _ _ => ?_)
    refine gL_ck (by assumption) ?_
    refine gL_b1S (g_m_X8_takeBack (by assumption) (by assumption)) (fun _ _ => ?_)
    refine gL_gi (by assumption) (fun _ => ?_)
    exact gL_someIS (by assumption)
  · refine gL_gr (by decide) ok_11_0 (by assumption) (by assumption) (fun _ _ => ?_)
    refine gL_lr (by decide) (by assumption) (by assumption) (fun _ _ => ?_)
    refine gL_b1S (g_v_takeBack (by assumption) (by assumption)) (fun _ _ => ?_)
    refine gL_let ?_
    exact hgo80 _ _ _ (by assumption) (by assumption)
theorem g_b_X11_undo_80 {Kd : Nat → Nat} {np : Nat}     : ∀ (n : Nat) {y0 : Nat} {y1 : Int32} {y2 : fm_M}, gR Kd np y0 → cl Kd np y2 → gL (pIS Kd np) (b_X11_undo_80 (kC Kd) lC  n y0 y1 y2) (b_X11_undo_80 (kF Kd np) lC  n y0 y1 y2) := by
  intro n
  induction n with
  | zero =>
    intro y0 y1 y2 hy0 hy2
    exact gL_none _
  | succ n ih =>
    intro y0 y1 y2 hy0 hy2
    exact g_k_X11_undo_80 (Kd := Kd) (go80 := b_X11_undo_80 (kC Kd) lC  n) (go801 := b_X11_undo_80 (kF Kd np) lC  n) (fun _ _ _ k0 k1 => ih k0 k1) hy0 hy2
theorem g_m_X11_undo {Kd : Nat → Nat} {np : Nat}  {r0 : Nat} {S : fm_M}  (hr0 : gR Kd np r0) (hS : cl Kd np S) : gL (pIS Kd np) (m_X11_undo (kC Kd) lC r0 S) (m_X11_undo (kF Kd np) lC r0 S) := by
  unfold m_X11_undo
  refine gL_gr (by decide) ok_11_15 (by assumption) (by assumption) (fun _ _ => ?_)
  refine gL_ck (by assumption) ?_
  refine gL_b1I (g_m_X8_size (by assumption) (by assumption)) (fun _ => ?_)
  refine gL_ite (fun _ => ?_) (fun _ => ?_)
  · exact gL_someIS (by assumption)
  · refine gL_gr (by decide) ok_11_15 (by assumption) (by assumption) (fun _ _ => ?_)
    refine gL_ck (by assumption) ?_
    refine gL_b1I (g_m_X8_at (by assumption) (by assumption)) (fun _ => ?_)
    refine gL_pi (by assumption) (by assumption) (fun _ _ => ?_)
    refine gL_gr (by decide) ok_11_15 (by assumption) (by assumption) (fun _ _ => ?_)
    refine gL_ck (by assumption) ?_
    refine gL_b1I (g_m_X8_at (by assumption) (by assumption)) (fun _ => ?_)
    refine gL_pi (by assumption) (by assumption) (fun _ _ => ?_)
    refine gL_gr (by decide) ok_11_15 (by assumption) (by assumption) (fun _ _ => ?_)
    refine gL_ck (by assumption) ?_
    refine gL_b1I (g_m_X8_at (by assumption) (by assumption)) (fun _ => ?_)
    refine gL_pi (by assumption) (by assumption) (fun _ _ => ?_)
    refine gL_gr (by decide) ok_11_15 (by assumption) (by assumption) (fun _ _ => ?_)
    refine gL_ck (by assumption) ?_
    refine gL_b1I (g_m_X8_at (by assumption) (by assumption)) (fun _ => ?_)
    refine gL_pi (by assumption) (by assumption) (fun _ _ => ?_)
    refine gL_gr (by decide) ok_11_15 (by assumption) (by assumption) (fun _ _ => ?_)
    refine gL_ck (by assumption) ?_
    refine gL_b1I (g_m_X8_at (by assumption) (by assumption)) (fun _ => ?_)
    refine gL_pi (by assumption) (by assumption) (fun _ _ => ?_)
    refine gL_let ?_
    exact g_b_X11_undo_80 _ (by assumption) (by assumption)
theorem g_m_X11_count {Kd : Nat → Nat} {np : Nat}  {r0 : Nat} {a1 : Int32} {S : fm_M}  (hr0 : gR Kd np r0) (hS : cl Kd np S) : gL pT (m_X11_count (kC Kd) lC r0 a1 S) (m_X11_count (kF Kd np) lC r0 a1 S) := by
  unfold m_X11_count
  refine gL_ite (fun _ => ?_) (fun _ => ?_)
  · refine gL_gi (by assumption) (fun _ => ?_)
    exact gL_someI _
  · refine gL_ite (fun _ => ?_) (fun _ => ?_)
    · refine gL_gi (by assumption) (fun _ => ?_)
      exact gL_someI _
    · refine gL_ite (fun _ => ?_) (fun _ => ?_)
      · refine gL_gr (by decide) ok_11_11 (by assumption) (by assumption) (fun _ _ => ?_)
        refine gL_ck (by assumption) ?_
        refine gL_b1I (g_m_X8_size (by assumption) (by assumption)) (fun _ => ?_)
        exact gL_someI _
      · refine gL_ite (fun _ => ?_) (fun _ => ?_)
        · refine gL_gr (by decide) ok_11_12 (by assumption) (by assumption) (fun _ _ => ?_)
          refine gL_ck (by assumption) ?_
          refine gL_b1I (g_m_X8_size (by assumption) (by assumption)) (fun _ => ?_)
          exact gL_someI _
        · refine gL_ite (fun _ => ?_) (fun _ => ?_)
          · refine gL_gr (by decide) ok_11_13 (by assumption) (by assumption) (fun _ _ => ?_)
            refine gL_ck (by assumption) ?_
            refine gL_b1I (g_m_X8_size (by assumption) (by assumption)) (fun _ => ?_)
            exact gL_someI _
          · refine gL_ite (fun _ => ?_) (fun _ => ?_)
            · refine gL_gr (by decide) ok_11_6 (by assumption) (by assumption) (fun _ _ => ?_)
              refine gL_ck (by assumption) ?_
              refine gL_b1I (g_m_X8_size (by assumption) (by assumption)) (fun _ => ?_)
              exact gL_someI _
            · refine gL_ite (fun _ => ?_) (fun _ => ?_)
              · refine gL_gr (by decide) ok_11_14 (by assumption) (by assumption) (fun _ _ => ?_)
                refine gL_gi (by assumption) (fun _ => ?_)
                exact gL_someI _
              · exact gL_someI _
