/-! the class's models and what can be reached (wip/whole/tool/reach.py prints this) -/
theorem g_m_X11_isPane {Kd : Nat → Nat} {np : Nat}  {r0 : Nat} {a1 : Int32} {S : fm_M}  (hr0 : gR Kd np r0) (hS : cl Kd np S) : gL pT (m_X11_isPane (kC Kd) lC r0 a1 S) (m_X11_isPane (kF Kd np) lC r0 a1 S) := by
  unfold m_X11_isPane
  refine gL_gi (by assumption) (fun _ => ?_)
  refine gL_b1I (g_m_X11_isWithin (by assumption)) (fun _ => ?_)
  exact gL_z (gL_someI _)
theorem g_m_X11_heldTown {Kd : Nat → Nat} {np : Nat}  {r0 : Nat} {S : fm_M}  (hr0 : gR Kd np r0) (hS : cl Kd np S) : gL (pN Kd np) (m_X11_heldTown (kC Kd) lC r0 S) (m_X11_heldTown (kF Kd np) lC r0 S) := by
  unfold m_X11_heldTown
  refine gL_gi (by assumption) (fun _ => ?_)
  refine gL_b1I (g_m_X11_isWithin (by assumption)) (fun _ => ?_)
  refine gL_ite (fun _ => ?_) (fun _ => ?_)
  · refine gL_gr (by decide) ok_11_3 (by assumption) (by assumption) (fun _ _ => ?_)
    exact gL_someN (by first | assumption | exact Or.inl (by decide))
  · refine gL_gr (by decide) ok_11_4 (by assumption) (by assumption) (fun _ _ => ?_)
    refine gL_gi (by assumption) (fun _ => ?_)
    refine gL_lr (by decide) (by assumption) (by assumption) (fun _ _ => ?_)
    exact gL_someN (by first | assumption | exact Or.inl (by decide))
theorem g_m_X11_isTakenFor {Kd : Nat → Nat} {np : Nat}  {r0 : Nat} {a1 : Int32} {S : fm_M}  (hr0 : gR Kd np r0) (hS : cl Kd np S) : gL pT (m_X11_isTakenFor (kC Kd) lC r0 a1 S) (m_X11_isTakenFor (kF Kd np) lC r0 a1 S) := by
  unfold m_X11_isTakenFor
  refine gL_ite (fun _ => ?_) (fun _ => ?_)
  · exact gL_z (gL_someI _)
  · refine gL_ite (fun _ => ?_) (fun _ => ?_)
    · refine gL_ins (by assumption) (fun _ => ?_)
      exact gL_z (gL_someI _)
    · refine gL_ite (fun _ => ?_) (fun _ => ?_)
      · refine gL_ins (by assumption) (fun _ => ?_)
        exact gL_z (gL_someI _)
      · refine gL_ite (fun _ => ?_) (fun _ => ?_)
        · refine gL_ins (by assumption) (fun _ => ?_)
          exact gL_z (gL_someI _)
        · refine gL_ite (fun _ => ?_) (fun _ => ?_)
          · refine gL_ins (by assumption) (fun _ => ?_)
            exact gL_z (gL_someI _)
          · refine gL_ite (fun _ => ?_) (fun _ => ?_)
            · refine gL_ins (by assumption) (fun _ => ?_)
              exact gL_z (gL_someI _)
            · refine gL_ins (by assumption) (fun _ => ?_)
              exact gL_z (gL_someI _)
theorem g_k_X11_shutPanes_4 {Kd : Nat → Nat} {np : Nat} {go4 go41 : Nat → Int32 → Int32 → Option Int32} {S : fm_M} {r0 : Nat} {a1 : Int32} {a2 : Int32} (hgo4 : ∀ (x0 : Nat) (x1 : Int32) (x2 : Int32), gR Kd np x0 → gL pT (go4 x0 x1 x2) (go41 x0 x1 x2)) (hS : cl Kd np S) (hr0 : gR Kd np r0) : gL pT (k_X11_shutPanes_4 (kC Kd) lC S go4 r0 a1 a2) (k_X11_shutPanes_4 (kF Kd np) lC S go41 r0 a1 a2) := by
  unfold k_X11_shutPanes_4
  refine gL_gi (by assumption) (fun _ => ?_)
  refine gL_ite (fun _ => ?_) (fun _ => ?_)
  · exact gL_someI _
  · refine gL_gr (by decide) ok_11_0 (by assumption) (by assumption) (fun _ _ => ?_)
    refine gL_lr (by decide) (by assumption) (by assumption) (fun _ _ => ?_)
    refine gL_gi (by assumption) (fun _ => ?_)
    refine gL_ite (fun _ => ?_) (fun _ => ?_)
    · refine gL_let ?_
      exact hgo4 _ _ _ (by assumption)
    · refine gL_let ?_
      refine gL_let ?_
      exact hgo4 _ _ _ (by assumption)
theorem g_b_X11_shutPanes_4 {Kd : Nat → Nat} {np : Nat}  {S : fm_M}  (hS : cl Kd np S) : ∀ (n : Nat) {y0 : Nat} {y1 : Int32} {y2 : Int32}, gR Kd np y0 → gL pT (b_X11_shutPanes_4 (kC Kd) lC S n y0 y1 y2) (b_X11_shutPanes_4 (kF Kd np) lC S n y0 y1 y2) := by
  intro n
  induction n with
  | zero =>
    intro y0 y1 y2 hy0
    exact gL_none _
  | succ n ih =>
    intro y0 y1 y2 hy0
    exact g_k_X11_shutPanes_4 (Kd := Kd) (go4 := b_X11_shutPanes_4 (kC Kd) lC S n) (go41 := b_X11_shutPanes_4 (kF Kd np) lC S n) (fun _ _ _ k0 => ih k0) hS hy0
theorem g_m_X11_shutPanes {Kd : Nat → Nat} {np : Nat}  {r0 : Nat} {S : fm_M}  (hr0 : gR Kd np r0) (hS : cl Kd np S) : gL pT (m_X11_shutPanes (kC Kd) lC r0 S) (m_X11_shutPanes (kF Kd np) lC r0 S) := by
  unfold m_X11_shutPanes
  refine gL_let ?_
  refine gL_let ?_
  exact g_b_X11_shutPanes_4 (by assumption) _ (by assumption)
theorem g_m_X11_courseFromNow {Kd : Nat → Nat} {np : Nat}  {r0 : Nat} {a1 : Int32} {a2 : Int32} {S : fm_M}  (hr0 : gR Kd np r0) (hS : cl Kd np S) : gL (pNS Kd np) (m_X11_courseFromNow (kC Kd) lC r0 a1 a2 S) (m_X11_courseFromNow (kF Kd np) lC r0 a1 a2 S) := by
  unfold m_X11_courseFromNow
  refine gL_gr (by decide) ok_11_1 (by assumption) (by assumption) (fun _ _ => ?_)
  refine gL_lr (by decide) (by assumption) (by assumption) (fun _ _ => ?_)
  refine gL_ck (by assumption) ?_
  refine gL_b1N (g_m_X11_heldTown (by assumption) (by assumption)) (fun _ _ => ?_)
  refine gL_gi (by assumption) (fun _ => ?_)
  refine gL_ck (by assumption) ?_
  refine gL_b1S (g_m_X1_start (by assumption) (by assumption) (by assumption)) (fun _ _ => ?_)
  exact gL_someNS (by assumption) (by assumption)
theorem g_m_X11_iceBehind {Kd : Nat → Nat} {np : Nat}  {r0 : Nat} {a1 : Int32} {a2 : Int32} {S : fm_M}  (hr0 : gR Kd np r0) (hS : cl Kd np S) : gL (pIS Kd np) (m_X11_iceBehind (kC Kd) lC r0 a1 a2 S) (m_X11_iceBehind (kF Kd np) lC r0 a1 a2 S) := by
  unfold m_X11_iceBehind
  refine gL_gi (by assumption) (fun _ => ?_)
  refine gL_ck (by assumption) ?_
  refine gL_biN (g_m_X11_courseFromNow (by assumption) (by assumption)) (fun _ _ _ _ => ?_)
  refine gL_ck (by assumption) ?_
  refine gL_b1S (g_m_X1_goHours (by assumption) (by assumption)) (fun _ _ => ?_)
  refine gL_gi (by assumption) (fun _ => ?_)
  exact gL_someIS (by assumption)
theorem g_k_X11_offersBehind_4 {Kd : Nat → Nat} {np : Nat} {go4 go41 : Nat → Int32 → Int32 → Int32 → fm_M → Option (Int32 × fm_M)} {r0 : Nat} {a1 : Int32} {a2 : Int32} {a3 : Int32} {S : fm_M} (hgo4 : ∀ (x0 : Nat) (x1 : Int32) (x2 : Int32) (x3 : Int32) (x4 : fm_M), gR Kd np x0 → cl Kd np x4 → gL (pIS Kd np) (go4 x0 x1 x2 x3 x4) (go41 x0 x1 x2 x3 x4)) (hr0 : gR Kd np r0) (hS : cl Kd np S) : gL (pIS Kd np) (k_X11_offersBehind_4 (kC Kd) lC go4 r0 a1 a2 a3 S) (k_X11_offersBehind_4 (kF Kd np) lC go41 r0 a1 a2 a3 S) := by
  unfold k_X11_offersBehind_4
  refine gL_gi (by assumption) (fun _ => ?_)
  refine gL_ite (fun _ => ?_) (fun _ => ?_)
  · exact gL_someIS (by assumption)
  · refine gL_gi (by assumption) (fun _ => ?_)
    refine gL_ck (by assumption) ?_
    refine gL_biN (g_m_X11_courseFromNow (by assumption) (by assumption)) (fun _ _ _ _ => ?_)
    refine gL_ck (by assumption) ?_
    refine gL_b1S (g_m_X1_goHours (by assumption) (by assumption)) (fun _ _ => ?_)
    refine gL_ck (by assumption) ?_
    refine gL_b1I (g_m_X1_offer (by assumption) (by assumption)) (fun _ => ?_)
    refine gL_let ?_
    refine gL_let ?_
    exact hgo4 _ _ _ _ _ (by assumption) (by assumption)
theorem g_b_X11_offersBehind_4 {Kd : Nat → Nat} {np : Nat}     : ∀ (n : Nat) {y0 : Nat} {y1 : Int32} {y2 : Int32} {y3 : Int32} {y4 : fm_M}, gR Kd np y0 → cl Kd np y4 → gL (pIS Kd np) (b_X11_offersBehind_4 (kC Kd) lC  n y0 y1 y2 y3 y4) (b_X11_offersBehind_4 (kF Kd np) lC  n y0 y1 y2 y3 y4) := by
  intro n
  induction n with
  | zero =>
    intro y0 y1 y2 y3 y4 hy0 hy4
    exact gL_none _
  | succ n ih =>
    intro y0 y1 y2 y3 y4 hy0 hy4
    exact g_k_X11_offersBehind_4 (Kd := Kd) (go4 := b_X11_offersBehind_4 (kC Kd) lC  n) (go41 := b_X11_offersBehind_4 (kF Kd np) lC  n) (fun _ _ _ _ _ k0 k1 => ih k0 k1) hy0 hy4
theorem g_m_X11_offersBehind {Kd : Nat → Nat} {np : Nat}  {r0 : Nat} {a1 : Int32} {S : fm_M}  (hr0 : gR Kd np r0) (hS : cl Kd np S) : gL (pIS Kd np) (m_X11_offersBehind (kC Kd) lC r0 a1 S) (m_X11_offersBehind (kF Kd np) lC r0 a1 S) := by
  unfold m_X11_offersBehind
  refine gL_let ?_
  refine gL_let ?_
  exact g_b_X11_offersBehind_4 _ (by assumption) (by assumption)
theorem g_k_X11_isSeenSo_3 {Kd : Nat → Nat} {np : Nat} {go3 go31 : Nat → Int32 → Int32 → Int32 → Int32 → Int32 → fm_M → Option (Int32 × fm_M)} {r0 : Nat} {a1 : Int32} {a2 : Int32} {a3 : Int32} {a4 : Int32} {a5 : Int32} {S : fm_M} (hgo3 : ∀ (x0 : Nat) (x1 : Int32) (x2 : Int32) (x3 : Int32) (x4 : Int32) (x5 : Int32) (x6 : fm_M), gR Kd np x0 → cl Kd np x6 → gL (pIS Kd np) (go3 x0 x1 x2 x3 x4 x5 x6) (go31 x0 x1 x2 x3 x4 x5 x6)) (hr0 : gR Kd np r0) (hS : cl Kd np S) : gL (pIS Kd np) (k_X11_isSeenSo_3 (kC Kd) lC go3 r0 a1 a2 a3 a4 a5 S) (k_X11_isSeenSo_3 (kF Kd np) lC go31 r0 a1 a2 a3 a4 a5 S) := by
  unfold k_X11_isSeenSo_3
  refine gL_gr (by decide) ok_11_11 (by assumption) (by assumption) (fun _ _ => ?_)
  refine gL_ck (by assumption) ?_
  refine gL_b1I (g_m_X8_size (by assumption) (by assumption)) (fun _ => ?_)
  refine gL_ite (fun _ => ?_) (fun _ => ?_)
  · exact gL_z (gL_someIS (by assumption))
  · refine gL_gr (by decide) ok_11_11 (by assumption) (by assumption) (fun _ _ => ?_)
    refine gL_ck (by assumption) ?_
    refine gL_b1I (g_m_X8_at (by assumption) (by assumption)) (fun _ => ?_)
    refine gL_ck (by assumption) ?_
    refine gL_b1I (g_m_X11_isPane (by assumption) (by assumption)) (fun _ => ?_)
    refine gL_ite (fun _ => ?_) (fun _ => ?_)
    · exact gL_z (gL_someIS (by assumption))
    · refine gL_ck (by assumption) ?_
      refine gL_biN (g_m_X11_courseFromNow (by assumption) (by assumption)) (fun _ _ _ _ => ?_)
      refine gL_ite (fun _ => ?_) (fun _ => ?_)
      · refine gL_pi (by assumption) (by assumption) (fun _ _ => ?_)
        refine gL_pi (by assumption) (by assumption) (fun _ _ => ?_)
        refine gL_gr (by decide) ok_11_11 (by assumption) (by assumption) (fun _ _ => ?_)
        refine gL_ck (by assumption) ?_
        refine gL_b1I (g_m_X8_at (by assumption) (by assumption)) (fun _ => ?_)
        refine gL_ck (by assumption) ?_
        refine gL_b1S (g_m_X1_goHours (by assumption) (by assumption)) (fun _ _ => ?_)
        refine gL_gi (by assumption) (fun _ => ?_)
        refine gL_gr (by decide) ok_11_11 (by assumption) (by assumption) (fun _ _ => ?_)
        refine gL_ck (by assumption) ?_
        refine gL_b1I (g_m_X8_at (by assumption) (by assumption)) (fun _ => ?_)
        refine gL_ite (fun _ => ?_) (fun _ => ?_)
        · refine gL_let ?_
          exact hgo3 _ _ _ _ _ _ _ (by assumption) (by assumption)
        · exact gL_z (gL_someIS (by assumption))
      · refine gL_gr (by decide) ok_11_11 (by assumption) (by assumption) (fun _ _ => ?_)
        refine gL_ck (by assumption) ?_
        refine gL_b1I (g_m_X8_at (by assumption) (by assumption)) (fun _ => ?_)
        refine gL_ck (by assumption) ?_
        refine gL_b1S (g_m_X1_goHours (by assumption) (by assumption)) (fun _ _ => ?_)
        refine gL_gi (by assumption) (fun _ => ?_)
        refine gL_gr (by decide) ok_11_11 (by assumption) (by assumption) (fun _ _ => ?_)
        refine gL_ck (by assumption) ?_
        refine gL_b1I (g_m_X8_at (by assumption) (by assumption)) (fun _ => ?_)
        refine gL_ite (fun _ => ?_) (fun _ => ?_)
        · refine gL_let ?_
          exact hgo3 _ _ _ _ _ _ _ (by assumption) (by assumption)
        · exact gL_z (gL_someIS (by assumption))
theorem g_b_X11_isSeenSo_3 {Kd : Nat → Nat} {np : Nat}     : ∀ (n : Nat) {y0 : Nat} {y1 : Int32} {y2 : Int32} {y3 : Int32} {y4 : Int32} {y5 : Int32} {y6 : fm_M}, gR Kd np y0 → cl Kd np y6 → gL (pIS Kd np) (b_X11_isSeenSo_3 (kC Kd) lC  n y0 y1 y2 y3 y4 y5 y6) (b_X11_isSeenSo_3 (kF Kd np) lC  n y0 y1 y2 y3 y4 y5 y6) := by
  intro n
  induction n with
  | zero =>
    intro y0 y1 y2 y3 y4 y5 y6 hy0 hy6
    exact gL_none _
  | succ n ih =>
    intro y0 y1 y2 y3 y4 y5 y6 hy0 hy6
    exact g_k_X11_isSeenSo_3 (Kd := Kd) (go3 := b_X11_isSeenSo_3 (kC Kd) lC  n) (go31 := b_X11_isSeenSo_3 (kF Kd np) lC  n) (fun _ _ _ _ _ _ _ k0 k1 => ih k0 k1) hy0 hy6
theorem g_m_X11_isSeenSo {Kd : Nat → Nat} {np : Nat}  {r0 : Nat} {a1 : Int32} {a2 : Int32} {a3 : Int32} {a4 : Int32} {S : fm_M}  (hr0 : gR Kd np r0) (hS : cl Kd np S) : gL (pIS Kd np) (m_X11_isSeenSo (kC Kd) lC r0 a1 a2 a3 a4 S) (m_X11_isSeenSo (kF Kd np) lC r0 a1 a2 a3 a4 S) := by
  unfold m_X11_isSeenSo
  refine gL_let ?_
  exact g_b_X11_isSeenSo_3 _ (by assumption) (by assumption)
theorem g_k_X11_fillPays_2 {Kd : Nat → Nat} {np : Nat} {go2 go21 : Nat → Int32 → Int32 → fm_M → Option fm_M} {go12 go121 : Nat → Int32 → Int32 → Int32 → fm_M → Option fm_M} {r0 : Nat} {a1 : Int32} {a2 : Int32} {S : fm_M} (hgo2 : ∀ (x0 : Nat) (x1 : Int32) (x2 : Int32) (x3 : fm_M), gR Kd np x0 → cl Kd np x3 → gL (pS Kd np) (go2 x0 x1 x2 x3) (go21 x0 x1 x2 x3)) (hgo12 : ∀ (x0 : Nat) (x1 : Int32) (x2 : Int32) (x3 : Int32) (x4 : fm_M), gR Kd np x0 → cl Kd np x4 → gL (pS Kd np) (go12 x0 x1 x2 x3 x4) (go121 x0 x1 x2 x3 x4)) (hr0 : gR Kd np r0) (hS : cl Kd np S) : gL (pS Kd np) (k_X11_fillPays_2 (kC Kd) lC go2 go12 r0 a1 a2 S) (k_X11_fillPays_2 (kF Kd np) lC go21 go121 r0 a1 a2 S) := by
  unfold k_X11_fillPays_2
  refine gL_gi (by assumption) (fun _ => ?_)
  refine gL_ite (fun _ => ?_) (fun _ => ?_)
  · exact gL_someS (by assumption)
  · refine gL_let ?_
    exact hgo12 _ _ _ _ _ (by assumption) (by assumption)
theorem g_k_X11_fillPays_12 {Kd : Nat → Nat} {np : Nat} {go2 go21 : Nat → Int32 → Int32 → fm_M → Option fm_M} {go12 go121 : Nat → Int32 → Int32 → Int32 → fm_M → Option fm_M} {r0 : Nat} {a1 : Int32} {a2 : Int32} {a3 : Int32} {S : fm_M} (hgo2 : ∀ (x0 : Nat) (x1 : Int32) (x2 : Int32) (x3 : fm_M), gR Kd np x0 → cl Kd np x3 → gL (pS Kd np) (go2 x0 x1 x2 x3) (go21 x0 x1 x2 x3)) (hgo12 : ∀ (x0 : Nat) (x1 : Int32) (x2 : Int32) (x3 : Int32) (x4 : fm_M), gR Kd np x0 → cl Kd np x4 → gL (pS Kd np) (go12 x0 x1 x2 x3 x4) (go121 x0 x1 x2 x3 x4)) (hr0 : gR Kd np r0) (hS : cl Kd np S) : gL (pS Kd np) (k_X11_fillPays_12 (kC Kd) lC go2 go12 r0 a1 a2 a3 S) (k_X11_fillPays_12 (kF Kd np) lC go21 go121 r0 a1 a2 a3 S) := by
  unfold k_X11_fillPays_12
  refine gL_ite (fun _ => ?_) (fun _ => ?_)
  · refine gL_let ?_
    exact hgo2 _ _ _ _ (by assumption) (by assumption)
  · refine gL_gi (by assumption) (fun _ => ?_)
    refine gL_ck (by assumption) ?_
    refine gL_biN (g_m_X11_courseFromNow (by assumption) (by assumption)) (fun _ _ _ _ => ?_)
    refine gL_gr (by decide) ok_11_16 (by assumption) (by assumption) (fun _ _ => ?_)
    refine gL_ck (by assumption) ?_
    refine gL_biI (g_m_X1_goBreathed (by assumption) (by assumption)) (fun _ _ _ => ?_)
    refine gL_st (by assumption) (by assumption) (fun _ _ => ?_)
    refine gL_let ?_
    exact hgo12 _ _ _ _ _ (by assumption) (by assumption)
theorem g_bs_X11_fillPays {Kd : Nat → Nat} {np : Nat}   : ∀ n : Nat, (∀ {y0 : Nat} {y1 : Int32} {y2 : Int32} {y3 : fm_M}, gR Kd np y0 → cl Kd np y3 → gL (pS Kd np) (b_X11_fillPays_2 (kC Kd) lC  n y0 y1 y2 y3) (b_X11_fillPays_2 (kF Kd np) lC  n y0 y1 y2 y3)) ∧ (∀ {y0 : Nat} {y1 : Int32} {y2 : Int32} {y3 : Int32} {y4 : fm_M}, gR Kd np y0 → cl Kd np y4 → gL (pS Kd np) (b_X11_fillPays_12 (kC Kd) lC  n y0 y1 y2 y3 y4) (b_X11_fillPays_12 (kF Kd np) lC  n y0 y1 y2 y3 y4)) := by
  intro n
  induction n with
  | zero => exact ⟨fun hy0 hy3 => gL_none _, fun hy0 hy4 => gL_none _⟩
  | succ n ih =>
    refine ⟨?_, ?_⟩
    · intro y0 y1 y2 y3 hy0 hy3
      exact g_k_X11_fillPays_2 (Kd := Kd) (go2 := b_X11_fillPays_2 (kC Kd) lC  n) (go21 := b_X11_fillPays_2 (kF Kd np) lC  n) (go12 := b_X11_fillPays_12 (kC Kd) lC  n) (go121 := b_X11_fillPays_12 (kF Kd np) lC  n) (fun _ _ _ _ k0 k1 => ih.1 k0 k1) (fun _ _ _ _ _ k0 k1 => ih.2 k0 k1) hy0 hy3
    · intro y0 y1 y2 y3 y4 hy0 hy4
      exact g_k_X11_fillPays_12 (Kd := Kd) (go2 := b_X11_fillPays_2 (kC Kd) lC  n) (go21 := b_X11_fillPays_2 (kF Kd np) lC  n) (go12 := b_X11_fillPays_12 (kC Kd) lC  n) (go121 := b_X11_fillPays_12 (kF Kd np) lC  n) (fun _ _ _ _ k0 k1 => ih.1 k0 k1) (fun _ _ _ _ _ k0 k1 => ih.2 k0 k1) hy0 hy4
theorem g_b_X11_fillPays_2 {Kd : Nat → Nat} {np : Nat}   (n : Nat) {y0 : Nat} {y1 : Int32} {y2 : Int32} {y3 : fm_M} (hy0 : gR Kd np y0) (hy3 : cl Kd np y3) : gL (pS Kd np) (b_X11_fillPays_2 (kC Kd) lC  n y0 y1 y2 y3) (b_X11_fillPays_2 (kF Kd np) lC  n y0 y1 y2 y3) := (g_bs_X11_fillPays  n).1 hy0 hy3
theorem g_b_X11_fillPays_12 {Kd : Nat → Nat} {np : Nat}   (n : Nat) {y0 : Nat} {y1 : Int32} {y2 : Int32} {y3 : Int32} {y4 : fm_M} (hy0 : gR Kd np y0) (hy4 : cl Kd np y4) : gL (pS Kd np) (b_X11_fillPays_12 (kC Kd) lC  n y0 y1 y2 y3 y4) (b_X11_fillPays_12 (kF Kd np) lC  n y0 y1 y2 y3 y4) := (g_bs_X11_fillPays  n).2 hy0 hy4
theorem g_m_X11_fillPays {Kd : Nat → Nat} {np : Nat}  {r0 : Nat} {a1 : Int32} {S : fm_M}  (hr0 : gR Kd np r0) (hS : cl Kd np S) : gL (pS Kd np) (m_X11_fillPays (kC Kd) lC r0 a1 S) (m_X11_fillPays (kF Kd np) lC r0 a1 S) := by
  unfold m_X11_fillPays
  refine gL_let ?_
  exact g_b_X11_fillPays_2 _ (by assumption) (by assumption)
theorem g_k_X11_rowsOfBreaths_4 {Kd : Nat → Nat} {np : Nat} {go4 go41 : Nat → Int32 → Int32 → Int32 → Option Int32} {S : fm_M} {r0 : Nat} {a1 : Int32} {a2 : Int32} {a3 : Int32} (hgo4 : ∀ (x0 : Nat) (x1 : Int32) (x2 : Int32) (x3 : Int32), gR Kd np x0 → gL pT (go4 x0 x1 x2 x3) (go41 x0 x1 x2 x3)) (hS : cl Kd np S) (hr0 : gR Kd np r0) : gL pT (k_X11_rowsOfBreaths_4 (kC Kd) lC S go4 r0 a1 a2 a3) (k_X11_rowsOfBreaths_4 (kF Kd np) lC S go41 r0 a1 a2 a3) := by
  unfold k_X11_rowsOfBreaths_4
  refine gL_ite (fun _ => ?_) (fun _ => ?_)
  · exact gL_someI _
  · refine gL_gi (by assumption) (fun _ => ?_)
    refine gL_let ?_
    refine gL_let ?_
    exact hgo4 _ _ _ _ (by assumption)
theorem g_b_X11_rowsOfBreaths_4 {Kd : Nat → Nat} {np : Nat}  {S : fm_M}  (hS : cl Kd np S) : ∀ (n : Nat) {y0 : Nat} {y1 : Int32} {y2 : Int32} {y3 : Int32}, gR Kd np y0 → gL pT (b_X11_rowsOfBreaths_4 (kC Kd) lC S n y0 y1 y2 y3) (b_X11_rowsOfBreaths_4 (kF Kd np) lC S n y0 y1 y2 y3) := by
  intro n
  induction n with
  | zero =>
    intro y0 y1 y2 y3 hy0
    exact gL_none _
  | succ n ih =>
    intro y0 y1 y2 y3 hy0
    exact g_k_X11_rowsOfBreaths_4 (Kd := Kd) (go4 := b_X11_rowsOfBreaths_4 (kC Kd) lC S n) (go41 := b_X11_rowsOfBreaths_4 (kF Kd np) lC S n) (fun _ _ _ _ k0 => ih k0) hS hy0
theorem g_m_X11_rowsOfBreaths {Kd : Nat → Nat} {np : Nat}  {r0 : Nat} {a1 : Int32} {S : fm_M}  (hr0 : gR Kd np r0) (hS : cl Kd np S) : gL pT (m_X11_rowsOfBreaths (kC Kd) lC r0 a1 S) (m_X11_rowsOfBreaths (kF Kd np) lC r0 a1 S) := by
  unfold m_X11_rowsOfBreaths
  refine gL_let ?_
  refine gL_let ?_
  exact g_b_X11_rowsOfBreaths_4 (by assumption) _ (by assumption)
theorem g_k_X11_breathedAt_8 {Kd : Nat → Nat} {np : Nat} {go8 go81 : Nat → Int32 → Int32 → Int32 → Option Int32} {S : fm_M} {r0 : Nat} {a2 : Int32} {a4 : Int32} {a5 : Int32} (hgo8 : ∀ (x0 : Nat) (x1 : Int32) (x2 : Int32) (x3 : Int32), gR Kd np x0 → gL pT (go8 x0 x1 x2 x3) (go81 x0 x1 x2 x3)) (hS : cl Kd np S) (hr0 : gR Kd np r0) : gL pT (k_X11_breathedAt_8 (kC Kd) lC S go8 r0 a2 a4 a5) (k_X11_breathedAt_8 (kF Kd np) lC S go81 r0 a2 a4 a5) := by
  unfold k_X11_breathedAt_8
  refine gL_ite (fun _ => ?_) (fun _ => ?_)
  · refine gL_gi (by assumption) (fun _ => ?_)
    refine gL_ite (fun _ => gL_none _) (fun _ => ?_)
    exact gL_someI _
  · refine gL_gi (by assumption) (fun _ => ?_)
    refine gL_ite (fun _ => gL_none _) (fun _ => ?_)
    refine gL_let ?_
    refine gL_let ?_
    exact hgo8 _ _ _ _ (by assumption)
theorem g_b_X11_breathedAt_8 {Kd : Nat → Nat} {np : Nat}  {S : fm_M}  (hS : cl Kd np S) : ∀ (n : Nat) {y0 : Nat} {y1 : Int32} {y2 : Int32} {y3 : Int32}, gR Kd np y0 → gL pT (b_X11_breathedAt_8 (kC Kd) lC S n y0 y1 y2 y3) (b_X11_breathedAt_8 (kF Kd np) lC S n y0 y1 y2 y3) := by
  intro n
  induction n with
  | zero =>
    intro y0 y1 y2 y3 hy0
    exact gL_none _
  | succ n ih =>
    intro y0 y1 y2 y3 hy0
    exact g_k_X11_breathedAt_8 (Kd := Kd) (go8 := b_X11_breathedAt_8 (kC Kd) lC S n) (go81 := b_X11_breathedAt_8 (kF Kd np) lC S n) (fun _ _ _ _ k0 => ih k0) hS hy0
theorem g_m_X11_breathedAt {Kd : Nat → Nat} {np : Nat}  {r0 : Nat} {a1 : Int32} {a2 : Int32} {a3 : Int32} {S : fm_M}  (hr0 : gR Kd np r0) (hS : cl Kd np S) : gL pT (m_X11_breathedAt (kC Kd) lC r0 a1 a2 a3 S) (m_X11_breathedAt (kF Kd np) lC r0 a1 a2 a3 S) := by
  unfold m_X11_breathedAt
  refine gL_let ?_
  exact g_b_X11_breathedAt_8 (by assumption) _ (by assumption)
theorem g_k_X11_paidByRow_5 {Kd : Nat → Nat} {np : Nat} {go5 go51 : Nat → Int32 → Int32 → Int32 → Int32 → Option Int32} {go20 go201 : Nat → Int32 → Int32 → Int32 → Int32 → Int32 → Int32 → Option Int32} {S : fm_M} {r0 : Nat} {a1 : Int32} {a2 : Int32} {a3 : Int32} {a4 : Int32} (hgo5 : ∀ (x0 : Nat) (x1 : Int32) (x2 : Int32) (x3 : Int32) (x4 : Int32), gR Kd np x0 → gL pT (go5 x0 x1 x2 x3 x4) (go51 x0 x1 x2 x3 x4)) (hgo20 : ∀ (x0 : Nat) (x1 : Int32) (x2 : Int32) (x3 : Int32) (x4 : Int32) (x5 : Int32) (x6 : Int32), gR Kd np x0 → gL pT (go20 x0 x1 x2 x3 x4 x5 x6) (go201 x0 x1 x2 x3 x4 x5 x6)) (hS : cl Kd np S) (hr0 : gR Kd np r0) : gL pT (k_X11_paidByRow_5 (kC Kd) lC S go5 go20 r0 a1 a2 a3 a4) (k_X11_paidByRow_5 (kF Kd np) lC S go51 go201 r0 a1 a2 a3 a4) := by
  unfold k_X11_paidByRow_5
  refine gL_gi (by assumption) (fun _ => ?_)
  refine gL_ite (fun _ => ?_) (fun _ => ?_)
  · exact gL_someI _
  · refine gL_let ?_
    refine gL_let ?_
    exact hgo20 _ _ _ _ _ _ _ (by assumption)
theorem g_k_X11_paidByRow_20 {Kd : Nat → Nat} {np : Nat} {go5 go51 : Nat → Int32 → Int32 → Int32 → Int32 → Option Int32} {go20 go201 : Nat → Int32 → Int32 → Int32 → Int32 → Int32 → Int32 → Option Int32} {S : fm_M} {r0 : Nat} {a1 : Int32} {a2 : Int32} {a3 : Int32} {a4 : Int32} {a5 : Int32} {a6 : Int32} (hgo5 : ∀ (x0 : Nat) (x1 : Int32) (x2 : Int32) (x3 : Int32) (x4 : Int32), gR Kd np x0 → gL pT (go5 x0 x1 x2 x3 x4) (go51 x0 x1 x2 x3 x4)) (hgo20 : ∀ (x0 : Nat) (x1 : Int32) (x2 : Int32) (x3 : Int32) (x4 : Int32) (x5 : Int32) (x6 : Int32), gR Kd np x0 → gL pT (go20 x0 x1 x2 x3 x4 x5 x6) (go201 x0 x1 x2 x3 x4 x5 x6)) (hS : cl Kd np S) (hr0 : gR Kd np r0) : gL pT (k_X11_paidByRow_20 (kC Kd) lC S go5 go20 r0 a1 a2 a3 a4 a5 a6) (k_X11_paidByRow_20 (kF Kd np) lC S go51 go201 r0 a1 a2 a3 a4 a5 a6) := by
  unfold k_X11_paidByRow_20
  refine gL_ite (fun _ => ?_) (fun _ => ?_)
  · refine gL_gr (by decide) ok_11_16 (by assumption) (by assumption) (fun _ _ => ?_)
    refine gL_ld (by assumption) (fun _ => ?_)
    refine gL_let ?_
    refine gL_let ?_
    exact hgo5 _ _ _ _ _ (by assumption)
  · refine gL_ck (by assumption) ?_
    refine gL_b1I (g_m_X11_breathedAt (by assumption) (by assumption)) (fun _ => ?_)
    refine gL_ite (fun _ => ?_) (fun _ => ?_)
    · refine gL_let ?_
      refine gL_let ?_
      exact hgo20 _ _ _ _ _ _ _ (by assumption)
    · refine gL_let ?_
      exact hgo20 _ _ _ _ _ _ _ (by assumption)
theorem g_bs_X11_paidByRow {Kd : Nat → Nat} {np : Nat} {S : fm_M} (hS : cl Kd np S) : ∀ n : Nat, (∀ {y0 : Nat} {y1 : Int32} {y2 : Int32} {y3 : Int32} {y4 : Int32}, gR Kd np y0 → gL pT (b_X11_paidByRow_5 (kC Kd) lC S n y0 y1 y2 y3 y4) (b_X11_paidByRow_5 (kF Kd np) lC S n y0 y1 y2 y3 y4)) ∧ (∀ {y0 : Nat} {y1 : Int32} {y2 : Int32} {y3 : Int32} {y4 : Int32} {y5 : Int32} {y6 : Int32}, gR Kd np y0 → gL pT (b_X11_paidByRow_20 (kC Kd) lC S n y0 y1 y2 y3 y4 y5 y6) (b_X11_paidByRow_20 (kF Kd np) lC S n y0 y1 y2 y3 y4 y5 y6)) := by
  intro n
  induction n with
  | zero => exact ⟨fun hy0 => gL_none _, fun hy0 => gL_none _⟩
  | succ n ih =>
    refine ⟨?_, ?_⟩
    · intro y0 y1 y2 y3 y4 hy0
      exact g_k_X11_paidByRow_5 (Kd := Kd) (go5 := b_X11_paidByRow_5 (kC Kd) lC S n) (go51 := b_X11_paidByRow_5 (kF Kd np) lC S n) (go20 := b_X11_paidByRow_20 (kC Kd) lC S n) (go201 := b_X11_paidByRow_20 (kF Kd np) lC S n) (fun _ _ _ _ _ k0 => ih.1 k0) (fun _ _ _ _ _ _ _ k0 => ih.2 k0) hS hy0
    · intro y0 y1 y2 y3 y4 y5 y6 hy0
      exact g_k_X11_paidByRow_20 (Kd := Kd) (go5 := b_X11_paidByRow_5 (kC Kd) lC S n) (go51 := b_X11_paidByRow_5 (kF Kd np) lC S n) (go20 := b_X11_paidByRow_20 (kC Kd) lC S n) (go201 := b_X11_paidByRow_20 (kF Kd np) lC S n) (fun _ _ _ _ _ k0 => ih.1 k0) (fun _ _ _ _ _ _ _ k0 => ih.2 k0) hS hy0
theorem g_b_X11_paidByRow_5 {Kd : Nat → Nat} {np : Nat} {S : fm_M} (hS : cl Kd np S) (n : Nat) {y0 : Nat} {y1 : Int32} {y2 : Int32} {y3 : Int32} {y4 : Int32} (hy0 : gR Kd np y0) : gL pT (b_X11_paidByRow_5 (kC Kd) lC S n y0 y1 y2 y3 y4) (b_X11_paidByRow_5 (kF Kd np) lC S n y0 y1 y2 y3 y4) := (g_bs_X11_paidByRow hS n).1 hy0
theorem g_b_X11_paidByRow_20 {Kd : Nat → Nat} {np : Nat} {S : fm_M} (hS : cl Kd np S) (n : Nat) {y0 : Nat} {y1 : Int32} {y2 : Int32} {y3 : Int32} {y4 : Int32} {y5 : Int32} {y6 : Int32} (hy0 : gR Kd np y0) : gL pT (b_X11_paidByRow_20 (kC Kd) lC S n y0 y1 y2 y3 y4 y5 y6) (b_X11_paidByRow_20 (kF Kd np) lC S n y0 y1 y2 y3 y4 y5 y6) := (g_bs_X11_paidByRow hS n).2 hy0
theorem g_m_X11_paidByRow {Kd : Nat → Nat} {np : Nat}  {r0 : Nat} {a1 : Int32} {a2 : Int32} {S : fm_M}  (hr0 : gR Kd np r0) (hS : cl Kd np S) : gL pT (m_X11_paidByRow (kC Kd) lC r0 a1 a2 S) (m_X11_paidByRow (kF Kd np) lC r0 a1 a2 S) := by
  unfold m_X11_paidByRow
  refine gL_let ?_
  refine gL_let ?_
  exact g_b_X11_paidByRow_5 (by assumption) _ (by assumption)
theorem g_k_X11_partOf_13 {Kd : Nat → Nat} {np : Nat} {go13 go131 : Int32 → Int32 → Int32 → Int32 → Option Int64} {S : fm_M} {a0 : Int32} {a1 : Int32} {a3 : Int32} {a4 : Int32} (hgo13 : ∀ (x0 : Int32) (x1 : Int32) (x2 : Int32) (x3 : Int32), gL pT (go13 x0 x1 x2 x3) (go131 x0 x1 x2 x3)) (hS : cl Kd np S) : gL pT (k_X11_partOf_13 (kC Kd) lC S go13 a0 a1 a3 a4) (k_X11_partOf_13 (kF Kd np) lC S go131 a0 a1 a3 a4) := by
  unfold k_X11_partOf_13
  refine gL_ite (fun _ => ?_) (fun _ => ?_)
  · exact gL_someI _
  · refine gL_ite (fun _ => gL_none _) (fun _ => ?_)
    refine gL_ite (fun _ => ?_) (fun _ => ?_)
    · refine gL_ite (fun _ => gL_none _) (fun _ => ?_)
      refine gL_ite (fun _ => ?_) (fun _ => ?_)
      · refine gL_ite (fun _ => gL_none _) (fun _ => ?_)
        exact gL_someI _
      · refine gL_let ?_
        exact hgo13 _ _ _ _
    · refine gL_let ?_
      exact hgo13 _ _ _ _
theorem g_b_X11_partOf_13 {Kd : Nat → Nat} {np : Nat}  {S : fm_M}  (hS : cl Kd np S) : ∀ (n : Nat) {y0 : Int32} {y1 : Int32} {y2 : Int32} {y3 : Int32}, gL pT (b_X11_partOf_13 (kC Kd) lC S n y0 y1 y2 y3) (b_X11_partOf_13 (kF Kd np) lC S n y0 y1 y2 y3) := by
  intro n
  induction n with
  | zero =>
    intro y0 y1 y2 y3
    exact gL_none _
  | succ n ih =>
    intro y0 y1 y2 y3
    exact g_k_X11_partOf_13 (Kd := Kd) (go13 := b_X11_partOf_13 (kC Kd) lC S n) (go131 := b_X11_partOf_13 (kF Kd np) lC S n) (fun _ _ _ _ => ih ) hS
theorem g_m_X11_partOf {Kd : Nat → Nat} {np : Nat}  {a0 : Int32} {a1 : Int32} {a2 : Int32} {S : fm_M}  (hS : cl Kd np S) : gL pT (m_X11_partOf (kC Kd) lC a0 a1 a2 S) (m_X11_partOf (kF Kd np) lC a0 a1 a2 S) := by
  unfold m_X11_partOf
  refine gL_ite (fun _ => ?_) (fun _ => ?_)
  · exact g_b_X11_partOf_13 (by assumption) _
  · exact g_b_X11_partOf_13 (by assumption) _
theorem g_m_X11_feed {Kd : Nat → Nat} {np : Nat}  {r0 : Nat} {a1 : Int32} {S : fm_M}  (hr0 : gR Kd np r0) (hS : cl Kd np S) : gL (pIS Kd np) (m_X11_feed (kC Kd) lC r0 a1 S) (m_X11_feed (kF Kd np) lC r0 a1 S) := by
  unfold m_X11_feed
  refine gL_b1I (g_m_X11_isWithin (by assumption)) (fun _ => ?_)
  refine gL_ite (fun _ => ?_) (fun _ => ?_)
  · exact gL_someIS (by assumption)
  · refine gL_gr (by decide) ok_11_6 (by assumption) (by assumption) (fun _ _ => ?_)
    refine gL_ck (by assumption) ?_
    refine gL_b1I (g_m_X8_isFull (by assumption) (by assumption)) (fun _ => ?_)
    refine gL_ite (fun _ => ?_) (fun _ => ?_)
    · refine gL_gr (by decide) ok_11_6 (by assumption) (by assumption) (fun _ _ => ?_)
      refine gL_ck (by assumption) ?_
      refine gL_biI (g_m_X8_add (by assumption) (by assumption)) (fun _ _ _ => ?_)
      refine gL_gr (by decide) ok_11_6 (by assumption) (by assumption) (fun _ _ => ?_)
      refine gL_ck (by assumption) ?_
      refine gL_b1I (g_m_X8_size (by assumption) (by assumption)) (fun _ => ?_)
      exact gL_someIS (by assumption)
    · exact gL_someIS (by assumption)
theorem g_m_X11_of {Kd : Nat → Nat} {np : Nat}  {r0 : Nat} {a1 : Int32} {a2 : Int32} {S : fm_M}  (hr0 : gR Kd np r0) (hS : cl Kd np S) : gL pT (m_X11_of (kC Kd) lC r0 a1 a2 S) (m_X11_of (kF Kd np) lC r0 a1 a2 S) := by
  unfold m_X11_of
  refine gL_ck (by assumption) ?_
  refine gL_b1I (g_m_X11_isPane (by assumption) (by assumption)) (fun _ => ?_)
  refine gL_ite (fun _ => ?_) (fun _ => ?_)
  · exact gL_someI _
  · refine gL_gr (by decide) ok_11_0 (by assumption) (by assumption) (fun _ _ => ?_)
    refine gL_lr (by decide) (by assumption) (by assumption) (fun _ _ => ?_)
    refine gL_ite (fun _ => ?_) (fun _ => ?_)
    · refine gL_gi (by assumption) (fun _ => ?_)
      exact gL_someI _
    · refine gL_ite (fun _ => ?_) (fun _ => ?_)
      · refine gL_gi (by assumption) (fun _ => ?_)
        exact gL_someI _
      · refine gL_ite (fun _ => ?_) (fun _ => ?_)
        · refine gL_gi (by assumption) (fun _ => ?_)
          exact gL_someI _
        · refine gL_ite (fun _ => ?_) (fun _ => ?_)
          · refine gL_gi (by assumption) (fun _ => ?_)
            exact gL_someI _
          · refine gL_ite (fun _ => ?_) (fun _ => ?_)
            · refine gL_gi (by assumption) (fun _ => ?_)
              refine gL_ite (fun _ => ?_) (fun _ => ?_)
              · exact gL_someI _
              · exact gL_someI _
            · refine gL_ite (fun _ => ?_) (fun _ => ?_)
              · refine gL_ck (by assumption) ?_
                refine gL_b1N (g_m_X11_heldTown (by assumption) (by assumption)) (fun _ _ => ?_)
                refine gL_gi (by assumption) (fun _ => ?_)
                refine gL_ck (by assumption) ?_
                refine gL_b1I (g_m_X10_offerOf (by assumption) (by assumption)) (fun _ => ?_)
                exact gL_someI _
              · exact gL_someI _
theorem g_m_X11_grows {Kd : Nat → Nat} {np : Nat}  {r0 : Nat} {a1 : Int32} {a2 : Int32} {S : fm_M}  (hr0 : gR Kd np r0) (hS : cl Kd np S) : gL (pIS Kd np) (m_X11_grows (kC Kd) lC r0 a1 a2 S) (m_X11_grows (kF Kd np) lC r0 a1 a2 S) := by
  unfold m_X11_grows
  refine gL_ck (by assumption) ?_
  refine gL_b1I (g_m_X11_isPane (by assumption) (by assumption)) (fun _ => ?_)
  refine gL_ite (fun _ => ?_) (fun _ => ?_)
  · exact gL_someIS (by assumption)
  · refine gL_b1I (g_m_X11_isWithin (by assumption)) (fun _ => ?_)
    refine gL_ite (fun _ => ?_) (fun _ => ?_)
    · exact gL_someIS (by assumption)
    · refine gL_gi (by assumption) (fun _ => ?_)
      refine gL_ck (by assumption) ?_
      refine gL_biN (g_m_X11_courseFromNow (by assumption) (by assumption)) (fun _ _ _ _ => ?_)
      refine gL_ck (by assumption) ?_
      refine gL_biI (g_m_X1_growthAt (by assumption) (by assumption)) (fun _ _ _ => ?_)
      exact gL_someIS (by assumption)
theorem g_m_X11_row {Kd : Nat → Nat} {np : Nat}  {r0 : Nat} {a1 : Int32} {a2 : Int32} {a3 : Int32} {S : fm_M}  (hr0 : gR Kd np r0) (hS : cl Kd np S) : gL (pIS Kd np) (m_X11_row (kC Kd) lC r0 a1 a2 a3 S) (m_X11_row (kF Kd np) lC r0 a1 a2 a3 S) := by
  unfold m_X11_row
  refine gL_ck (by assumption) ?_
  refine gL_b1I (g_m_X11_isPane (by assumption) (by assumption)) (fun _ => ?_)
  refine gL_ite (fun _ => ?_) (fun _ => ?_)
  · exact gL_someIS (by assumption)
  · refine gL_b1I (g_m_X11_isWithin (by assumption)) (fun _ => ?_)
    refine gL_ite (fun _ => ?_) (fun _ => ?_)
    · exact gL_someIS (by assumption)
    · refine gL_b1I (g_m_X11_isWithin (by assumption)) (fun _ => ?_)
      refine gL_ite (fun _ => ?_) (fun _ => ?_)
      · exact gL_someIS (by assumption)
      · refine gL_gr (by decide) ok_11_0 (by assumption) (by assumption) (fun _ _ => ?_)
        refine gL_lr (by decide) (by assumption) (by assumption) (fun _ _ => ?_)
        refine gL_ins (by assumption) (fun _ => ?_)
        refine gL_ite (fun _ => ?_) (fun _ => ?_)
        · exact gL_someIS (by assumption)
        · refine gL_ck (by assumption) ?_
          refine gL_ck (by assumption) ?_
          refine gL_biI (g_m_X9_change (by assumption) (by assumption)) (fun _ _ _ => ?_)
          exact gL_someIS (by assumption)
theorem g_m_X11_set {Kd : Nat → Nat} {np : Nat}  {r0 : Nat} {a1 : Int32} {a2 : Int32} {a3 : Int32} {S : fm_M}  (hr0 : gR Kd np r0) (hS : cl Kd np S) : gL (pIS Kd np) (m_X11_set (kC Kd) lC r0 a1 a2 a3 S) (m_X11_set (kF Kd np) lC r0 a1 a2 a3 S) := by
  unfold m_X11_set
  refine gL_ck (by assumption) ?_
  refine gL_b1I (g_m_X11_isPane (by assumption) (by assumption)) (fun _ => ?_)
  refine gL_ite (fun _ => ?_) (fun _ => ?_)
  · exact gL_someIS (by assumption)
  · refine gL_b1I (g_m_X11_isWithin (by assumption)) (fun _ => ?_)
    refine gL_ite (fun _ => ?_) (fun _ => ?_)
    · exact gL_someIS (by assumption)
    · refine gL_ite (fun _ => ?_) (fun _ => ?_)
      · refine gL_b1I (g_m_X11_isWithin (by assumption)) (fun _ => ?_)
        refine gL_ite (fun _ => ?_) (fun _ => ?_)
        · exact gL_someIS (by assumption)
        · refine gL_gr (by decide) ok_11_0 (by assumption) (by assumption) (fun _ _ => ?_)
          refine gL_lr (by decide) (by assumption) (by assumption) (fun _ _ => ?_)
          refine gL_ite (fun _ => ?_) (fun _ => ?_)
          · refine gL_gi (by assumption) (fun _ => ?_)
            refine gL_ite (fun _ => ?_) (fun _ => ?_)
            · refine gL_pi (by assumption) (by assumption) (fun _ _ => ?_)
              exact gL_someIS (by assumption)
            · refine gL_pi (by assumption) (by assumption) (fun _ _ => ?_)
              exact gL_someIS (by assumption)
          · refine gL_gi (by assumption) (fun _ => ?_)
            refine gL_ite (fun _ => ?_) (fun _ => ?_)
            · refine gL_pi (by assumption) (by assumption) (fun _ _ => ?_)
              exact gL_someIS (by assumption)
            · refine gL_pi (by assumption) (by assumption) (fun _ _ => ?_)
              exact gL_someIS (by assumption)
      · refine gL_b1I (g_m_X11_isWithin (by assumption)) (fun _ => ?_)
        refine gL_ite (fun _ => ?_) (fun _ => ?_)
        · exact gL_someIS (by assumption)
        · refine gL_gr (by decide) ok_11_0 (by assumption) (by assumption) (fun _ _ => ?_)
          refine gL_lr (by decide) (by assumption) (by assumption) (fun _ _ => ?_)
          refine gL_ite (fun _ => ?_) (fun _ => ?_)
          · refine gL_gi (by assumption) (fun _ => ?_)
            refine gL_ite (fun _ => ?_) (fun _ => ?_)
            · refine gL_pi (by assumption) (by assumption) (fun _ _ => ?_)
              exact gL_someIS (by assumption)
            · refine gL_pi (by assumption) (by assumption) (fun _ _ => ?_)
              exact gL_someIS (by assumption)
          · refine gL_gi (by assumption) (fun _ => ?_)
            refine gL_ite (fun _ => ?_) (fun _ => ?_)
            · refine gL_pi (by assumption) (by assumption) (fun _ _ => ?_)
              exact gL_someIS (by assumption)
            · refine gL_pi (by assumption) (by assumption) (fun _ _ => ?_)
              exact gL_someIS (by assumption)
theorem g_m_X11_cold {Kd : Nat → Nat} {np : Nat}  {r0 : Nat} {a1 : Int32} {S : fm_M}  (hr0 : gR Kd np r0) (hS : cl Kd np S) : gL (pIS Kd np) (m_X11_cold (kC Kd) lC r0 a1 S) (m_X11_cold (kF Kd np) lC r0 a1 S) := by
  unfold m_X11_cold
  refine gL_b1I (g_m_X11_isWithin (by assumption)) (fun _ => ?_)
  refine gL_ite (fun _ => ?_) (fun _ => ?_)
  · exact gL_someIS (by assumption)
  · refine gL_gi (by assumption) (fun _ => ?_)
    refine gL_pi (by assumption) (by assumption) (fun _ _ => ?_)
    exact gL_someIS (by assumption)
theorem g_m_X11_shut {Kd : Nat → Nat} {np : Nat}  {r0 : Nat} {a1 : Int32} {a2 : Int32} {S : fm_M}  (hr0 : gR Kd np r0) (hS : cl Kd np S) : gL (pIS Kd np) (m_X11_shut (kC Kd) lC r0 a1 a2 S) (m_X11_shut (kF Kd np) lC r0 a1 a2 S) := by
  unfold m_X11_shut
  refine gL_ck (by assumption) ?_
  refine gL_b1I (g_m_X11_isPane (by assumption) (by assumption)) (fun _ => ?_)
  refine gL_ite (fun _ => ?_) (fun _ => ?_)
  · exact gL_someIS (by assumption)
  · refine gL_gr (by decide) ok_11_0 (by assumption) (by assumption) (fun _ _ => ?_)
    refine gL_lr (by decide) (by assumption) (by assumption) (fun _ _ => ?_)
    refine gL_gi (by assumption) (fun _ => ?_)
    refine gL_gr (by decide) ok_11_0 (by assumption) (by assumption) (fun _ _ => ?_)
    refine gL_lr (by decide) (by assumption) (by assumption) (fun _ _ => ?_)
    refine gL_pz (by assumption) (by assumption) (fun _ _ => ?_)
    refine gL_ite (fun _ => ?_) (fun _ => ?_)
    · exact gL_someIS (by assumption)
    · exact gL_someIS (by assumption)
theorem g_m_X11_breathe {Kd : Nat → Nat} {np : Nat}  {r0 : Nat} {a1 : Int32} {S : fm_M}  (hr0 : gR Kd np r0) (hS : cl Kd np S) : gL (pIS Kd np) (m_X11_breathe (kC Kd) lC r0 a1 S) (m_X11_breathe (kF Kd np) lC r0 a1 S) := by
  unfold m_X11_breathe
  refine gL_ck (by assumption) ?_
  refine gL_b1I (g_m_X11_isPane (by assumption) (by assumption)) (fun _ => ?_)
  refine gL_ite (fun _ => ?_) (fun _ => ?_)
  · exact gL_someIS (by assumption)
  · refine gL_ck (by assumption) ?_
    refine gL_b1N (g_m_X11_heldTown (by assumption) (by assumption)) (fun _ _ => ?_)
    refine gL_gr (by decide) ok_11_0 (by assumption) (by assumption) (fun _ _ => ?_)
    refine gL_lr (by decide) (by assumption) (by assumption) (fun _ _ => ?_)
    refine gL_gi (by assumption) (fun _ => ?_)
    refine gL_ck (by assumption) ?_
    refine gL_b1I (g_m_X10_offerOf (by assumption) (by assumption)) (fun _ => ?_)
    refine gL_gi (by assumption) (fun _ => ?_)
    refine gL_let ?_
    refine gL_pi (by assumption) (by assumption) (fun _ _ => ?_)
    refine gL_gr (by decide) ok_11_0 (by assumption) (by assumption) (fun _ _ => ?_)
    refine gL_lr (by decide) (by assumption) (by assumption) (fun _ _ => ?_)
    refine gL_pi (by assumption) (by assumption) (fun _ _ => ?_)
    exact gL_someIS (by assumption)
theorem g_m_X11_told {Kd : Nat → Nat} {np : Nat}  {r0 : Nat} {a1 : Int32} {S : fm_M}  (hr0 : gR Kd np r0) (hS : cl Kd np S) : gL (pIS Kd np) (m_X11_told (kC Kd) lC r0 a1 S) (m_X11_told (kF Kd np) lC r0 a1 S) := by
  unfold m_X11_told
  refine gL_ite (fun _ => ?_) (fun _ => ?_)
  · refine gL_gi (by assumption) (fun _ => ?_)
    exact gL_someIS (by assumption)
  · refine gL_ite (fun _ => ?_) (fun _ => ?_)
    · refine gL_gi (by assumption) (fun _ => ?_)
      exact gL_someIS (by assumption)
    · refine gL_ite (fun _ => ?_) (fun _ => ?_)
      · refine gL_ck (by assumption) ?_
        refine gL_b1N (g_m_X11_heldTown (by assumption) (by assumption)) (fun _ _ => ?_)
        refine gL_gi (by assumption) (fun _ => ?_)
        exact gL_someIS (by assumption)
      · refine gL_ite (fun _ => ?_) (fun _ => ?_)
        · refine gL_ck (by assumption) ?_
          refine gL_b1N (g_m_X11_heldTown (by assumption) (by assumption)) (fun _ _ => ?_)
          refine gL_gi (by assumption) (fun _ => ?_)
          exact gL_someIS (by assumption)
        · refine gL_ite (fun _ => ?_) (fun _ => ?_)
          · refine gL_gi (by assumption) (fun _ => ?_)
            exact gL_someIS (by assumption)
          · refine gL_ite (fun _ => ?_) (fun _ => ?_)
            · refine gL_ck (by assumption) ?_
              refine gL_biI (g_m_X11_offersBehind (by assumption) (by assumption)) (fun _ _ _ => ?_)
              exact gL_someIS (by assumption)
            · refine gL_ite (fun _ => ?_) (fun _ => ?_)
              · refine gL_ck (by assumption) ?_
                refine gL_b1I (g_m_X11_shutPanes (by assumption) (by assumption)) (fun _ => ?_)
                exact gL_someIS (by assumption)
              · exact gL_someIS (by assumption)
theorem g_k_X11_pass_29 {Kd : Nat → Nat} {np : Nat} {go29 go291 : Nat → Int32 → Int32 → fm_M → Option (Int32 × fm_M)} {r0 : Nat} {a1 : Int32} {a2 : Int32} {S : fm_M} (hgo29 : ∀ (x0 : Nat) (x1 : Int32) (x2 : Int32) (x3 : fm_M), gR Kd np x0 → cl Kd np x3 → gL (pIS Kd np) (go29 x0 x1 x2 x3) (go291 x0 x1 x2 x3)) (hr0 : gR Kd np r0) (hS : cl Kd np S) : gL (pIS Kd np) (k_X11_pass_29 (kC Kd) lC go29 r0 a1 a2 S) (k_X11_pass_29 (kF Kd np) lC go291 r0 a1 a2 S) := by
  unfold k_X11_pass_29
  refine gL_gi (by assumption) (fun _ => ?_)
  refine gL_ite (fun _ => ?_) (fun _ => ?_)
  · refine gL_gi (by assumption) (fun _ => ?_)
    refine gL_pi (by assumption) (by assumption) (fun _ _ => ?_)
    refine gL_gi (by assumption) (fun _ => ?_)
    exact gL_someIS (by assumption)
  · refine gL_gr (by decide) ok_11_0 (by assumption) (by assumption) (fun _ _ => ?_)
    refine gL_lr (by decide) (by assumption) (by assumption) (fun _ _ => ?_)
    refine gL_ck (by assumption) ?_
    refine gL_biI (g_m_X11_iceBehind (by assumption) (by assumption)) (fun _ _ _ => ?_)
    refine gL_pi (by assumption) (by assumption) (fun _ _ => ?_)
    refine gL_let ?_
    exact hgo29 _ _ _ _ (by assumption) (by assumption)
theorem g_b_X11_pass_29 {Kd : Nat → Nat} {np : Nat}     : ∀ (n : Nat) {y0 : Nat} {y1 : Int32} {y2 : Int32} {y3 : fm_M}, gR Kd np y0 → cl Kd np y3 → gL (pIS Kd np) (b_X11_pass_29 (kC Kd) lC  n y0 y1 y2 y3) (b_X11_pass_29 (kF Kd np) lC  n y0 y1 y2 y3) := by
  intro n
  induction n with
  | zero =>
    intro y0 y1 y2 y3 hy0 hy3
    exact gL_none _
  | succ n ih =>
    intro y0 y1 y2 y3 hy0 hy3
    exact g_k_X11_pass_29 (Kd := Kd) (go29 := b_X11_pass_29 (kC Kd) lC  n) (go291 := b_X11_pass_29 (kF Kd np) lC  n) (fun _ _ _ _ k0 k1 => ih k0 k1) hy0 hy3
theorem g_m_X11_pass {Kd : Nat → Nat} {np : Nat}  {r0 : Nat} {a1 : Int32} {S : fm_M}  (hr0 : gR Kd np r0) (hS : cl Kd np S) : gL (pIS Kd np) (m_X11_pass (kC Kd) lC r0 a1 S) (m_X11_pass (kF Kd np) lC r0 a1 S) := by
  unfold m_X11_pass
  refine gL_b1I (g_m_X11_isWithin (by assumption)) (fun _ => ?_)
  refine gL_ite (fun _ => ?_) (fun _ => ?_)
  · exact gL_someIS (by assumption)
  · refine gL_gi (by assumption) (fun _ => ?_)
    refine gL_ite (fun _ => ?_) (fun _ => ?_)
    · refine gL_let ?_
      exact g_b_X11_pass_29 _ (by assumption) (by assumption)
    · exact gL_someIS (by assumption)
theorem g_m_X11_on {Kd : Nat → Nat} {np : Nat}  {r0 : Nat} {a1 : Int32} {a2 : Int32} {S : fm_M}  (hr0 : gR Kd np r0) (hS : cl Kd np S) : gL (pIS Kd np) (m_X11_on (kC Kd) lC r0 a1 a2 S) (m_X11_on (kF Kd np) lC r0 a1 a2 S) := by
  unfold m_X11_on
  refine gL_ite (fun _ => ?_) (fun _ => ?_)
  · refine gL_let ?_
    refine gL_ite (fun _ => ?_) (fun _ => ?_)
    · refine gL_ite (fun _ => ?_) (fun _ => ?_)
      · exact gL_someIS (by assumption)
      · refine gL_ck (by assumption) ?_
        refine gL_b1I (g_m_X11_isPane (by assumption) (by assumption)) (fun _ => ?_)
        refine gL_ite (fun _ => ?_) (fun _ => ?_)
        · exact gL_someIS (by assumption)
        · refine gL_b1I (g_m_X11_isWithin (by assumption)) (fun _ => ?_)
          refine gL_ite (fun _ => ?_) (fun _ => ?_)
          · exact gL_someIS (by assumption)
          · refine gL_ite (fun _ => ?_) (fun _ => ?_)
            · refine gL_ck (by assumption) ?_
              refine gL_biI (g_m_X11_iceBehind (by assumption) (by assumption)) (fun _ _ _ => ?_)
              exact gL_someIS (by assumption)
            · refine gL_ck (by assumption) ?_
              refine gL_biI (g_m_X11_offersBehind (by assumption) (by assumption)) (fun _ _ _ => ?_)
              exact gL_someIS (by assumption)
    · refine gL_b1I (g_m_X11_isWithin (by assumption)) (fun _ => ?_)
      refine gL_ite (fun _ => ?_) (fun _ => ?_)
      · exact gL_someIS (by assumption)
      · refine gL_ite (fun _ => ?_) (fun _ => ?_)
        · refine gL_ck (by assumption) ?_
          refine gL_biI (g_m_X11_iceBehind (by assumption) (by assumption)) (fun _ _ _ => ?_)
          exact gL_someIS (by assumption)
        · refine gL_ck (by assumption) ?_
          refine gL_biI (g_m_X11_offersBehind (by assumption) (by assumption)) (fun _ _ _ => ?_)
          exact gL_someIS (by assumption)
  · refine gL_let ?_
    refine gL_ite (fun _ => ?_) (fun _ => ?_)
    · refine gL_ite (fun _ => ?_) (fun _ => ?_)
      · exact gL_someIS (by assumption)
      · refine gL_ck (by assumption) ?_
        refine gL_b1I (g_m_X11_isPane (by assumption) (by assumption)) (fun _ => ?_)
        refine gL_ite (fun _ => ?_) (fun _ => ?_)
        · exact gL_someIS (by assumption)
        · refine gL_b1I (g_m_X11_isWithin (by assumption)) (fun _ => ?_)
          refine gL_ite (fun _ => ?_) (fun _ => ?_)
          · exact gL_someIS (by assumption)
          · refine gL_ite (fun _ => ?_) (fun _ => ?_)
            · refine gL_ck (by assumption) ?_
              refine gL_biI (g_m_X11_iceBehind (by assumption) (by assumption)) (fun _ _ _ => ?_)
              exact gL_someIS (by assumption)
            · refine gL_ck (by assumption) ?_
              refine gL_biI (g_m_X11_offersBehind (by assumption) (by assumption)) (fun _ _ _ => ?_)
              exact gL_someIS (by assumption)
    · refine gL_b1I (g_m_X11_isWithin (by assumption)) (fun _ => ?_)
      refine gL_ite (fun _ => ?_) (fun _ => ?_)
      · exact gL_someIS (by assumption)
      · refine gL_ite (fun _ => ?_) (fun _ => ?_)
        · refine gL_ck (by assumption) ?_
          refine gL_biI (g_m_X11_iceBehind (by assumption) (by assumption)) (fun _ _ _ => ?_)
          exact gL_someIS (by assumption)
        · refine gL_ck (by assumption) ?_
          refine gL_biI (g_m_X11_offersBehind (by assumption) (by assumption)) (fun _ _ _ => ?_)
          exact gL_someIS (by assumption)
