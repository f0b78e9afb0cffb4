/-! the class's models and what can be reached (wip/whole/tool/reach.py prints this) -/
theorem g_m_X1_frozenBeside {Kd : Nat → Nat} {np : Nat}  {r0 : Nat} {a1 : Int32} {S : fm_M}  (hr0 : gR Kd np r0) (hS : cl Kd np S) : gL pT (m_X1_frozenBeside (kC Kd) lC r0 a1 S) (m_X1_frozenBeside (kF Kd np) lC r0 a1 S) := by
  unfold m_X1_frozenBeside
  refine gL_gi (by assumption) (fun _ => ?_)
  refine gL_gi (by assumption) (fun _ => ?_)
  exact gL_someI _
theorem g_m_X5_growth {Kd : Nat → Nat} {np : Nat}  {r0 : Nat} {r1 : Nat} {a2 : Int32} {S : fm_M}  (hr0 : gR Kd np r0) (hr1 : gR Kd np r1) (hS : cl Kd np S) : gL pT (m_X5_growth (kC Kd) lC r0 r1 a2 S) (m_X5_growth (kF Kd np) lC r0 r1 a2 S) := by
  unfold m_X5_growth
  refine gL_gr (by decide) ok_1_8 (by assumption) (by assumption) (fun _ _ => ?_)
  refine gL_ld (by assumption) (fun _ => ?_)
  exact gL_someI _
theorem g_m_X3_growth {Kd : Nat → Nat} {np : Nat}  {r0 : Nat} {r1 : Nat} {a2 : Int32} {S : fm_M}  (hr0 : gR Kd np r0) (hr1 : gR Kd np r1) (hS : cl Kd np S) : gL pT (m_X3_growth (kC Kd) lC r0 r1 a2 S) (m_X3_growth (kF Kd np) lC r0 r1 a2 S) := by
  unfold m_X3_growth
  refine gL_gi (by assumption) (fun _ => ?_)
  refine gL_ite (fun _ => ?_) (fun _ => ?_)
  · refine gL_gi (by assumption) (fun _ => ?_)
    refine gL_ckC (by assumption) ?_
    refine gL_b1I (g_m_X5_growth (by assumption) (by assumption) (by assumption)) (fun _ => ?_)
    exact gL_someI _
  · refine gL_let ?_
    refine gL_ckC (by assumption) ?_
    refine gL_b1I (g_m_X5_growth (by assumption) (by assumption) (by assumption)) (fun _ => ?_)
    exact gL_someI _
theorem g_m_X4_growth {Kd : Nat → Nat} {np : Nat}  {r0 : Nat} {r1 : Nat} {a2 : Int32} {S : fm_M}  (hr0 : gR Kd np r0) (hr1 : gR Kd np r1) (hS : cl Kd np S) : gL pT (m_X4_growth (kC Kd) lC r0 r1 a2 S) (m_X4_growth (kF Kd np) lC r0 r1 a2 S) := by
  unfold m_X4_growth
  refine gL_ckC (by assumption) ?_
  refine gL_b1I (g_m_X5_growth (by assumption) (by assumption) (by assumption)) (fun _ => ?_)
  exact gL_someI _
theorem g_m_X7_growth {Kd : Nat → Nat} {np : Nat}  {r0 : Nat} {r1 : Nat} {a2 : Int32} {S : fm_M}  (hr0 : gR Kd np r0) (hr1 : gR Kd np r1) (hS : cl Kd np S) : gL pT (m_X7_growth (kC Kd) lC r0 r1 a2 S) (m_X7_growth (kF Kd np) lC r0 r1 a2 S) := by
  unfold m_X7_growth
  refine gL_ckC (by assumption) ?_
  refine gL_b1I (g_m_X5_growth (by assumption) (by assumption) (by assumption)) (fun _ => ?_)
  refine gL_ck (by assumption) ?_
  refine gL_b1I (g_m_X1_frozenBeside (by assumption) (by assumption)) (fun _ => ?_)
  exact gL_someI _
theorem g_m_X2_growth {Kd : Nat → Nat} {np : Nat}  {r0 : Nat} {r1 : Nat} {a2 : Int32} {S : fm_M}  (hr0 : gR Kd np r0) (hr1 : gR Kd np r1) (hS : cl Kd np S) : gL pT (m_X2_growth (kC Kd) lC r0 r1 a2 S) (m_X2_growth (kF Kd np) lC r0 r1 a2 S) := by
  unfold m_X2_growth
  refine gL_ite (fun _ => ?_) (fun _ => ?_)
  · exact gL_someI _
  · refine gL_ckC (by assumption) ?_
    refine gL_b1I (g_m_X3_growth (by assumption) (by assumption) (by assumption)) (fun _ => ?_)
    exact gL_someI _
theorem g_m_X0_growth {Kd : Nat → Nat} {np : Nat}  {r0 : Nat} {r1 : Nat} {a2 : Int32} {S : fm_M}  (hr0 : gR Kd np r0) (hr1 : gR Kd np r1) (hS : cl Kd np S) : gL pT (m_X0_growth (kC Kd) lC r0 r1 a2 S) (m_X0_growth (kF Kd np) lC r0 r1 a2 S) := by
  unfold m_X0_growth
  refine gL_ckC (by assumption) ?_
  refine gL_b1I (g_m_X4_growth (by assumption) (by assumption) (by assumption)) (fun _ => ?_)
  refine gL_gi (by assumption) (fun _ => ?_)
  exact gL_someI _
theorem g_m_X9_growth {Kd : Nat → Nat} {np : Nat}  {r0 : Nat} {r1 : Nat} {a2 : Int32} {S : fm_M}  (hr0 : gR Kd np r0) (hr1 : gR Kd np r1) (hS : cl Kd np S) : gL pT (m_X9_growth (kC Kd) lC r0 r1 a2 S) (m_X9_growth (kF Kd np) lC r0 r1 a2 S) := by
  unfold m_X9_growth
  refine gL_ckC (by assumption) ?_
  refine gL_b1I (g_m_X7_growth (by assumption) (by assumption) (by assumption)) (fun _ => ?_)
  refine gL_gr (by decide) ok_9_10 (by assumption) (by assumption) (fun _ _ => ?_)
  refine gL_ld (by assumption) (fun _ => ?_)
  exact gL_someI _
theorem g_v_growth {Kd : Nat → Nat} {np : Nat}  {r0 : Nat} {r1 : Nat} {a2 : Int32} {S : fm_M}  (hr0 : gR Kd np r0) (hr1 : gR Kd np r1) (hS : cl Kd np S) : gL pT (v_growth (kC Kd) lC r0 r1 a2 S) (v_growth (kF Kd np) lC r0 r1 a2 S) := by
  unfold v_growth
  rw [kF_g hr0]
  refine gL_ite (fun _ => g_m_X0_growth (by assumption) (by assumption) (by assumption)) (fun _ => ?_)
  refine gL_ite (fun _ => g_m_X2_growth (by assumption) (by assumption) (by assumption)) (fun _ => ?_)
  refine gL_ite (fun _ => g_m_X3_growth (by assumption) (by assumption) (by assumption)) (fun _ => ?_)
  refine gL_ite (fun _ => g_m_X4_growth (by assumption) (by assumption) (by assumption)) (fun _ => ?_)
  refine gL_ite (fun _ => g_m_X5_growth (by assumption) (by assumption) (by assumption)) (fun _ => ?_)
  refine gL_ite (fun _ => g_m_X7_growth (by assumption) (by assumption) (by assumption)) (fun _ => ?_)
  refine gL_ite (fun _ => g_m_X9_growth (by assumption) (by assumption) (by assumption)) (fun _ => ?_)
  exact gL_none _
theorem g_m_X5_drips {Kd : Nat → Nat} {np : Nat}  {r0 : Nat} {a1 : Int32} {S : fm_M}  (hr0 : gR Kd np r0) (hS : cl Kd np S) : gL (pIS Kd np) (m_X5_drips (kC Kd) lC r0 a1 S) (m_X5_drips (kF Kd np) lC r0 a1 S) := by
  unfold m_X5_drips
  refine gL_gr (by decide) ok_5_9 (by assumption) (by assumption) (fun _ _ => ?_)
  refine gL_ck (by assumption) ?_
  refine gL_biI (g_m_X8_add (by assumption) (by assumption)) (fun _ _ _ => ?_)
  refine gL_gi (by assumption) (fun _ => ?_)
  exact gL_someIS (by assumption)
theorem g_m_X3_drips {Kd : Nat → Nat} {np : Nat}  {r0 : Nat} {a1 : Int32} {S : fm_M}  (hr0 : gR Kd np r0) (hS : cl Kd np S) : gL (pIS Kd np) (m_X3_drips (kC Kd) lC r0 a1 S) (m_X3_drips (kF Kd np) lC r0 a1 S) := by
  unfold m_X3_drips
  refine gL_gr (by decide) ok_3_9 (by assumption) (by assumption) (fun _ _ => ?_)
  refine gL_ck (by assumption) ?_
  refine gL_biI (g_m_X8_add (by assumption) (by assumption)) (fun _ _ _ => ?_)
  refine gL_ckC (by assumption) ?_
  refine gL_biI (g_m_X5_drips (by assumption) (by assumption)) (fun _ _ _ => ?_)
  exact gL_someIS (by assumption)
theorem g_m_X0_drips {Kd : Nat → Nat} {np : Nat}  {r0 : Nat} {a1 : Int32} {S : fm_M}  (hr0 : gR Kd np r0) (hS : cl Kd np S) : gL (pIS Kd np) (m_X0_drips (kC Kd) lC r0 a1 S) (m_X0_drips (kF Kd np) lC r0 a1 S) := by
  unfold m_X0_drips
  refine gL_gr (by decide) ok_0_9 (by assumption) (by assumption) (fun _ _ => ?_)
  refine gL_ck (by assumption) ?_
  refine gL_biI (g_m_X8_add (by assumption) (by assumption)) (fun _ _ _ => ?_)
  refine gL_ckC (by assumption) ?_
  refine gL_biI (g_m_X5_drips (by assumption) (by assumption)) (fun _ _ _ => ?_)
  refine gL_gi (by assumption) (fun _ => ?_)
  exact gL_someIS (by assumption)
theorem g_v_drips {Kd : Nat → Nat} {np : Nat}  {r0 : Nat} {a1 : Int32} {S : fm_M}  (hr0 : gR Kd np r0) (hS : cl Kd np S) : gL (pIS Kd np) (v_drips (kC Kd) lC r0 a1 S) (v_drips (kF Kd np) lC r0 a1 S) := by
  unfold v_drips
  rw [kF_g hr0]
  refine gL_ite (fun _ => g_m_X0_drips (by assumption) (by assumption)) (fun _ => ?_)
  refine gL_ite (fun _ => g_m_X3_drips (by assumption) (by assumption)) (fun _ => ?_)
  refine gL_ite (fun _ => g_m_X3_drips (by assumption) (by assumption)) (fun _ => ?_)
  refine gL_ite (fun _ => g_m_X5_drips (by assumption) (by assumption)) (fun _ => ?_)
  refine gL_ite (fun _ => g_m_X5_drips (by assumption) (by assumption)) (fun _ => ?_)
  refine gL_ite (fun _ => g_m_X5_drips (by assumption) (by assumption)) (fun _ => ?_)
  refine gL_ite (fun _ => g_m_X5_drips (by assumption) (by assumption)) (fun _ => ?_)
  exact gL_none _
theorem g_m_X5_creaks {Kd : Nat → Nat} {np : Nat}  {r0 : Nat} {a1 : Int32} {S : fm_M}  (hr0 : gR Kd np r0) (hS : cl Kd np S) : gL (pIS Kd np) (m_X5_creaks (kC Kd) lC r0 a1 S) (m_X5_creaks (kF Kd np) lC r0 a1 S) := by
  unfold m_X5_creaks
  refine gL_gr (by decide) ok_5_9 (by assumption) (by assumption) (fun _ _ => ?_)
  refine gL_ck (by assumption) ?_
  refine gL_biI (g_m_X8_add (by assumption) (by assumption)) (fun _ _ _ => ?_)
  refine gL_biI (g_v_drips (by assumption) (by assumption)) (fun _ _ _ => ?_)
  refine gL_gi (by assumption) (fun _ => ?_)
  exact gL_someIS (by assumption)
theorem g_m_X4_creaks {Kd : Nat → Nat} {np : Nat}  {r0 : Nat} {a1 : Int32} {S : fm_M}  (hr0 : gR Kd np r0) (hS : cl Kd np S) : gL (pIS Kd np) (m_X4_creaks (kC Kd) lC r0 a1 S) (m_X4_creaks (kF Kd np) lC r0 a1 S) := by
  unfold m_X4_creaks
  refine gL_gr (by decide) ok_4_9 (by assumption) (by assumption) (fun _ _ => ?_)
  refine gL_ck (by assumption) ?_
  refine gL_biI (g_m_X8_add (by assumption) (by assumption)) (fun _ _ _ => ?_)
  refine gL_ckC (by assumption) ?_
  refine gL_biI (g_m_X5_creaks (by assumption) (by assumption)) (fun _ _ _ => ?_)
  exact gL_someIS (by assumption)
theorem g_m_X9_creaks {Kd : Nat → Nat} {np : Nat}  {r0 : Nat} {a1 : Int32} {S : fm_M}  (hr0 : gR Kd np r0) (hS : cl Kd np S) : gL (pIS Kd np) (m_X9_creaks (kC Kd) lC r0 a1 S) (m_X9_creaks (kF Kd np) lC r0 a1 S) := by
  unfold m_X9_creaks
  refine gL_gr (by decide) ok_9_9 (by assumption) (by assumption) (fun _ _ => ?_)
  refine gL_ck (by assumption) ?_
  refine gL_biI (g_m_X8_add (by assumption) (by assumption)) (fun _ _ _ => ?_)
  refine gL_ckC (by assumption) ?_
  refine gL_biI (g_m_X5_creaks (by assumption) (by assumption)) (fun _ _ _ => ?_)
  refine gL_gi (by assumption) (fun _ => ?_)
  exact gL_someIS (by assumption)
theorem g_v_creaks {Kd : Nat → Nat} {np : Nat}  {r0 : Nat} {a1 : Int32} {S : fm_M}  (hr0 : gR Kd np r0) (hS : cl Kd np S) : gL (pIS Kd np) (v_creaks (kC Kd) lC r0 a1 S) (v_creaks (kF Kd np) lC r0 a1 S) := by
  unfold v_creaks
  rw [kF_g hr0]
  refine gL_ite (fun _ => g_m_X4_creaks (by assumption) (by assumption)) (fun _ => ?_)
  refine gL_ite (fun _ => g_m_X5_creaks (by assumption) (by assumption)) (fun _ => ?_)
  refine gL_ite (fun _ => g_m_X5_creaks (by assumption) (by assumption)) (fun _ => ?_)
  refine gL_ite (fun _ => g_m_X4_creaks (by assumption) (by assumption)) (fun _ => ?_)
  refine gL_ite (fun _ => g_m_X5_creaks (by assumption) (by assumption)) (fun _ => ?_)
  refine gL_ite (fun _ => g_m_X5_creaks (by assumption) (by assumption)) (fun _ => ?_)
  refine gL_ite (fun _ => g_m_X9_creaks (by assumption) (by assumption)) (fun _ => ?_)
  exact gL_none _
theorem g_m_X5_shines {Kd : Nat → Nat} {np : Nat}  {r0 : Nat} {a1 : Int32} {S : fm_M}  (hr0 : gR Kd np r0) (hS : cl Kd np S) : gL (pIS Kd np) (m_X5_shines (kC Kd) lC r0 a1 S) (m_X5_shines (kF Kd np) lC r0 a1 S) := by
  unfold m_X5_shines
  refine gL_gr (by decide) ok_5_9 (by assumption) (by assumption) (fun _ _ => ?_)
  refine gL_ck (by assumption) ?_
  refine gL_biI (g_m_X8_add (by assumption) (by assumption)) (fun _ _ _ => ?_)
  refine gL_biI (g_v_creaks (by assumption) (by assumption)) (fun _ _ _ => ?_)
  exact gL_someIS (by assumption)
theorem g_m_X7_shines {Kd : Nat → Nat} {np : Nat}  {r0 : Nat} {a1 : Int32} {S : fm_M}  (hr0 : gR Kd np r0) (hS : cl Kd np S) : gL (pIS Kd np) (m_X7_shines (kC Kd) lC r0 a1 S) (m_X7_shines (kF Kd np) lC r0 a1 S) := by
  unfold m_X7_shines
  refine gL_gr (by decide) ok_7_9 (by assumption) (by assumption) (fun _ _ => ?_)
  refine gL_ck (by assumption) ?_
  refine gL_biI (g_m_X8_add (by assumption) (by assumption)) (fun _ _ _ => ?_)
  refine gL_ckC (by assumption) ?_
  refine gL_biI (g_m_X5_shines (by assumption) (by assumption)) (fun _ _ _ => ?_)
  exact gL_someIS (by assumption)
theorem g_m_X2_shines {Kd : Nat → Nat} {np : Nat}  {r0 : Nat} {a1 : Int32} {S : fm_M}  (hr0 : gR Kd np r0) (hS : cl Kd np S) : gL (pIS Kd np) (m_X2_shines (kC Kd) lC r0 a1 S) (m_X2_shines (kF Kd np) lC r0 a1 S) := by
  unfold m_X2_shines
  refine gL_gr (by decide) ok_2_9 (by assumption) (by assumption) (fun _ _ => ?_)
  refine gL_ck (by assumption) ?_
  refine gL_biI (g_m_X8_add (by assumption) (by assumption)) (fun _ _ _ => ?_)
  refine gL_ckC (by assumption) ?_
  refine gL_biI (g_m_X5_shines (by assumption) (by assumption)) (fun _ _ _ => ?_)
  refine gL_ckC (by assumption) ?_
  refine gL_biI (g_v_drips (by assumption) (by assumption)) (fun _ _ _ => ?_)
  exact gL_someIS (by assumption)
theorem g_v_shines {Kd : Nat → Nat} {np : Nat}  {r0 : Nat} {a1 : Int32} {S : fm_M}  (hr0 : gR Kd np r0) (hS : cl Kd np S) : gL (pIS Kd np) (v_shines (kC Kd) lC r0 a1 S) (v_shines (kF Kd np) lC r0 a1 S) := by
  unfold v_shines
  rw [kF_g hr0]
  refine gL_ite (fun _ => g_m_X5_shines (by assumption) (by assumption)) (fun _ => ?_)
  refine gL_ite (fun _ => g_m_X2_shines (by assumption) (by assumption)) (fun _ => ?_)
  refine gL_ite (fun _ => g_m_X5_shines (by assumption) (by assumption)) (fun _ => ?_)
  refine gL_ite (fun _ => g_m_X5_shines (by assumption) (by assumption)) (fun _ => ?_)
  refine gL_ite (fun _ => g_m_X5_shines (by assumption) (by assumption)) (fun _ => ?_)
  refine gL_ite (fun _ => g_m_X7_shines (by assumption) (by assumption)) (fun _ => ?_)
  refine gL_ite (fun _ => g_m_X7_shines (by assumption) (by assumption)) (fun _ => ?_)
  exact gL_none _
theorem g_m_X5_keep {Kd : Nat → Nat} {np : Nat}  {r0 : Nat} {S : fm_M}  (hr0 : gR Kd np r0) (hS : cl Kd np S) : gL (pS Kd np) (m_X5_keep (kC Kd) lC r0 S) (m_X5_keep (kF Kd np) lC r0 S) := by
  unfold m_X5_keep
  refine gL_gi (by assumption) (fun _ => ?_)
  refine gL_pi (by assumption) (by assumption) (fun _ _ => ?_)
  refine gL_gi (by assumption) (fun _ => ?_)
  refine gL_pi (by assumption) (by assumption) (fun _ _ => ?_)
  refine gL_gi (by assumption) (fun _ => ?_)
  refine gL_pz (by assumption) (by assumption) (fun _ _ => ?_)
  exact gL_someS (by assumption)
theorem g_m_X9_keep {Kd : Nat → Nat} {np : Nat}  {r0 : Nat} {S : fm_M}  (hr0 : gR Kd np r0) (hS : cl Kd np S) : gL (pS Kd np) (m_X9_keep (kC Kd) lC r0 S) (m_X9_keep (kF Kd np) lC r0 S) := by
  unfold m_X9_keep
  refine gL_ckC (by assumption) ?_
  refine gL_b1S (g_m_X5_keep (by assumption) (by assumption)) (fun _ _ => ?_)
  refine gL_gr (by decide) ok_9_10 (by assumption) (by assumption) (fun _ _ => ?_)
  refine gL_gr (by decide) ok_9_11 (by assumption) (by assumption) (fun _ _ => ?_)
  refine gL_gr (by decide) ok_9_10 (by assumption) (by assumption) (fun _ _ => ?_)
  refine gL_ln (by assumption) (fun _ => ?_)
  refine gL_cp (by assumption) (by assumption) (by assumption) (fun _ _ => ?_)
  exact gL_someS (by assumption)
theorem g_v_keep {Kd : Nat → Nat} {np : Nat}  {r0 : Nat} {S : fm_M}  (hr0 : gR Kd np r0) (hS : cl Kd np S) : gL (pS Kd np) (v_keep (kC Kd) lC r0 S) (v_keep (kF Kd np) lC r0 S) := by
  unfold v_keep
  rw [kF_g hr0]
  refine gL_ite (fun _ => g_m_X5_keep (by assumption) (by assumption)) (fun _ => ?_)
  refine gL_ite (fun _ => g_m_X5_keep (by assumption) (by assumption)) (fun _ => ?_)
  refine gL_ite (fun _ => g_m_X5_keep (by assumption) (by assumption)) (fun _ => ?_)
  refine gL_ite (fun _ => g_m_X5_keep (by assumption) (by assumption)) (fun _ => ?_)
  refine gL_ite (fun _ => g_m_X5_keep (by assumption) (by assumption)) (fun _ => ?_)
  refine gL_ite (fun _ => g_m_X5_keep (by assumption) (by assumption)) (fun _ => ?_)
  refine gL_ite (fun _ => g_m_X9_keep (by assumption) (by assumption)) (fun _ => ?_)
  exact gL_none _
theorem g_m_X5_takeBack {Kd : Nat → Nat} {np : Nat}  {r0 : Nat} {S : fm_M}  (hr0 : gR Kd np r0) (hS : cl Kd np S) : gL (pS Kd np) (m_X5_takeBack (kC Kd) lC r0 S) (m_X5_takeBack (kF Kd np) lC r0 S) := by
  unfold m_X5_takeBack
  refine gL_gi (by assumption) (fun _ => ?_)
  refine gL_pi (by assumption) (by assumption) (fun _ _ => ?_)
  refine gL_gi (by assumption) (fun _ => ?_)
  refine gL_pi (by assumption) (by assumption) (fun _ _ => ?_)
  refine gL_gi (by assumption) (fun _ => ?_)
  refine gL_pz (by assumption) (by assumption) (fun _ _ => ?_)
  exact gL_someS (by assumption)
theorem g_m_X9_takeBack {Kd : Nat → Nat} {np : Nat}  {r0 : Nat} {S : fm_M}  (hr0 : gR Kd np r0) (hS : cl Kd np S) : gL (pS Kd np) (m_X9_takeBack (kC Kd) lC r0 S) (m_X9_takeBack (kF Kd np) lC r0 S) := by
  unfold m_X9_takeBack
  refine gL_ckC (by assumption) ?_
  refine gL_b1S (g_m_X5_takeBack (by assumption) (by assumption)) (fun _ _ => ?_)
  refine gL_gr (by decide) ok_9_11 (by assumption) (by assumption) (fun _ _ => ?_)
  refine gL_gr (by decide) ok_9_10 (by assumption) (by assumption) (fun _ _ => ?_)
  refine gL_gr (by decide) ok_9_10 (by assumption) (by assumption) (fun _ _ => ?_)
  refine gL_ln (by assumption) (fun _ => ?_)
  refine gL_cp (by assumption) (by assumption) (by assumption) (fun _ _ => ?_)
  exact gL_someS (by assumption)
theorem g_v_takeBack {Kd : Nat → Nat} {np : Nat}  {r0 : Nat} {S : fm_M}  (hr0 : gR Kd np r0) (hS : cl Kd np S) : gL (pS Kd np) (v_takeBack (kC Kd) lC r0 S) (v_takeBack (kF Kd np) lC r0 S) := by
  unfold v_takeBack
  rw [kF_g hr0]
  refine gL_ite (fun _ => g_m_X5_takeBack (by assumption) (by assumption)) (fun _ => ?_)
  refine gL_ite (fun _ => g_m_X5_takeBack (by assumption) (by assumption)) (fun _ => ?_)
  refine gL_ite (fun _ => g_m_X5_takeBack (by assumption) (by assumption)) (fun _ => ?_)
  refine gL_ite (fun _ => g_m_X5_takeBack (by assumption) (by assumption)) (fun _ => ?_)
  refine gL_ite (fun _ => g_m_X5_takeBack (by assumption) (by assumption)) (fun _ => ?_)
  refine gL_ite (fun _ => g_m_X5_takeBack (by assumption) (by assumption)) (fun _ => ?_)
  refine gL_ite (fun _ => g_m_X9_takeBack (by assumption) (by assumption)) (fun _ => ?_)
  exact gL_none _
theorem g_m_X9_change {Kd : Nat → Nat} {np : Nat}  {r0 : Nat} {a1 : Int32} {a2 : Int32} {S : fm_M}  (hr0 : gR Kd np r0) (hS : cl Kd np S) : gL (pIS Kd np) (m_X9_change (kC Kd) lC r0 a1 a2 S) (m_X9_change (kF Kd np) lC r0 a1 a2 S) := by
  unfold m_X9_change
  refine gL_gr (by decide) ok_9_10 (by assumption) (by assumption) (fun _ _ => ?_)
  refine gL_ld (by assumption) (fun _ => ?_)
  refine gL_gr (by decide) ok_9_10 (by assumption) (by assumption) (fun _ _ => ?_)
  refine gL_st (by assumption) (by assumption) (fun _ _ => ?_)
  exact gL_someIS (by assumption)
