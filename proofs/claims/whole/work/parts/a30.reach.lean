/-! the class's models and what can be reached (wip/whole/tool/reach.py prints this) -/
theorem g_m_X6_take {Kd : Nat → Nat} {np : Nat}  {r0 : Nat} {a1 : Int32} {S : fm_M}  (hr0 : gR Kd np r0) (hS : cl Kd np S) : gL (pIS Kd np) (m_X6_take (kC Kd) lC r0 a1 S) (m_X6_take (kF Kd np) lC r0 a1 S) := by
  unfold m_X6_take
  refine gL_gr (by decide) ok_6_0 (by assumption) (by assumption) (fun _ _ => ?_)
  refine gL_gi (by assumption) (fun _ => ?_)
  refine gL_ld (by assumption) (fun _ => ?_)
  refine gL_ite (fun _ => ?_) (fun _ => ?_)
  · refine gL_gi (by assumption) (fun _ => ?_)
    refine gL_pi (by assumption) (by assumption) (fun _ _ => ?_)
    exact gL_z (gL_someIS (by assumption))
  · exact gL_z (gL_someIS (by assumption))
theorem g_m_X6_number {Kd : Nat → Nat} {np : Nat}  {r0 : Nat} {S : fm_M}  (hr0 : gR Kd np r0) (hS : cl Kd np S) : gL (pIS Kd np) (m_X6_number (kC Kd) lC r0 S) (m_X6_number (kF Kd np) lC r0 S) := by
  unfold m_X6_number
  refine gL_gr (by decide) ok_6_0 (by assumption) (by assumption) (fun _ _ => ?_)
  refine gL_gi (by assumption) (fun _ => ?_)
  refine gL_ld (by assumption) (fun _ => ?_)
  refine gL_let ?_
  refine gL_ite (fun _ => ?_) (fun _ => ?_)
  · exact gL_z (gL_someIS (by assumption))
  · refine gL_ite (fun _ => ?_) (fun _ => ?_)
    · refine gL_pi (by assumption) (by assumption) (fun _ _ => ?_)
      refine gL_gi (by assumption) (fun _ => ?_)
      refine gL_pi (by assumption) (by assumption) (fun _ _ => ?_)
      refine gL_gr (by decide) ok_6_0 (by assumption) (by assumption) (fun _ _ => ?_)
      refine gL_gi (by assumption) (fun _ => ?_)
      refine gL_ld (by assumption) (fun _ => ?_)
      refine gL_let ?_
      refine gL_ite (fun _ => ?_) (fun _ => ?_)
      · exact gL_z (gL_someIS (by assumption))
      · refine gL_ite (fun _ => ?_) (fun _ => ?_)
        · exact gL_z (gL_someIS (by assumption))
        · refine gL_ite (fun _ => ?_) (fun _ => ?_)
          · exact gL_z (gL_someIS (by assumption))
          · refine gL_pi (by assumption) (by assumption) (fun _ _ => ?_)
            refine gL_gi (by assumption) (fun _ => ?_)
            refine gL_pi (by assumption) (by assumption) (fun _ _ => ?_)
            exact gL_z (gL_someIS (by assumption))
    · exact gL_z (gL_someIS (by assumption))
theorem g_k_X6_valuesSo_4 {Kd : Nat → Nat} {np : Nat} {go4 go41 : Int32 → Int32 → Int32 → Int32 → Option Int32} {go58 go581 : Int32 → Int32 → Int32 → Int32 → Int32 → Option Int32} {S : fm_M} {a0 : Int32} {a1 : Int32} {a2 : Int32} {a3 : Int32} (hgo4 : ∀ (x0 : Int32) (x1 : Int32) (x2 : Int32) (x3 : Int32), gL pT (go4 x0 x1 x2 x3) (go41 x0 x1 x2 x3)) (hgo58 : ∀ (x0 : Int32) (x1 : Int32) (x2 : Int32) (x3 : Int32) (x4 : Int32), gL pT (go58 x0 x1 x2 x3 x4) (go581 x0 x1 x2 x3 x4)) (hS : cl Kd np S) : gL pT (k_X6_valuesSo_4 (kC Kd) lC S go4 go58 a0 a1 a2 a3) (k_X6_valuesSo_4 (kF Kd np) lC S go41 go581 a0 a1 a2 a3) := by
  unfold k_X6_valuesSo_4
  refine gL_ite (fun _ => ?_) (fun _ => ?_)
  · exact gL_someI _
  · refine gL_ite (fun _ => ?_) (fun _ => ?_)
    · refine gL_ite (fun _ => ?_) (fun _ => ?_)
      · exact hgo58 _ _ _ _ _
      · exact hgo58 _ _ _ _ _
    · refine gL_ite (fun _ => ?_) (fun _ => ?_)
      · refine gL_ite (fun _ => ?_) (fun _ => ?_)
        · exact hgo58 _ _ _ _ _
        · exact hgo58 _ _ _ _ _
      · refine gL_ite (fun _ => ?_) (fun _ => ?_)
        · exact hgo58 _ _ _ _ _
        · exact hgo58 _ _ _ _ _
theorem g_k_X6_valuesSo_58 {Kd : Nat → Nat} {np : Nat} {go4 go41 : Int32 → Int32 → Int32 → Int32 → Option Int32} {go58 go581 : Int32 → Int32 → Int32 → Int32 → Int32 → Option Int32} {S : fm_M} {a0 : Int32} {a1 : Int32} {a2 : Int32} {a3 : Int32} {ak0 : Int32} (hgo4 : ∀ (x0 : Int32) (x1 : Int32) (x2 : Int32) (x3 : Int32), gL pT (go4 x0 x1 x2 x3) (go41 x0 x1 x2 x3)) (hgo58 : ∀ (x0 : Int32) (x1 : Int32) (x2 : Int32) (x3 : Int32) (x4 : Int32), gL pT (go58 x0 x1 x2 x3 x4) (go581 x0 x1 x2 x3 x4)) (hS : cl Kd np S) : gL pT (k_X6_valuesSo_58 (kC Kd) lC S go4 go58 a0 a1 a2 a3 ak0) (k_X6_valuesSo_58 (kF Kd np) lC S go41 go581 a0 a1 a2 a3 ak0) := by
  unfold k_X6_valuesSo_58
  refine gL_ite (fun _ => ?_) (fun _ => ?_)
  · refine gL_let ?_
    refine gL_let ?_
    exact hgo4 _ _ _ _
  · refine gL_let ?_
    refine gL_let ?_
    exact hgo4 _ _ _ _
theorem g_bs_X6_valuesSo {Kd : Nat → Nat} {np : Nat} {S : fm_M} (hS : cl Kd np S) : ∀ n : Nat, (∀ {y0 : Int32} {y1 : Int32} {y2 : Int32} {y3 : Int32}, gL pT (b_X6_valuesSo_4 (kC Kd) lC S n y0 y1 y2 y3) (b_X6_valuesSo_4 (kF Kd np) lC S n y0 y1 y2 y3)) ∧ (∀ {y0 : Int32} {y1 : Int32} {y2 : Int32} {y3 : Int32} {y4 : Int32}, gL pT (b_X6_valuesSo_58 (kC Kd) lC S n y0 y1 y2 y3 y4) (b_X6_valuesSo_58 (kF Kd np) lC S n y0 y1 y2 y3 y4)) := by
  intro n
  induction n with
  | zero => exact ⟨gL_none _, gL_none _⟩
  | succ n ih =>
    refine ⟨?_, ?_⟩
    · intro y0 y1 y2 y3
      exact g_k_X6_valuesSo_4 (Kd := Kd) (go4 := b_X6_valuesSo_4 (kC Kd) lC S n) (go41 := b_X6_valuesSo_4 (kF Kd np) lC S n) (go58 := b_X6_valuesSo_58 (kC Kd) lC S n) (go581 := b_X6_valuesSo_58 (kF Kd np) lC S n) (fun _ _ _ _ => ih.1 ) (fun _ _ _ _ _ => ih.2 ) hS
    · intro y0 y1 y2 y3 y4
      exact g_k_X6_valuesSo_58 (Kd := Kd) (go4 := b_X6_valuesSo_4 (kC Kd) lC S n) (go41 := b_X6_valuesSo_4 (kF Kd np) lC S n) (go58 := b_X6_valuesSo_58 (kC Kd) lC S n) (go581 := b_X6_valuesSo_58 (kF Kd np) lC S n) (fun _ _ _ _ => ih.1 ) (fun _ _ _ _ _ => ih.2 ) hS
theorem g_b_X6_valuesSo_4 {Kd : Nat → Nat} {np : Nat} {S : fm_M} (hS : cl Kd np S) (n : Nat) {y0 : Int32} {y1 : Int32} {y2 : Int32} {y3 : Int32}  : gL pT (b_X6_valuesSo_4 (kC Kd) lC S n y0 y1 y2 y3) (b_X6_valuesSo_4 (kF Kd np) lC S n y0 y1 y2 y3) := (g_bs_X6_valuesSo hS n).1 
theorem g_b_X6_valuesSo_58 {Kd : Nat → Nat} {np : Nat} {S : fm_M} (hS : cl Kd np S) (n : Nat) {y0 : Int32} {y1 : Int32} {y2 : Int32} {y3 : Int32} {y4 : Int32}  : gL pT (b_X6_valuesSo_58 (kC Kd) lC S n y0 y1 y2 y3 y4) (b_X6_valuesSo_58 (kF Kd np) lC S n y0 y1 y2 y3 y4) := (g_bs_X6_valuesSo hS n).2 
theorem g_m_X6_valuesSo {Kd : Nat → Nat} {np : Nat}  {a0 : Int32} {a1 : Int32} {S : fm_M}  (hS : cl Kd np S) : gL pT (m_X6_valuesSo (kC Kd) lC a0 a1 S) (m_X6_valuesSo (kF Kd np) lC a0 a1 S) := by
  unfold m_X6_valuesSo
  refine gL_let ?_
  refine gL_let ?_
  exact g_b_X6_valuesSo_4 (by assumption) _
theorem g_k_X6_test_48 {Kd : Nat → Nat} {np : Nat} {go48 go481 : Nat → Int32 → fm_M → Option (Int32 × fm_M)} {r0 : Nat} {a1 : Int32} {S : fm_M} (hgo48 : ∀ (x0 : Nat) (x1 : Int32) (x2 : fm_M), gR Kd np x0 → cl Kd np x2 → gL (pIS Kd np) (go48 x0 x1 x2) (go481 x0 x1 x2)) (hr0 : gR Kd np r0) (hS : cl Kd np S) : gL (pIS Kd np) (k_X6_test_48 (kC Kd) lC go48 r0 a1 S) (k_X6_test_48 (kF Kd np) lC go481 r0 a1 S) := by
  unfold k_X6_test_48
  refine gL_gi (by assumption) (fun _ => ?_)
  refine gL_pi (by assumption) (by assumption) (fun _ _ => ?_)
  refine gL_gr (by decide) ok_6_0 (by assumption) (by assumption) (fun _ _ => ?_)
  refine gL_gi (by assumption) (fun _ => ?_)
  refine gL_ld (by assumption) (fun _ => ?_)
  refine gL_ite (fun _ => ?_) (fun _ => ?_)
  · refine gL_gi (by assumption) (fun _ => ?_)
    refine gL_pi (by assumption) (by assumption) (fun _ _ => ?_)
    refine gL_ck (by assumption) ?_
    refine gL_biI (g_m_X6_number (by assumption) (by assumption)) (fun _ _ _ => ?_)
    refine gL_gr (by decide) ok_6_1 (by assumption) (by assumption) (fun _ _ => ?_)
    refine gL_gi (by assumption) (fun _ => ?_)
    refine gL_b1I (g_m_X6_valuesSo (by assumption)) (fun _ => ?_)
    refine gL_ck (by assumption) ?_
    refine gL_b1S (g_m_X10_addSign (by assumption) (by assumption)) (fun _ _ => ?_)
    exact gL_z (gL_someIS (by assumption))
  · refine gL_ite (fun _ => ?_) (fun _ => ?_)
    · refine gL_gi (by assumption) (fun _ => ?_)
      refine gL_pi (by assumption) (by assumption) (fun _ _ => ?_)
      refine gL_ck (by assumption) ?_
      refine gL_biI (g_m_X6_number (by assumption) (by assumption)) (fun _ _ _ => ?_)
      refine gL_gr (by decide) ok_6_1 (by assumption) (by assumption) (fun _ _ => ?_)
      refine gL_gi (by assumption) (fun _ => ?_)
      refine gL_b1I (g_m_X6_valuesSo (by assumption)) (fun _ => ?_)
      refine gL_ck (by assumption) ?_
      refine gL_b1S (g_m_X10_addSign (by assumption) (by assumption)) (fun _ _ => ?_)
      exact gL_z (gL_someIS (by assumption))
    · refine gL_ite (fun _ => ?_) (fun _ => ?_)
      · refine gL_gi (by assumption) (fun _ => ?_)
        refine gL_pi (by assumption) (by assumption) (fun _ _ => ?_)
        refine gL_ck (by assumption) ?_
        refine gL_biI (g_m_X6_number (by assumption) (by assumption)) (fun _ _ _ => ?_)
        refine gL_gr (by decide) ok_6_1 (by assumption) (by assumption) (fun _ _ => ?_)
        refine gL_gi (by assumption) (fun _ => ?_)
        refine gL_b1I (g_m_X6_valuesSo (by assumption)) (fun _ => ?_)
        refine gL_ck (by assumption) ?_
        refine gL_b1S (g_m_X10_addSign (by assumption) (by assumption)) (fun _ _ => ?_)
        exact gL_z (gL_someIS (by assumption))
      · exact gL_z (gL_someIS (by assumption))
theorem g_b_X6_test_48 {Kd : Nat → Nat} {np : Nat}     : ∀ (n : Nat) {y0 : Nat} {y1 : Int32} {y2 : fm_M}, gR Kd np y0 → cl Kd np y2 → gL (pIS Kd np) (b_X6_test_48 (kC Kd) lC  n y0 y1 y2) (b_X6_test_48 (kF Kd np) lC  n y0 y1 y2) := by
  intro n
  induction n with
  | zero =>
    intro y0 y1 y2 hy0 hy2
    exact gL_none _
  | succ n ih =>
    intro y0 y1 y2 hy0 hy2
    exact g_k_X6_test_48 (Kd := Kd) (go48 := b_X6_test_48 (kC Kd) lC  n) (go481 := b_X6_test_48 (kF Kd np) lC  n) (fun _ _ _ k0 k1 => ih k0 k1) hy0 hy2
theorem g_m_X6_test {Kd : Nat → Nat} {np : Nat}  {r0 : Nat} {S : fm_M}  (hr0 : gR Kd np r0) (hS : cl Kd np S) : gL (pIS Kd np) (m_X6_test (kC Kd) lC r0 S) (m_X6_test (kF Kd np) lC r0 S) := by
  unfold m_X6_test
  refine gL_gr (by decide) ok_6_0 (by assumption) (by assumption) (fun _ _ => ?_)
  refine gL_gi (by assumption) (fun _ => ?_)
  refine gL_ld (by assumption) (fun _ => ?_)
  refine gL_ite (fun _ => ?_) (fun _ => ?_)
  · exact g_b_X6_test_48 _ (by assumption) (by assumption)
  · refine gL_ite (fun _ => ?_) (fun _ => ?_)
    · exact g_b_X6_test_48 _ (by assumption) (by assumption)
    · refine gL_ite (fun _ => ?_) (fun _ => ?_)
      · exact g_b_X6_test_48 _ (by assumption) (by assumption)
      · refine gL_ite (fun _ => ?_) (fun _ => ?_)
        · exact g_b_X6_test_48 _ (by assumption) (by assumption)
        · refine gL_ite (fun _ => ?_) (fun _ => ?_)
          · exact g_b_X6_test_48 _ (by assumption) (by assumption)
          · refine gL_ite (fun _ => ?_) (fun _ => ?_)
            · exact g_b_X6_test_48 _ (by assumption) (by assumption)
            · exact gL_z (gL_someIS (by assumption))
theorem g_k_X6_either_8 {Kd : Nat → Nat} {np : Nat} {go_X6_either go_X6_either1 : Nat → Int32 → fm_M → Option (Int32 × fm_M)} {go_X6_both go_X6_both1 : Nat → Int32 → fm_M → Option (Int32 × fm_M)} {go_X6_part go_X6_part1 : Nat → Int32 → fm_M → Option (Int32 × fm_M)} {go8 go81 : Nat → Int32 → Int32 → Int32 → fm_M → Option (Int32 × fm_M)} {r0 : Nat} {a1 : Int32} {a2 : Int32} {a3 : Int32} {S : fm_M} (hgo_X6_either : ∀ (x0 : Nat) (x1 : Int32) (x2 : fm_M), gR Kd np x0 → cl Kd np x2 → gL (pIS Kd np) (go_X6_either x0 x1 x2) (go_X6_either1 x0 x1 x2)) (hgo_X6_both : ∀ (x0 : Nat) (x1 : Int32) (x2 : fm_M), gR Kd np x0 → cl Kd np x2 → gL (pIS Kd np) (go_X6_both x0 x1 x2) (go_X6_both1 x0 x1 x2)) (hgo_X6_part : ∀ (x0 : Nat) (x1 : Int32) (x2 : fm_M), gR Kd np x0 → cl Kd np x2 → gL (pIS Kd np) (go_X6_part x0 x1 x2) (go_X6_part1 x0 x1 x2)) (hgo8 : ∀ (x0 : Nat) (x1 : Int32) (x2 : Int32) (x3 : Int32) (x4 : fm_M), gR Kd np x0 → cl Kd np x4 → gL (pIS Kd np) (go8 x0 x1 x2 x3 x4) (go81 x0 x1 x2 x3 x4)) (hr0 : gR Kd np r0) (hS : cl Kd np S) : gL (pIS Kd np) (k_X6_either_8 (kC Kd) lC go_X6_either go_X6_both go_X6_part go8 r0 a1 a2 a3 S) (k_X6_either_8 (kF Kd np) lC go_X6_either1 go_X6_both1 go_X6_part1 go81 r0 a1 a2 a3 S) := by
  unfold k_X6_either_8
  refine gL_ite (fun _ => ?_) (fun _ => ?_)
  · exact gL_z (gL_someIS (by assumption))
  · refine gL_ite (fun _ => ?_) (fun _ => ?_)
    · exact gL_z (gL_someIS (by assumption))
    · refine gL_ck (by assumption) ?_
      refine gL_biI (g_m_X6_take (by assumption) (by assumption)) (fun _ _ _ => ?_)
      refine gL_ite (fun _ => ?_) (fun _ => ?_)
      · exact gL_z (gL_someIS (by assumption))
      · refine gL_ck (by assumption) ?_
        refine gL_biI (hgo_X6_both _ _ _ (by assumption) (by assumption)) (fun _ _ _ => ?_)
        refine gL_gr (by decide) ok_6_1 (by assumption) (by assumption) (fun _ _ => ?_)
        refine gL_ck (by assumption) ?_
        refine gL_b1S (g_m_X10_addSign (by assumption) (by assumption)) (fun _ _ => ?_)
        refine gL_let ?_
        exact hgo8 _ _ _ _ _ (by assumption) (by assumption)
theorem g_b_X6_either_8 {Kd : Nat → Nat} {np : Nat} {go_X6_either go_X6_either1 : Nat → Int32 → fm_M → Option (Int32 × fm_M)} {go_X6_both go_X6_both1 : Nat → Int32 → fm_M → Option (Int32 × fm_M)} {go_X6_part go_X6_part1 : Nat → Int32 → fm_M → Option (Int32 × fm_M)}  (hgo_X6_either : ∀ (x0 : Nat) (x1 : Int32) (x2 : fm_M), gR Kd np x0 → cl Kd np x2 → gL (pIS Kd np) (go_X6_either x0 x1 x2) (go_X6_either1 x0 x1 x2)) (hgo_X6_both : ∀ (x0 : Nat) (x1 : Int32) (x2 : fm_M), gR Kd np x0 → cl Kd np x2 → gL (pIS Kd np) (go_X6_both x0 x1 x2) (go_X6_both1 x0 x1 x2)) (hgo_X6_part : ∀ (x0 : Nat) (x1 : Int32) (x2 : fm_M), gR Kd np x0 → cl Kd np x2 → gL (pIS Kd np) (go_X6_part x0 x1 x2) (go_X6_part1 x0 x1 x2))  : ∀ (n : Nat) {y0 : Nat} {y1 : Int32} {y2 : Int32} {y3 : Int32} {y4 : fm_M}, gR Kd np y0 → cl Kd np y4 → gL (pIS Kd np) (b_X6_either_8 (kC Kd) lC go_X6_either go_X6_both go_X6_part n y0 y1 y2 y3 y4) (b_X6_either_8 (kF Kd np) lC go_X6_either1 go_X6_both1 go_X6_part1 n y0 y1 y2 y3 y4) := by
  intro n
  induction n with
  | zero =>
    intro y0 y1 y2 y3 y4 hy0 hy4
    exact gL_none _
  | succ n ih =>
    intro y0 y1 y2 y3 y4 hy0 hy4
    exact g_k_X6_either_8 (Kd := Kd) (go8 := b_X6_either_8 (kC Kd) lC go_X6_either go_X6_both go_X6_part n) (go81 := b_X6_either_8 (kF Kd np) lC go_X6_either1 go_X6_both1 go_X6_part1 n) hgo_X6_either hgo_X6_both hgo_X6_part (fun _ _ _ _ _ k0 k1 => ih k0 k1) hy0 hy4
theorem g_s_X6_either {Kd : Nat → Nat} {np : Nat} {go_X6_either go_X6_either1 : Nat → Int32 → fm_M → Option (Int32 × fm_M)} {go_X6_both go_X6_both1 : Nat → Int32 → fm_M → Option (Int32 × fm_M)} {go_X6_part go_X6_part1 : Nat → Int32 → fm_M → Option (Int32 × fm_M)} {r0 : Nat} {a1 : Int32} {S : fm_M} (hgo_X6_either : ∀ (x0 : Nat) (x1 : Int32) (x2 : fm_M), gR Kd np x0 → cl Kd np x2 → gL (pIS Kd np) (go_X6_either x0 x1 x2) (go_X6_either1 x0 x1 x2)) (hgo_X6_both : ∀ (x0 : Nat) (x1 : Int32) (x2 : fm_M), gR Kd np x0 → cl Kd np x2 → gL (pIS Kd np) (go_X6_both x0 x1 x2) (go_X6_both1 x0 x1 x2)) (hgo_X6_part : ∀ (x0 : Nat) (x1 : Int32) (x2 : fm_M), gR Kd np x0 → cl Kd np x2 → gL (pIS Kd np) (go_X6_part x0 x1 x2) (go_X6_part1 x0 x1 x2)) (hr0 : gR Kd np r0) (hS : cl Kd np S) : gL (pIS Kd np) (s_X6_either (kC Kd) lC go_X6_either go_X6_both go_X6_part r0 a1 S) (s_X6_either (kF Kd np) lC go_X6_either1 go_X6_both1 go_X6_part1 r0 a1 S) := by
  unfold s_X6_either
  refine gL_ck (by assumption) ?_
  refine gL_biI (hgo_X6_both _ _ _ (by assumption) (by assumption)) (fun _ _ _ => ?_)
  refine gL_let ?_
  exact g_b_X6_either_8 hgo_X6_either hgo_X6_both hgo_X6_part _ (by assumption) (by assumption)
theorem g_k_X6_both_8 {Kd : Nat → Nat} {np : Nat} {go_X6_either go_X6_either1 : Nat → Int32 → fm_M → Option (Int32 × fm_M)} {go_X6_both go_X6_both1 : Nat → Int32 → fm_M → Option (Int32 × fm_M)} {go_X6_part go_X6_part1 : Nat → Int32 → fm_M → Option (Int32 × fm_M)} {go8 go81 : Nat → Int32 → Int32 → Int32 → fm_M → Option (Int32 × fm_M)} {r0 : Nat} {a1 : Int32} {a2 : Int32} {a3 : Int32} {S : fm_M} (hgo_X6_either : ∀ (x0 : Nat) (x1 : Int32) (x2 : fm_M), gR Kd np x0 → cl Kd np x2 → gL (pIS Kd np) (go_X6_either x0 x1 x2) (go_X6_either1 x0 x1 x2)) (hgo_X6_both : ∀ (x0 : Nat) (x1 : Int32) (x2 : fm_M), gR Kd np x0 → cl Kd np x2 → gL (pIS Kd np) (go_X6_both x0 x1 x2) (go_X6_both1 x0 x1 x2)) (hgo_X6_part : ∀ (x0 : Nat) (x1 : Int32) (x2 : fm_M), gR Kd np x0 → cl Kd np x2 → gL (pIS Kd np) (go_X6_part x0 x1 x2) (go_X6_part1 x0 x1 x2)) (hgo8 : ∀ (x0 : Nat) (x1 : Int32) (x2 : Int32) (x3 : Int32) (x4 : fm_M), gR Kd np x0 → cl Kd np x4 → gL (pIS Kd np) (go8 x0 x1 x2 x3 x4) (go81 x0 x1 x2 x3 x4)) (hr0 : gR Kd np r0) (hS : cl Kd np S) : gL (pIS Kd np) (k_X6_both_8 (kC Kd) lC go_X6_either go_X6_both go_X6_part go8 r0 a1 a2 a3 S) (k_X6_both_8 (kF Kd np) lC go_X6_either1 go_X6_both1 go_X6_part1 go81 r0 a1 a2 a3 S) := by
  unfold k_X6_both_8
  refine gL_ite (fun _ => ?_) (fun _ => ?_)
  · exact gL_z (gL_someIS (by assumption))
  · refine gL_ite (fun _ => ?_) (fun _ => ?_)
    · exact gL_z (gL_someIS (by assumption))
    · refine gL_ck (by assumption) ?_
      refine gL_biI (g_m_X6_take (by assumption) (by assumption)) (fun _ _ _ => ?_)
      refine gL_ite (fun _ => ?_) (fun _ => ?_)
      · exact gL_z (gL_someIS (by assumption))
      · refine gL_ck (by assumption) ?_
        refine gL_biI (hgo_X6_part _ _ _ (by assumption) (by assumption)) (fun _ _ _ => ?_)
        refine gL_gr (by decide) ok_6_1 (by assumption) (by assumption) (fun _ _ => ?_)
        refine gL_ck (by assumption) ?_
        refine gL_b1S (g_m_X10_addSign (by assumption) (by assumption)) (fun _ _ => ?_)
        refine gL_let ?_
        exact hgo8 _ _ _ _ _ (by assumption) (by assumption)
theorem g_b_X6_both_8 {Kd : Nat → Nat} {np : Nat} {go_X6_either go_X6_either1 : Nat → Int32 → fm_M → Option (Int32 × fm_M)} {go_X6_both go_X6_both1 : Nat → Int32 → fm_M → Option (Int32 × fm_M)} {go_X6_part go_X6_part1 : Nat → Int32 → fm_M → Option (Int32 × fm_M)}  (hgo_X6_either : ∀ (x0 : Nat) (x1 : Int32) (x2 : fm_M), gR Kd np x0 → cl Kd np x2 → gL (pIS Kd np) (go_X6_either x0 x1 x2) (go_X6_either1 x0 x1 x2)) (hgo_X6_both : ∀ (x0 : Nat) (x1 : Int32) (x2 : fm_M), gR Kd np x0 → cl Kd np x2 → gL (pIS Kd np) (go_X6_both x0 x1 x2) (go_X6_both1 x0 x1 x2)) (hgo_X6_part : ∀ (x0 : Nat) (x1 : Int32) (x2 : fm_M), gR Kd np x0 → cl Kd np x2 → gL (pIS Kd np) (go_X6_part x0 x1 x2) (go_X6_part1 x0 x1 x2))  : ∀ (n : Nat) {y0 : Nat} {y1 : Int32} {y2 : Int32} {y3 : Int32} {y4 : fm_M}, gR Kd np y0 → cl Kd np y4 → gL (pIS Kd np) (b_X6_both_8 (kC Kd) lC go_X6_either go_X6_both go_X6_part n y0 y1 y2 y3 y4) (b_X6_both_8 (kF Kd np) lC go_X6_either1 go_X6_both1 go_X6_part1 n y0 y1 y2 y3 y4) := by
  intro n
  induction n with
  | zero =>
    intro y0 y1 y2 y3 y4 hy0 hy4
    exact gL_none _
  | succ n ih =>
    intro y0 y1 y2 y3 y4 hy0 hy4
    exact g_k_X6_both_8 (Kd := Kd) (go8 := b_X6_both_8 (kC Kd) lC go_X6_either go_X6_both go_X6_part n) (go81 := b_X6_both_8 (kF Kd np) lC go_X6_either1 go_X6_both1 go_X6_part1 n) hgo_X6_either hgo_X6_both hgo_X6_part (fun _ _ _ _ _ k0 k1 => ih k0 k1) hy0 hy4
theorem g_s_X6_both {Kd : Nat → Nat} {np : Nat} {go_X6_either go_X6_either1 : Nat → Int32 → fm_M → Option (Int32 × fm_M)} {go_X6_both go_X6_both1 : Nat → Int32 → fm_M → Option (Int32 × fm_M)} {go_X6_part go_X6_part1 : Nat → Int32 → fm_M → Option (Int32 × fm_M)} {r0 : Nat} {a1 : Int32} {S : fm_M} (hgo_X6_either : ∀ (x0 : Nat) (x1 : Int32) (x2 : fm_M), gR Kd np x0 → cl Kd np x2 → gL (pIS Kd np) (go_X6_either x0 x1 x2) (go_X6_either1 x0 x1 x2)) (hgo_X6_both : ∀ (x0 : Nat) (x1 : Int32) (x2 : fm_M), gR Kd np x0 → cl Kd np x2 → gL (pIS Kd np) (go_X6_both x0 x1 x2) (go_X6_both1 x0 x1 x2)) (hgo_X6_part : ∀ (x0 : Nat) (x1 : Int32) (x2 : fm_M), gR Kd np x0 → cl Kd np x2 → gL (pIS Kd np) (go_X6_part x0 x1 x2) (go_X6_part1 x0 x1 x2)) (hr0 : gR Kd np r0) (hS : cl Kd np S) : gL (pIS Kd np) (s_X6_both (kC Kd) lC go_X6_either go_X6_both go_X6_part r0 a1 S) (s_X6_both (kF Kd np) lC go_X6_either1 go_X6_both1 go_X6_part1 r0 a1 S) := by
  unfold s_X6_both
  refine gL_ck (by assumption) ?_
  refine gL_biI (hgo_X6_part _ _ _ (by assumption) (by assumption)) (fun _ _ _ => ?_)
  refine gL_let ?_
  exact g_b_X6_both_8 hgo_X6_either hgo_X6_both hgo_X6_part _ (by assumption) (by assumption)
theorem g_k_X6_part_19 {Kd : Nat → Nat} {np : Nat} {go_X6_either go_X6_either1 : Nat → Int32 → fm_M → Option (Int32 × fm_M)} {go_X6_both go_X6_both1 : Nat → Int32 → fm_M → Option (Int32 × fm_M)} {go_X6_part go_X6_part1 : Nat → Int32 → fm_M → Option (Int32 × fm_M)} {go19 go191 : Nat → Int32 → Int32 → fm_M → Option (Int32 × fm_M)} {r0 : Nat} {a1 : Int32} {ak0 : Int32} {S : fm_M} (hgo_X6_either : ∀ (x0 : Nat) (x1 : Int32) (x2 : fm_M), gR Kd np x0 → cl Kd np x2 → gL (pIS Kd np) (go_X6_either x0 x1 x2) (go_X6_either1 x0 x1 x2)) (hgo_X6_both : ∀ (x0 : Nat) (x1 : Int32) (x2 : fm_M), gR Kd np x0 → cl Kd np x2 → gL (pIS Kd np) (go_X6_both x0 x1 x2) (go_X6_both1 x0 x1 x2)) (hgo_X6_part : ∀ (x0 : Nat) (x1 : Int32) (x2 : fm_M), gR Kd np x0 → cl Kd np x2 → gL (pIS Kd np) (go_X6_part x0 x1 x2) (go_X6_part1 x0 x1 x2)) (hgo19 : ∀ (x0 : Nat) (x1 : Int32) (x2 : Int32) (x3 : fm_M), gR Kd np x0 → cl Kd np x3 → gL (pIS Kd np) (go19 x0 x1 x2 x3) (go191 x0 x1 x2 x3)) (hr0 : gR Kd np r0) (hS : cl Kd np S) : gL (pIS Kd np) (k_X6_part_19 (kC Kd) lC go_X6_either go_X6_both go_X6_part go19 r0 a1 ak0 S) (k_X6_part_19 (kF Kd np) lC go_X6_either1 go_X6_both1 go_X6_part1 go191 r0 a1 ak0 S) := by
  unfold k_X6_part_19
  refine gL_ite (fun _ => ?_) (fun _ => ?_)
  · refine gL_gr (by decide) ok_6_0 (by assumption) (by assumption) (fun _ _ => ?_)
    refine gL_gi (by assumption) (fun _ => ?_)
    refine gL_ld (by assumption) (fun _ => ?_)
    refine gL_ite (fun _ => ?_) (fun _ => ?_)
    · refine gL_ite (fun _ => ?_) (fun _ => ?_)
      · refine gL_gi (by assumption) (fun _ => ?_)
        refine gL_pi (by assumption) (by assumption) (fun _ _ => ?_)
        refine gL_ite (fun _ => ?_) (fun _ => ?_)
        · refine gL_ck (by assumption) ?_
          refine gL_biI (hgo_X6_either _ _ _ (by assumption) (by assumption)) (fun _ _ _ => ?_)
          refine gL_ite (fun _ => ?_) (fun _ => ?_)
          · exact gL_z (gL_someIS (by assumption))
          · refine gL_ck (by assumption) ?_
            refine gL_biI (g_m_X6_take (by assumption) (by assumption)) (fun _ _ _ => ?_)
            refine gL_ite (fun _ => ?_) (fun _ => ?_)
            · exact gL_z (gL_someIS (by assumption))
            · exact gL_z (gL_someIS (by assumption))
        · refine gL_ck (by assumption) ?_
          refine gL_biI (hgo_X6_part _ _ _ (by assumption) (by assumption)) (fun _ _ _ => ?_)
          refine gL_gr (by decide) ok_6_1 (by assumption) (by assumption) (fun _ _ => ?_)
          refine gL_ck (by assumption) ?_
          refine gL_b1S (g_m_X10_addSign (by assumption) (by assumption)) (fun _ _ => ?_)
          exact gL_z (gL_someIS (by assumption))
      · exact gL_z (gL_someIS (by assumption))
    · refine gL_ck (by assumption) ?_
      refine gL_biI (g_m_X6_test (by assumption) (by assumption)) (fun _ _ _ => ?_)
      exact gL_z (gL_someIS (by assumption))
  · refine gL_ite (fun _ => ?_) (fun _ => ?_)
    · refine gL_gi (by assumption) (fun _ => ?_)
      refine gL_pi (by assumption) (by assumption) (fun _ _ => ?_)
      refine gL_ite (fun _ => ?_) (fun _ => ?_)
      · refine gL_ck (by assumption) ?_
        refine gL_biI (hgo_X6_either _ _ _ (by assumption) (by assumption)) (fun _ _ _ => ?_)
        refine gL_ite (fun _ => ?_) (fun _ => ?_)
        · exact gL_z (gL_someIS (by assumption))
        · refine gL_ck (by assumption) ?_
          refine gL_biI (g_m_X6_take (by assumption) (by assumption)) (fun _ _ _ => ?_)
          refine gL_ite (fun _ => ?_) (fun _ => ?_)
          · exact gL_z (gL_someIS (by assumption))
          · exact gL_z (gL_someIS (by assumption))
      · refine gL_ck (by assumption) ?_
        refine gL_biI (hgo_X6_part _ _ _ (by assumption) (by assumption)) (fun _ _ _ => ?_)
        refine gL_gr (by decide) ok_6_1 (by assumption) (by assumption) (fun _ _ => ?_)
        refine gL_ck (by assumption) ?_
        refine gL_b1S (g_m_X10_addSign (by assumption) (by assumption)) (fun _ _ => ?_)
        exact gL_z (gL_someIS (by assumption))
    · exact gL_z (gL_someIS (by assumption))
theorem g_b_X6_part_19 {Kd : Nat → Nat} {np : Nat} {go_X6_either go_X6_either1 : Nat → Int32 → fm_M → Option (Int32 × fm_M)} {go_X6_both go_X6_both1 : Nat → Int32 → fm_M → Option (Int32 × fm_M)} {go_X6_part go_X6_part1 : Nat → Int32 → fm_M → Option (Int32 × fm_M)}  (hgo_X6_either : ∀ (x0 : Nat) (x1 : Int32) (x2 : fm_M), gR Kd np x0 → cl Kd np x2 → gL (pIS Kd np) (go_X6_either x0 x1 x2) (go_X6_either1 x0 x1 x2)) (hgo_X6_both : ∀ (x0 : Nat) (x1 : Int32) (x2 : fm_M), gR Kd np x0 → cl Kd np x2 → gL (pIS Kd np) (go_X6_both x0 x1 x2) (go_X6_both1 x0 x1 x2)) (hgo_X6_part : ∀ (x0 : Nat) (x1 : Int32) (x2 : fm_M), gR Kd np x0 → cl Kd np x2 → gL (pIS Kd np) (go_X6_part x0 x1 x2) (go_X6_part1 x0 x1 x2))  : ∀ (n : Nat) {y0 : Nat} {y1 : Int32} {y2 : Int32} {y3 : fm_M}, gR Kd np y0 → cl Kd np y3 → gL (pIS Kd np) (b_X6_part_19 (kC Kd) lC go_X6_either go_X6_both go_X6_part n y0 y1 y2 y3) (b_X6_part_19 (kF Kd np) lC go_X6_either1 go_X6_both1 go_X6_part1 n y0 y1 y2 y3) := by
  intro n
  induction n with
  | zero =>
    intro y0 y1 y2 y3 hy0 hy3
    exact gL_none _
  | succ n ih =>
    intro y0 y1 y2 y3 hy0 hy3
    exact g_k_X6_part_19 (Kd := Kd) (go19 := b_X6_part_19 (kC Kd) lC go_X6_either go_X6_both go_X6_part n) (go191 := b_X6_part_19 (kF Kd np) lC go_X6_either1 go_X6_both1 go_X6_part1 n) hgo_X6_either hgo_X6_both hgo_X6_part (fun _ _ _ _ k0 k1 => ih k0 k1) hy0 hy3
theorem g_s_X6_part {Kd : Nat → Nat} {np : Nat} {go_X6_either go_X6_either1 : Nat → Int32 → fm_M → Option (Int32 × fm_M)} {go_X6_both go_X6_both1 : Nat → Int32 → fm_M → Option (Int32 × fm_M)} {go_X6_part go_X6_part1 : Nat → Int32 → fm_M → Option (Int32 × fm_M)} {r0 : Nat} {a1 : Int32} {S : fm_M} (hgo_X6_either : ∀ (x0 : Nat) (x1 : Int32) (x2 : fm_M), gR Kd np x0 → cl Kd np x2 → gL (pIS Kd np) (go_X6_either x0 x1 x2) (go_X6_either1 x0 x1 x2)) (hgo_X6_both : ∀ (x0 : Nat) (x1 : Int32) (x2 : fm_M), gR Kd np x0 → cl Kd np x2 → gL (pIS Kd np) (go_X6_both x0 x1 x2) (go_X6_both1 x0 x1 x2)) (hgo_X6_part : ∀ (x0 : Nat) (x1 : Int32) (x2 : fm_M), gR Kd np x0 → cl Kd np x2 → gL (pIS Kd np) (go_X6_part x0 x1 x2) (go_X6_part1 x0 x1 x2)) (hr0 : gR Kd np r0) (hS : cl Kd np S) : gL (pIS Kd np) (s_X6_part (kC Kd) lC go_X6_either go_X6_both go_X6_part r0 a1 S) (s_X6_part (kF Kd np) lC go_X6_either1 go_X6_both1 go_X6_part1 r0 a1 S) := by
  unfold s_X6_part
  refine gL_gr (by decide) ok_6_0 (by assumption) (by assumption) (fun _ _ => ?_)
  refine gL_gi (by assumption) (fun _ => ?_)
  refine gL_ld (by assumption) (fun _ => ?_)
  refine gL_ite (fun _ => ?_) (fun _ => ?_)
  · exact g_b_X6_part_19 hgo_X6_either hgo_X6_both hgo_X6_part _ (by assumption) (by assumption)
  · exact g_b_X6_part_19 hgo_X6_either hgo_X6_both hgo_X6_part _ (by assumption) (by assumption)
theorem g_grp_rd {Kd : Nat → Nat} {np : Nat} : ∀ n : Nat, (∀ {y0 : Nat} {y1 : Int32} {y2 : fm_M}, gR Kd np y0 → cl Kd np y2 → gL (pIS Kd np) ((grp_rd (kC Kd) lC n).1 y0 y1 y2) ((grp_rd (kF Kd np) lC n).1 y0 y1 y2)) ∧ (∀ {y0 : Nat} {y1 : Int32} {y2 : fm_M}, gR Kd np y0 → cl Kd np y2 → gL (pIS Kd np) ((grp_rd (kC Kd) lC n).2.1 y0 y1 y2) ((grp_rd (kF Kd np) lC n).2.1 y0 y1 y2)) ∧ (∀ {y0 : Nat} {y1 : Int32} {y2 : fm_M}, gR Kd np y0 → cl Kd np y2 → gL (pIS Kd np) ((grp_rd (kC Kd) lC n).2.2 y0 y1 y2) ((grp_rd (kF Kd np) lC n).2.2 y0 y1 y2)) := by
  intro n
  induction n with
  | zero => exact ⟨fun _ _ => gL_none _, fun _ _ => gL_none _, fun _ _ => gL_none _⟩
  | succ n ih => exact ⟨fun h0 h1 => g_s_X6_either (fun _ _ _ k0 k1 => ih.1 k0 k1) (fun _ _ _ k0 k1 => ih.2.1 k0 k1) (fun _ _ _ k0 k1 => ih.2.2 k0 k1) h0 h1, fun h0 h1 => g_s_X6_both (fun _ _ _ k0 k1 => ih.1 k0 k1) (fun _ _ _ k0 k1 => ih.2.1 k0 k1) (fun _ _ _ k0 k1 => ih.2.2 k0 k1) h0 h1, fun h0 h1 => g_s_X6_part (fun _ _ _ k0 k1 => ih.1 k0 k1) (fun _ _ _ k0 k1 => ih.2.1 k0 k1) (fun _ _ _ k0 k1 => ih.2.2 k0 k1) h0 h1⟩
theorem g_m_X6_either {Kd : Nat → Nat} {np : Nat} (n : Nat) {r0 : Nat} {a1 : Int32} {S : fm_M} (h0 : gR Kd np r0) (h1 : cl Kd np S) : gL (pIS Kd np) (m_X6_either n (kC Kd) lC r0 a1 S) (m_X6_either n (kF Kd np) lC r0 a1 S) := (g_grp_rd n).1 h0 h1
theorem g_m_X6_both {Kd : Nat → Nat} {np : Nat} (n : Nat) {r0 : Nat} {a1 : Int32} {S : fm_M} (h0 : gR Kd np r0) (h1 : cl Kd np S) : gL (pIS Kd np) (m_X6_both n (kC Kd) lC r0 a1 S) (m_X6_both n (kF Kd np) lC r0 a1 S) := (g_grp_rd n).2.1 h0 h1
theorem g_m_X6_part {Kd : Nat → Nat} {np : Nat} (n : Nat) {r0 : Nat} {a1 : Int32} {S : fm_M} (h0 : gR Kd np r0) (h1 : cl Kd np S) : gL (pIS Kd np) (m_X6_part n (kC Kd) lC r0 a1 S) (m_X6_part n (kF Kd np) lC r0 a1 S) := (g_grp_rd n).2.2 h0 h1
theorem g_k_X6_word_2 {Kd : Nat → Nat} {np : Nat} {go2 go21 : Nat → Nat → Int32 → fm_M → Option (Int32 × fm_M)} {r0 : Nat} {t1 : Nat} {a2 : Int32} {S : fm_M} (hgo2 : ∀ (x0 : Nat) (x1 : Nat) (x2 : Int32) (x3 : fm_M), gR Kd np x0 → gR Kd np x1 → cl Kd np x3 → gL (pIS Kd np) (go2 x0 x1 x2 x3) (go21 x0 x1 x2 x3)) (hr0 : gR Kd np r0) (ht1 : gR Kd np t1) (hS : cl Kd np S) : gL (pIS Kd np) (k_X6_word_2 (kC Kd) lC go2 r0 t1 a2 S) (k_X6_word_2 (kF Kd np) lC go21 r0 t1 a2 S) := by
  unfold k_X6_word_2
  refine gL_sl (fun _ => ?_)
  refine gL_ite (fun _ => ?_) (fun _ => ?_)
  · exact gL_z (gL_someIS (by assumption))
  · refine gL_sat (fun _ => ?_)
    refine gL_ck (by assumption) ?_
    refine gL_biI (g_m_X6_take (by assumption) (by assumption)) (fun _ _ _ => ?_)
    refine gL_ite (fun _ => ?_) (fun _ => ?_)
    · exact gL_z (gL_someIS (by assumption))
    · refine gL_let ?_
      exact hgo2 _ _ _ _ (by assumption) (by assumption) (by assumption)
theorem g_b_X6_word_2 {Kd : Nat → Nat} {np : Nat}     : ∀ (n : Nat) {y0 : Nat} {y1 : Nat} {y2 : Int32} {y3 : fm_M}, gR Kd np y0 → gR Kd np y1 → cl Kd np y3 → gL (pIS Kd np) (b_X6_word_2 (kC Kd) lC  n y0 y1 y2 y3) (b_X6_word_2 (kF Kd np) lC  n y0 y1 y2 y3) := by
  intro n
  induction n with
  | zero =>
    intro y0 y1 y2 y3 hy0 hy1 hy3
    exact gL_none _
  | succ n ih =>
    intro y0 y1 y2 y3 hy0 hy1 hy3
    exact g_k_X6_word_2 (Kd := Kd) (go2 := b_X6_word_2 (kC Kd) lC  n) (go21 := b_X6_word_2 (kF Kd np) lC  n) (fun _ _ _ _ k0 k1 k2 => ih k0 k1 k2) hy0 hy1 hy3
theorem g_m_X6_word {Kd : Nat → Nat} {np : Nat}  {r0 : Nat} {t1 : Nat} {S : fm_M}  (hr0 : gR Kd np r0) (ht1 : gR Kd np t1) (hS : cl Kd np S) : gL (pIS Kd np) (m_X6_word (kC Kd) lC r0 t1 S) (m_X6_word (kF Kd np) lC r0 t1 S) := by
  unfold m_X6_word
  refine gL_let ?_
  exact g_b_X6_word_2 _ (by assumption) (by assumption) (by assumption)
theorem g_m_X6_wordFrom {Kd : Nat → Nat} {np : Nat}  {a0 : Int32} {S : fm_M}  (hS : cl Kd np S) : gL (pN Kd np) (m_X6_wordFrom (kC Kd) lC a0 S) (m_X6_wordFrom (kF Kd np) lC a0 S) := by
  unfold m_X6_wordFrom
  refine gL_ite (fun _ => ?_) (fun _ => ?_)
  · exact gL_someN (by first | assumption | exact Or.inl (by decide))
  · refine gL_ite (fun _ => ?_) (fun _ => ?_)
    · exact gL_someN (by first | assumption | exact Or.inl (by decide))
    · refine gL_ite (fun _ => ?_) (fun _ => ?_)
      · exact gL_someN (by first | assumption | exact Or.inl (by decide))
      · exact gL_someN (by first | assumption | exact Or.inl (by decide))
theorem g_m_X6_clause {Kd : Nat → Nat} {np : Nat}  {r0 : Nat} {S : fm_M}  (hr0 : gR Kd np r0) (hS : cl Kd np S) : gL (pIS Kd np) (m_X6_clause (kC Kd) lC r0 S) (m_X6_clause (kF Kd np) lC r0 S) := by
  unfold m_X6_clause
  refine gL_gr (by decide) ok_6_0 (by assumption) (by assumption) (fun _ _ => ?_)
  refine gL_gi (by assumption) (fun _ => ?_)
  refine gL_ld (by assumption) (fun _ => ?_)
  refine gL_b1N (g_m_X6_wordFrom (by assumption)) (fun _ _ => ?_)
  refine gL_ck (by assumption) ?_
  refine gL_biI (g_m_X6_word (by assumption) (by assumption) (by assumption)) (fun _ _ _ => ?_)
  refine gL_ite (fun _ => ?_) (fun _ => ?_)
  · exact gL_z (gL_someIS (by assumption))
  · refine gL_ck (by assumption) ?_
    refine gL_biI (g_m_X6_number (by assumption) (by assumption)) (fun _ _ _ => ?_)
    refine gL_ite (fun _ => ?_) (fun _ => ?_)
    · exact gL_z (gL_someIS (by assumption))
    · refine gL_gi (by assumption) (fun _ => ?_)
      refine gL_ite (fun _ => ?_) (fun _ => ?_)
      · refine gL_gr (by decide) ok_6_1 (by assumption) (by assumption) (fun _ _ => ?_)
        refine gL_pi (by assumption) (by assumption) (fun _ _ => ?_)
        exact gL_z (gL_someIS (by assumption))
      · refine gL_ite (fun _ => ?_) (fun _ => ?_)
        · refine gL_gr (by decide) ok_6_1 (by assumption) (by assumption) (fun _ _ => ?_)
          refine gL_pi (by assumption) (by assumption) (fun _ _ => ?_)
          exact gL_z (gL_someIS (by assumption))
        · refine gL_ck (by assumption) ?_
          refine gL_biI (g_m_X6_take (by assumption) (by assumption)) (fun _ _ _ => ?_)
          refine gL_ite (fun _ => ?_) (fun _ => ?_)
          · refine gL_let ?_
            refine gL_gr (by decide) ok_6_1 (by assumption) (by assumption) (fun _ _ => ?_)
            refine gL_ite (fun _ => ?_) (fun _ => ?_)
            · refine gL_ck (by assumption) ?_
              refine gL_b1S (g_m_X10_addClause (by assumption) (by assumption)) (fun _ _ => ?_)
              exact gL_z (gL_someIS (by assumption))
            · refine gL_ck (by assumption) ?_
              refine gL_b1S (g_m_X10_addClause (by assumption) (by assumption)) (fun _ _ => ?_)
              exact gL_z (gL_someIS (by assumption))
          · refine gL_ck (by assumption) ?_
            refine gL_biI (g_m_X6_either _ (by assumption) (by assumption)) (fun _ _ _ => ?_)
            refine gL_ite (fun _ => ?_) (fun _ => ?_)
            · refine gL_let ?_
              refine gL_gr (by decide) ok_6_1 (by assumption) (by assumption) (fun _ _ => ?_)
              refine gL_ite (fun _ => ?_) (fun _ => ?_)
              · refine gL_ck (by assumption) ?_
                refine gL_b1S (g_m_X10_addClause (by assumption) (by assumption)) (fun _ _ => ?_)
                exact gL_z (gL_someIS (by assumption))
              · refine gL_ck (by assumption) ?_
                refine gL_b1S (g_m_X10_addClause (by assumption) (by assumption)) (fun _ _ => ?_)
                exact gL_z (gL_someIS (by assumption))
            · refine gL_let ?_
              refine gL_gr (by decide) ok_6_1 (by assumption) (by assumption) (fun _ _ => ?_)
              refine gL_ite (fun _ => ?_) (fun _ => ?_)
              · refine gL_ck (by assumption) ?_
                refine gL_b1S (g_m_X10_addClause (by assumption) (by assumption)) (fun _ _ => ?_)
                exact gL_z (gL_someIS (by assumption))
              · refine gL_ck (by assumption) ?_
                refine gL_b1S (g_m_X10_addClause (by assumption) (by assumption)) (fun _ _ => ?_)
                exact gL_z (gL_someIS (by assumption))
theorem g_k_X6_readInto_13 {Kd : Nat → Nat} {np : Nat} {go13 go131 : Nat → Nat → Nat → Int32 → Int32 → fm_M → Option (Int32 × fm_M)} {go66 go661 : Nat → Int32 → fm_M → Option (Int32 × fm_M)} {r0 : Nat} {r1 : Nat} {r2 : Nat} {a3 : Int32} {a4 : Int32} {S : fm_M} (hgo13 : ∀ (x0 : Nat) (x1 : Nat) (x2 : Nat) (x3 : Int32) (x4 : Int32) (x5 : fm_M), gR Kd np x0 → gR Kd np x1 → gR Kd np x2 → cl Kd np x5 → gL (pIS Kd np) (go13 x0 x1 x2 x3 x4 x5) (go131 x0 x1 x2 x3 x4 x5)) (hgo66 : ∀ (x0 : Nat) (x1 : Int32) (x2 : fm_M), gR Kd np x0 → cl Kd np x2 → gL (pIS Kd np) (go66 x0 x1 x2) (go661 x0 x1 x2)) (hr0 : gR Kd np r0) (hr1 : gR Kd np r1) (hr2 : gR Kd np r2) (hS : cl Kd np S) : gL (pIS Kd np) (k_X6_readInto_13 (kC Kd) lC go13 go66 r0 r1 r2 a3 a4 S) (k_X6_readInto_13 (kF Kd np) lC go131 go661 r0 r1 r2 a3 a4 S) := by
  unfold k_X6_readInto_13
  refine gL_ite (fun _ => ?_) (fun _ => ?_)
  · refine gL_gr (by decide) ok_6_0 (by assumption) (by assumption) (fun _ _ => ?_)
    refine gL_st (by assumption) (by assumption) (fun _ _ => ?_)
    refine gL_pr (by assumption) (by assumption) (by assumption) (fun _ _ => ?_)
    refine gL_gr (by decide) ok_6_1 (by assumption) (by assumption) (fun _ _ => ?_)
    refine gL_ck (by assumption) ?_
    refine gL_b1S (g_m_X10_clear (by assumption) (by assumption)) (fun _ _ => ?_)
    refine gL_pi (by assumption) (by assumption) (fun _ _ => ?_)
    refine gL_let ?_
    exact hgo66 _ _ _ (by assumption) (by assumption)
  · refine gL_gr (by decide) ok_6_0 (by assumption) (by assumption) (fun _ _ => ?_)
    refine gL_ck (by assumption) ?_
    refine gL_b1I (g_m_X8_at (by assumption) (by assumption)) (fun _ => ?_)
    refine gL_st (by assumption) (by assumption) (fun _ _ => ?_)
    refine gL_let ?_
    exact hgo13 _ _ _ _ _ _ (by assumption) (by assumption) (by assumption) (by assumption)
theorem g_k_X6_readInto_66 {Kd : Nat → Nat} {np : Nat} {go13 go131 : Nat → Nat → Nat → Int32 → Int32 → fm_M → Option (Int32 × fm_M)} {go66 go661 : Nat → Int32 → fm_M → Option (Int32 × fm_M)} {r0 : Nat} {a4 : Int32} {S : fm_M} (hgo13 : ∀ (x0 : Nat) (x1 : Nat) (x2 : Nat) (x3 : Int32) (x4 : Int32) (x5 : fm_M), gR Kd np x0 → gR Kd np x1 → gR Kd np x2 → cl Kd np x5 → gL (pIS Kd np) (go13 x0 x1 x2 x3 x4 x5) (go131 x0 x1 x2 x3 x4 x5)) (hgo66 : ∀ (x0 : Nat) (x1 : Int32) (x2 : fm_M), gR Kd np x0 → cl Kd np x2 → gL (pIS Kd np) (go66 x0 x1 x2) (go661 x0 x1 x2)) (hr0 : gR Kd np r0) (hS : cl Kd np S) : gL (pIS Kd np) (k_X6_readInto_66 (kC Kd) lC go13 go66 r0 a4 S) (k_X6_readInto_66 (kF Kd np) lC go131 go661 r0 a4 S) := by
  unfold k_X6_readInto_66
  refine gL_ite (fun _ => ?_) (fun _ => ?_)
  · refine gL_gi (by assumption) (fun _ => ?_)
    exact gL_someIS (by assumption)
  · refine gL_ite (fun _ => ?_) (fun _ => ?_)
    · refine gL_ck (by assumption) ?_
      refine gL_biI (g_m_X6_clause (by assumption) (by assumption)) (fun _ _ _ => ?_)
      refine gL_ite (fun _ => ?_) (fun _ => ?_)
      · refine gL_let ?_
        refine gL_ite (fun _ => ?_) (fun _ => ?_)
        · refine gL_ite (fun _ => ?_) (fun _ => ?_)
          · refine gL_gi (by assumption) (fun _ => ?_)
            exact gL_someIS (by assumption)
          · refine gL_let ?_
            exact hgo66 _ _ _ (by assumption) (by assumption)
        · refine gL_gr (by decide) ok_6_0 (by assumption) (by assumption) (fun _ _ => ?_)
          refine gL_gi (by assumption) (fun _ => ?_)
          refine gL_ld (by assumption) (fun _ => ?_)
          refine gL_ite (fun _ => ?_) (fun _ => ?_)
          · exact gL_someIS (by assumption)
          · refine gL_ite (fun _ => ?_) (fun _ => ?_)
            · refine gL_gi (by assumption) (fun _ => ?_)
              exact gL_someIS (by assumption)
            · refine gL_let ?_
              exact hgo66 _ _ _ (by assumption) (by assumption)
      · refine gL_let ?_
        refine gL_ite (fun _ => ?_) (fun _ => ?_)
        · refine gL_ite (fun _ => ?_) (fun _ => ?_)
          · refine gL_gi (by assumption) (fun _ => ?_)
            exact gL_someIS (by assumption)
          · refine gL_let ?_
            exact hgo66 _ _ _ (by assumption) (by assumption)
        · refine gL_gr (by decide) ok_6_0 (by assumption) (by assumption) (fun _ _ => ?_)
          refine gL_gi (by assumption) (fun _ => ?_)
          refine gL_ld (by assumption) (fun _ => ?_)
          refine gL_ite (fun _ => ?_) (fun _ => ?_)
          · exact gL_someIS (by assumption)
          · refine gL_ite (fun _ => ?_) (fun _ => ?_)
            · refine gL_gi (by assumption) (fun _ => ?_)
              exact gL_someIS (by assumption)
            · refine gL_let ?_
              exact hgo66 _ _ _ (by assumption) (by assumption)
    · refine gL_ck (by assumption) ?_
      refine gL_biI (g_m_X6_take (by assumption) (by assumption)) (fun _ _ _ => ?_)
      refine gL_ite (fun _ => ?_) (fun _ => ?_)
      · refine gL_let ?_
        refine gL_ite (fun _ => ?_) (fun _ => ?_)
        · refine gL_ite (fun _ => ?_) (fun _ => ?_)
          · refine gL_gi (by assumption) (fun _ => ?_)
            exact gL_someIS (by assumption)
          · refine gL_let ?_
            exact hgo66 _ _ _ (by assumption) (by assumption)
        · refine gL_gr (by decide) ok_6_0 (by assumption) (by assumption) (fun _ _ => ?_)
          refine gL_gi (by assumption) (fun _ => ?_)
          refine gL_ld (by assumption) (fun _ => ?_)
          refine gL_ite (fun _ => ?_) (fun _ => ?_)
          · exact gL_someIS (by assumption)
          · refine gL_ite (fun _ => ?_) (fun _ => ?_)
            · refine gL_gi (by assumption) (fun _ => ?_)
              exact gL_someIS (by assumption)
            · refine gL_let ?_
              exact hgo66 _ _ _ (by assumption) (by assumption)
      · refine gL_ck (by assumption) ?_
        refine gL_biI (g_m_X6_clause (by assumption) (by assumption)) (fun _ _ _ => ?_)
        refine gL_ite (fun _ => ?_) (fun _ => ?_)
        · refine gL_let ?_
          refine gL_ite (fun _ => ?_) (fun _ => ?_)
          · refine gL_ite (fun _ => ?_) (fun _ => ?_)
            · refine gL_gi (by assumption) (fun _ => ?_)
              exact gL_someIS (by assumption)
            · refine gL_let ?_
              exact hgo66 _ _ _ (by assumption) (by assumption)
          · refine gL_gr (by decide) ok_6_0 (by assumption) (by assumption) (fun _ _ => ?_)
            refine gL_gi (by assumption) (fun _ => ?_)
            refine gL_ld (by assumption) (fun _ => ?_)
            refine gL_ite (fun _ => ?_) (fun _ => ?_)
            · exact gL_someIS (by assumption)
            · refine gL_ite (fun _ => ?_) (fun _ => ?_)
              · refine gL_gi (by assumption) (fun _ => ?_)
                exact gL_someIS (by assumption)
              · refine gL_let ?_
                exact hgo66 _ _ _ (by assumption) (by assumption)
        · refine gL_let ?_
          refine gL_ite (fun _ => ?_) (fun _ => ?_)
          · refine gL_ite (fun _ => ?_) (fun _ => ?_)
            · refine gL_gi (by assumption) (fun _ => ?_)
              exact gL_someIS (by assumption)
            · refine gL_let ?_
              exact hgo66 _ _ _ (by assumption) (by assumption)
          · refine gL_gr (by decide) ok_6_0 (by assumption) (by assumption) (fun _ _ => ?_)
            refine gL_gi (by assumption) (fun _ => ?_)
            refine gL_ld (by assumption) (fun _ => ?_)
            refine gL_ite (fun _ => ?_) (fun _ => ?_)
            · exact gL_someIS (by assumption)
            · refine gL_ite (fun _ => ?_) (fun _ => ?_)
              · refine gL_gi (by assumption) (fun _ => ?_)
                exact gL_someIS (by assumption)
              · refine gL_let ?_
                exact hgo66 _ _ _ (by assumption) (by assumption)
theorem g_bs_X6_readInto {Kd : Nat → Nat} {np : Nat}   : ∀ n : Nat, (∀ {y0 : Nat} {y1 : Nat} {y2 : Nat} {y3 : Int32} {y4 : Int32} {y5 : fm_M}, gR Kd np y0 → gR Kd np y1 → gR Kd np y2 → cl Kd np y5 → gL (pIS Kd np) (b_X6_readInto_13 (kC Kd) lC  n y0 y1 y2 y3 y4 y5) (b_X6_readInto_13 (kF Kd np) lC  n y0 y1 y2 y3 y4 y5)) ∧ (∀ {y0 : Nat} {y1 : Int32} {y2 : fm_M}, gR Kd np y0 → cl Kd np y2 → gL (pIS Kd np) (b_X6_readInto_66 (kC Kd) lC  n y0 y1 y2) (b_X6_readInto_66 (kF Kd np) lC  n y0 y1 y2)) := by
  intro n
  induction n with
  | zero => exact ⟨fun hy0 hy1 hy2 hy5 => gL_none _, fun hy0 hy2 => gL_none _⟩
  | succ n ih =>
    refine ⟨?_, ?_⟩
    · intro y0 y1 y2 y3 y4 y5 hy0 hy1 hy2 hy5
      exact g_k_X6_readInto_13 (Kd := Kd) (go13 := b_X6_readInto_13 (kC Kd) lC  n) (go131 := b_X6_readInto_13 (kF Kd np) lC  n) (go66 := b_X6_readInto_66 (kC Kd) lC  n) (go661 := b_X6_readInto_66 (kF Kd np) lC  n) (fun _ _ _ _ _ _ k0 k1 k2 k3 => ih.1 k0 k1 k2 k3) (fun _ _ _ k0 k1 => ih.2 k0 k1) hy0 hy1 hy2 hy5
    · intro y0 y1 y2 hy0 hy2
      exact g_k_X6_readInto_66 (Kd := Kd) (go13 := b_X6_readInto_13 (kC Kd) lC  n) (go131 := b_X6_readInto_13 (kF Kd np) lC  n) (go66 := b_X6_readInto_66 (kC Kd) lC  n) (go661 := b_X6_readInto_66 (kF Kd np) lC  n) (fun _ _ _ _ _ _ k0 k1 k2 k3 => ih.1 k0 k1 k2 k3) (fun _ _ _ k0 k1 => ih.2 k0 k1) hy0 hy2
theorem g_b_X6_readInto_13 {Kd : Nat → Nat} {np : Nat}   (n : Nat) {y0 : Nat} {y1 : Nat} {y2 : Nat} {y3 : Int32} {y4 : Int32} {y5 : fm_M} (hy0 : gR Kd np y0) (hy1 : gR Kd np y1) (hy2 : gR Kd np y2) (hy5 : cl Kd np y5) : gL (pIS Kd np) (b_X6_readInto_13 (kC Kd) lC  n y0 y1 y2 y3 y4 y5) (b_X6_readInto_13 (kF Kd np) lC  n y0 y1 y2 y3 y4 y5) := (g_bs_X6_readInto  n).1 hy0 hy1 hy2 hy5
theorem g_b_X6_readInto_66 {Kd : Nat → Nat} {np : Nat}   (n : Nat) {y0 : Nat} {y1 : Int32} {y2 : fm_M} (hy0 : gR Kd np y0) (hy2 : cl Kd np y2) : gL (pIS Kd np) (b_X6_readInto_66 (kC Kd) lC  n y0 y1 y2) (b_X6_readInto_66 (kF Kd np) lC  n y0 y1 y2) := (g_bs_X6_readInto  n).2 hy0 hy2
theorem g_m_X6_readInto {Kd : Nat → Nat} {np : Nat}  {r0 : Nat} {r1 : Nat} {r2 : Nat} {S : fm_M}  (hr0 : gR Kd np r0) (hr1 : gR Kd np r1) (hr2 : gR Kd np r2) (hS : cl Kd np S) : gL (pIS Kd np) (m_X6_readInto (kC Kd) lC r0 r1 r2 S) (m_X6_readInto (kF Kd np) lC r0 r1 r2 S) := by
  unfold m_X6_readInto
  refine gL_ck (by assumption) ?_
  refine gL_b1I (g_m_X8_size (by assumption) (by assumption)) (fun _ => ?_)
  refine gL_let ?_
  refine gL_let ?_
  exact g_b_X6_readInto_13 _ (by assumption) (by assumption) (by assumption) (by assumption)
theorem g_m_X11_town {Kd : Nat → Nat} {np : Nat}  {r0 : Nat} {S : fm_M}  (hr0 : gR Kd np r0) (hS : cl Kd np S) : gL (pIS Kd np) (m_X11_town (kC Kd) lC r0 S) (m_X11_town (kF Kd np) lC r0 S) := by
  unfold m_X11_town
  refine gL_gi (by assumption) (fun _ => ?_)
  refine gL_ite (fun _ => ?_) (fun _ => ?_)
  · refine gL_gr (by decide) ok_11_7 (by assumption) (by assumption) (fun _ _ => ?_)
    refine gL_gr (by decide) ok_11_4 (by assumption) (by assumption) (fun _ _ => ?_)
    refine gL_gi (by assumption) (fun _ => ?_)
    refine gL_lr (by decide) (by assumption) (by assumption) (fun _ _ => ?_)
    refine gL_gr (by decide) ok_11_6 (by assumption) (by assumption) (fun _ _ => ?_)
    refine gL_ck (by assumption) ?_
    refine gL_biI (g_m_X6_readInto (by assumption) (by assumption) (by assumption) (by assumption)) (fun _ _ _ => ?_)
    refine gL_gr (by decide) ok_11_6 (by assumption) (by assumption) (fun _ _ => ?_)
    refine gL_ck (by assumption) ?_
    refine gL_biI (g_m_X8_clear (by assumption) (by assumption)) (fun _ _ _ => ?_)
    refine gL_ite (fun _ => ?_) (fun _ => ?_)
    · refine gL_gi (by assumption) (fun _ => ?_)
      refine gL_pi (by assumption) (by assumption) (fun _ _ => ?_)
      refine gL_gi (by assumption) (fun _ => ?_)
      exact gL_someIS (by assumption)
    · exact gL_someIS (by assumption)
  · exact gL_someIS (by assumption)
