/-! the class's models and what can be reached (wip/whole/tool/reach.py prints this) -/
def pT {α : Type} (_ : α) : Prop := True
def pS (Kd : Nat → Nat) (np : Nat) (u : fm_M) : Prop := cl Kd np u
def pIS {α : Type} (Kd : Nat → Nat) (np : Nat) (u : α × fm_M) : Prop := cl Kd np u.2
def pN (Kd : Nat → Nat) (np : Nat) (u : Nat) : Prop := gR Kd np u
def pNS (Kd : Nat → Nat) (np : Nat) (u : Nat × fm_M) : Prop := gR Kd np u.1 ∧ cl Kd np u.2
section G
variable {α β : Type} {P : α → Prop} {Kd : Nat → Nat} {np : Nat}
theorem gL_someI (u : α) : gL pT (some u) (some u) := gL_some trivial
theorem gL_someS {S : fm_M} (h : cl Kd np S) : gL (pS Kd np) (some S) (some S) := gL_some h
theorem gL_someIS {x : β} {S : fm_M} (h : cl Kd np S) : gL (pIS Kd np) (some (x, S)) (some (x, S)) := gL_some h
theorem gL_someN {q : Nat} (h : gR Kd np q) : gL (pN Kd np) (some q) (some q) := gL_some h
theorem gL_someNS {q : Nat} {S : fm_M} (h : gR Kd np q) (h2 : cl Kd np S) : gL (pNS Kd np) (some (q, S)) (some (q, S)) := gL_some ⟨h, h2⟩
theorem gL_biI {o o' : Option (β × fm_M)} {F F' : β → fm_M → Option α} (h1 : gL (pIS Kd np) o o') (h2 : ∀ x y, cl Kd np y → gL P (F x y) (F' x y)) : gL P (fm_bi o F) (fm_bi o' F') := gL_bi h1 h2
theorem gL_biN {o o' : Option (Nat × fm_M)} {F F' : Nat → fm_M → Option α} (h1 : gL (pNS Kd np) o o') (h2 : ∀ x y, gR Kd np x → cl Kd np y → gL P (F x y) (F' x y)) : gL P (fm_bi o F) (fm_bi o' F') := gL_bi h1 (fun x y h => h2 x y h.1 h.2)
theorem gL_b1S {o o' : Option fm_M} {F F' : fm_M → Option α} (h1 : gL (pS Kd np) o o') (h2 : ∀ y, cl Kd np y → gL P (F y) (F' y)) : gL P (fm_b1 o F) (fm_b1 o' F') := gL_b1 h1 h2
theorem gL_b1I {o o' : Option β} {F F' : β → Option α} (h1 : gL pT o o') (h2 : ∀ y, gL P (F y) (F' y)) : gL P (fm_b1 o F) (fm_b1 o' F') := gL_b1 h1 (fun y _ => h2 y)
theorem gL_b1N {o o' : Option Nat} {F F' : Nat → Option α} (h1 : gL (pN Kd np) o o') (h2 : ∀ y, gR Kd np y → gL P (F y) (F' y)) : gL P (fm_b1 o F) (fm_b1 o' F') := gL_b1 h1 h2
theorem gL_ins {c0 q : Nat} {F F' : Int32 → Option α} (hq : gR Kd np q) (h : ∀ x, gL P (F x) (F' x)) : gL P (fm_ins (kC Kd) c0 q F) (fm_ins (kF Kd np) c0 q F') := by
  unfold fm_ins
  rw [kF_g hq]
  exact gL_ite (fun _ => h _) (fun _ => gL_none _)
end G
theorem ok_0_9 : okS 0 9 = true := by decide +kernel
theorem ok_1_0 : okS 1 0 = true := by decide +kernel
theorem ok_1_1 : okS 1 1 = true := by decide +kernel
theorem ok_1_8 : okS 1 8 = true := by decide +kernel
theorem ok_1_9 : okS 1 9 = true := by decide +kernel
theorem ok_10_3 : okS 10 3 = true := by decide +kernel
theorem ok_10_4 : okS 10 4 = true := by decide +kernel
theorem ok_10_6 : okS 10 6 = true := by decide +kernel
theorem ok_10_7 : okS 10 7 = true := by decide +kernel
theorem ok_11_0 : okS 11 0 = true := by decide +kernel
theorem ok_11_1 : okS 11 1 = true := by decide +kernel
theorem ok_11_11 : okS 11 11 = true := by decide +kernel
theorem ok_11_12 : okS 11 12 = true := by decide +kernel
theorem ok_11_13 : okS 11 13 = true := by decide +kernel
theorem ok_11_14 : okS 11 14 = true := by decide +kernel
theorem ok_11_15 : okS 11 15 = true := by decide +kernel
theorem ok_11_16 : okS 11 16 = true := by decide +kernel
theorem ok_11_3 : okS 11 3 = true := by decide +kernel
theorem ok_11_4 : okS 11 4 = true := by decide +kernel
theorem ok_11_6 : okS 11 6 = true := by decide +kernel
theorem ok_11_7 : okS 11 7 = true := by decide +kernel
theorem ok_2_9 : okS 2 9 = true := by decide +kernel
theorem ok_3_9 : okS 3 9 = true := by decide +kernel
theorem ok_4_9 : okS 4 9 = true := by decide +kernel
theorem ok_5_9 : okS 5 9 = true := by decide +kernel
theorem ok_6_0 : okS 6 0 = true := by decide +kernel
theorem ok_6_1 : okS 6 1 = true := by decide +kernel
theorem ok_7_9 : okS 7 9 = true := by decide +kernel
theorem ok_8_1 : okS 8 1 = true := by decide +kernel
theorem ok_8_2 : okS 8 2 = true := by decide +kernel
theorem ok_9_10 : okS 9 10 = true := by decide +kernel
theorem ok_9_11 : okS 9 11 = true := by decide +kernel
theorem ok_9_9 : okS 9 9 = true := by decide +kernel
theorem g_m_X11_isWithin {Kd : Nat → Nat} {np : Nat}  {a0 : Int32} {a1 : Int32} {S : fm_M}  (hS : cl Kd np S) : gL pT (m_X11_isWithin (kC Kd) lC a0 a1 S) (m_X11_isWithin (kF Kd np) lC a0 a1 S) := by
  unfold m_X11_isWithin
  refine gL_ite (fun _ => ?_) (fun _ => ?_)
  · exact gL_z (gL_someI _)
  · refine gL_ite (fun _ => ?_) (fun _ => ?_)
    · exact gL_z (gL_someI _)
    · exact gL_z (gL_someI _)
theorem g_m_X8_size {Kd : Nat → Nat} {np : Nat}  {r0 : Nat} {S : fm_M}  (hr0 : gR Kd np r0) (hS : cl Kd np S) : gL pT (m_X8_size (kC Kd) lC r0 S) (m_X8_size (kF Kd np) lC r0 S) := by
  unfold m_X8_size
  refine gL_gi (by assumption) (fun _ => ?_)
  refine gL_gi (by assumption) (fun _ => ?_)
  refine gL_let ?_
  exact gL_someI _
theorem g_m_X8_isFull {Kd : Nat → Nat} {np : Nat}  {r0 : Nat} {S : fm_M}  (hr0 : gR Kd np r0) (hS : cl Kd np S) : gL pT (m_X8_isFull (kC Kd) lC r0 S) (m_X8_isFull (kF Kd np) lC r0 S) := by
  unfold m_X8_isFull
  refine gL_gi (by assumption) (fun _ => ?_)
  refine gL_gi (by assumption) (fun _ => ?_)
  refine gL_ite (fun _ => ?_) (fun _ => ?_)
  · exact gL_z (gL_someI _)
  · exact gL_z (gL_someI _)
theorem g_m_X8_at {Kd : Nat → Nat} {np : Nat}  {r0 : Nat} {a1 : Int32} {a2 : Int32} {S : fm_M}  (hr0 : gR Kd np r0) (hS : cl Kd np S) : gL pT (m_X8_at (kC Kd) lC r0 a1 a2 S) (m_X8_at (kF Kd np) lC r0 a1 a2 S) := by
  unfold m_X8_at
  refine gL_ck (by assumption) ?_
  refine gL_b1I (g_m_X8_size (by assumption) (by assumption)) (fun _ => ?_)
  refine gL_b1I (g_m_X11_isWithin (by assumption)) (fun _ => ?_)
  refine gL_ite (fun _ => ?_) (fun _ => ?_)
  · exact gL_someI _
  · refine gL_b1I (g_m_X11_isWithin (by assumption)) (fun _ => ?_)
    refine gL_ite (fun _ => ?_) (fun _ => ?_)
    · exact gL_someI _
    · refine gL_gr (by decide) ok_8_1 (by assumption) (by assumption) (fun _ _ => ?_)
      refine gL_ld (by assumption) (fun _ => ?_)
      exact gL_someI _
theorem g_m_X8_add {Kd : Nat → Nat} {np : Nat}  {r0 : Nat} {a1 : Int32} {a2 : Int32} {a3 : Int32} {S : fm_M}  (hr0 : gR Kd np r0) (hS : cl Kd np S) : gL (pIS Kd np) (m_X8_add (kC Kd) lC r0 a1 a2 a3 S) (m_X8_add (kF Kd np) lC r0 a1 a2 a3 S) := by
  unfold m_X8_add
  refine gL_gi (by assumption) (fun _ => ?_)
  refine gL_ite (fun _ => ?_) (fun _ => ?_)
  · refine gL_gi (by assumption) (fun _ => ?_)
    refine gL_pi (by assumption) (by assumption) (fun _ _ => ?_)
    refine gL_gi (by assumption) (fun _ => ?_)
    exact gL_someIS (by assumption)
  · refine gL_gi (by assumption) (fun _ => ?_)
    refine gL_gi (by assumption) (fun _ => ?_)
    refine gL_ite (fun _ => ?_) (fun _ => ?_)
    · refine gL_gi (by assumption) (fun _ => ?_)
      refine gL_pi (by assumption) (by assumption) (fun _ _ => ?_)
      refine gL_gi (by assumption) (fun _ => ?_)
      exact gL_someIS (by assumption)
    · refine gL_gr (by decide) ok_8_1 (by assumption) (by assumption) (fun _ _ => ?_)
      refine gL_gi (by assumption) (fun _ => ?_)
      refine gL_st (by assumption) (by assumption) (fun _ _ => ?_)
      refine gL_gr (by decide) ok_8_1 (by assumption) (by assumption) (fun _ _ => ?_)
      refine gL_gi (by assumption) (fun _ => ?_)
      refine gL_st (by assumption) (by assumption) (fun _ _ => ?_)
      refine gL_gr (by decide) ok_8_1 (by assumption) (by assumption) (fun _ _ => ?_)
      refine gL_gi (by assumption) (fun _ => ?_)
      refine gL_st (by assumption) (by assumption) (fun _ _ => ?_)
      refine gL_gi (by assumption) (fun _ => ?_)
      refine gL_pi (by assumption) (by assumption) (fun _ _ => ?_)
      refine gL_gi (by assumption) (fun _ => ?_)
      exact gL_someIS (by assumption)
theorem g_m_X8_clear {Kd : Nat → Nat} {np : Nat}  {r0 : Nat} {S : fm_M}  (hr0 : gR Kd np r0) (hS : cl Kd np S) : gL (pIS Kd np) (m_X8_clear (kC Kd) lC r0 S) (m_X8_clear (kF Kd np) lC r0 S) := by
  unfold m_X8_clear
  refine gL_pi (by assumption) (by assumption) (fun _ _ => ?_)
  exact gL_someIS (by assumption)
theorem g_m_X8_keep {Kd : Nat → Nat} {np : Nat}  {r0 : Nat} {S : fm_M}  (hr0 : gR Kd np r0) (hS : cl Kd np S) : gL (pS Kd np) (m_X8_keep (kC Kd) lC r0 S) (m_X8_keep (kF Kd np) lC r0 S) := by
  unfold m_X8_keep
  refine gL_gr (by decide) ok_8_1 (by assumption) (by assumption) (fun _ _ => ?_)
  refine gL_gr (by decide) ok_8_2 (by assumption) (by assumption) (fun _ _ => ?_)
  refine gL_gr (by decide) ok_8_1 (by assumption) (by assumption) (fun _ _ => ?_)
  refine gL_ln (by assumption) (fun _ => ?_)
  refine gL_cp (by assumption) (by assumption) (by assumption) (fun _ _ => ?_)
  refine gL_gi (by assumption) (fun _ => ?_)
  refine gL_pi (by assumption) (by assumption) (fun _ _ => ?_)
  exact gL_someS (by assumption)
theorem g_m_X8_takeBack {Kd : Nat → Nat} {np : Nat}  {r0 : Nat} {S : fm_M}  (hr0 : gR Kd np r0) (hS : cl Kd np S) : gL (pS Kd np) (m_X8_takeBack (kC Kd) lC r0 S) (m_X8_takeBack (kF Kd np) lC r0 S) := by
  unfold m_X8_takeBack
  refine gL_gr (by decide) ok_8_2 (by assumption) (by assumption) (fun _ _ => ?_)
  refine gL_gr (by decide) ok_8_1 (by assumption) (by assumption) (fun _ _ => ?_)
  refine gL_gr (by decide) ok_8_2 (by assumption) (by assumption) (fun _ _ => ?_)
  refine gL_ln (by assumption) (fun _ => ?_)
  refine gL_cp (by assumption) (by assumption) (by assumption) (fun _ _ => ?_)
  refine gL_gi (by assumption) (fun _ => ?_)
  refine gL_pi (by assumption) (by assumption) (fun _ _ => ?_)
  exact gL_someS (by assumption)
theorem g_m_X10_clear {Kd : Nat → Nat} {np : Nat}  {r0 : Nat} {S : fm_M}  (hr0 : gR Kd np r0) (hS : cl Kd np S) : gL (pS Kd np) (m_X10_clear (kC Kd) lC r0 S) (m_X10_clear (kF Kd np) lC r0 S) := by
  unfold m_X10_clear
  refine gL_pi (by assumption) (by assumption) (fun _ _ => ?_)
  refine gL_pi (by assumption) (by assumption) (fun _ _ => ?_)
  refine gL_pi (by assumption) (by assumption) (fun _ _ => ?_)
  refine gL_pi (by assumption) (by assumption) (fun _ _ => ?_)
  exact gL_someS (by assumption)
theorem g_m_X10_addSign {Kd : Nat → Nat} {np : Nat}  {r0 : Nat} {a1 : Int32} {a2 : Int32} {S : fm_M}  (hr0 : gR Kd np r0) (hS : cl Kd np S) : gL (pS Kd np) (m_X10_addSign (kC Kd) lC r0 a1 a2 S) (m_X10_addSign (kF Kd np) lC r0 a1 a2 S) := by
  unfold m_X10_addSign
  refine gL_gi (by assumption) (fun _ => ?_)
  refine gL_ite (fun _ => ?_) (fun _ => ?_)
  · exact gL_someS (by assumption)
  · refine gL_gr (by decide) ok_10_6 (by assumption) (by assumption) (fun _ _ => ?_)
    refine gL_gi (by assumption) (fun _ => ?_)
    refine gL_st (by assumption) (by assumption) (fun _ _ => ?_)
    refine gL_gr (by decide) ok_10_7 (by assumption) (by assumption) (fun _ _ => ?_)
    refine gL_gi (by assumption) (fun _ => ?_)
    refine gL_st (by assumption) (by assumption) (fun _ _ => ?_)
    refine gL_gi (by assumption) (fun _ => ?_)
    refine gL_pi (by assumption) (by assumption) (fun _ _ => ?_)
    exact gL_someS (by assumption)
theorem g_m_X10_addClause {Kd : Nat → Nat} {np : Nat}  {r0 : Nat} {a1 : Int32} {S : fm_M}  (hr0 : gR Kd np r0) (hS : cl Kd np S) : gL (pS Kd np) (m_X10_addClause (kC Kd) lC r0 a1 S) (m_X10_addClause (kF Kd np) lC r0 a1 S) := by
  unfold m_X10_addClause
  refine gL_gi (by assumption) (fun _ => ?_)
  refine gL_ite (fun _ => ?_) (fun _ => ?_)
  · exact gL_someS (by assumption)
  · refine gL_gr (by decide) ok_10_3 (by assumption) (by assumption) (fun _ _ => ?_)
    refine gL_gi (by assumption) (fun _ => ?_)
    refine gL_st (by assumption) (by assumption) (fun _ _ => ?_)
    refine gL_gr (by decide) ok_10_4 (by assumption) (by assumption) (fun _ _ => ?_)
    refine gL_gi (by assumption) (fun _ => ?_)
    refine gL_gi (by assumption) (fun _ => ?_)
    refine gL_st (by assumption) (by assumption) (fun _ _ => ?_)
    refine gL_gi (by assumption) (fun _ => ?_)
    refine gL_pi (by assumption) (by assumption) (fun _ _ => ?_)
    exact gL_someS (by assumption)
theorem g_k_X10_offerOf_10 {Kd : Nat → Nat} {np : Nat} {go10 go101 : Nat → Int32 → Int32 → Int32 → Int32 → Int32 → Option Int32} {S : fm_M} {r0 : Nat} {a1 : Int32} {a2 : Int32} {a3 : Int32} {a4 : Int32} {a5 : Int32} (hgo10 : ∀ (x0 : Nat) (x1 : Int32) (x2 : Int32) (x3 : Int32) (x4 : Int32) (x5 : Int32), gR Kd np x0 → gL pT (go10 x0 x1 x2 x3 x4 x5) (go101 x0 x1 x2 x3 x4 x5)) (hS : cl Kd np S) (hr0 : gR Kd np r0) : gL pT (k_X10_offerOf_10 (kC Kd) lC S go10 r0 a1 a2 a3 a4 a5) (k_X10_offerOf_10 (kF Kd np) lC S go101 r0 a1 a2 a3 a4 a5) := by
  unfold k_X10_offerOf_10
  refine gL_ite (fun _ => ?_) (fun _ => ?_)
  · refine gL_gi (by assumption) (fun _ => ?_)
    refine gL_gi (by assumption) (fun _ => ?_)
    exact gL_someI _
  · refine gL_ite (fun _ => ?_) (fun _ => ?_)
    · refine gL_let ?_
      refine gL_ite (fun _ => ?_) (fun _ => ?_)
      · refine gL_let ?_
        refine gL_let ?_
        refine gL_let ?_
        exact hgo10 _ _ _ _ _ _ (by assumption)
      · refine gL_let ?_
        refine gL_let ?_
        refine gL_let ?_
        exact hgo10 _ _ _ _ _ _ (by assumption)
    · refine gL_let ?_
      refine gL_ite (fun _ => ?_) (fun _ => ?_)
      · refine gL_let ?_
        refine gL_let ?_
        refine gL_let ?_
        exact hgo10 _ _ _ _ _ _ (by assumption)
      · refine gL_let ?_
        refine gL_let ?_
        refine gL_let ?_
        exact hgo10 _ _ _ _ _ _ (by assumption)
theorem g_b_X10_offerOf_10 {Kd : Nat → Nat} {np : Nat}  {S : fm_M}  (hS : cl Kd np S) : ∀ (n : Nat) {y0 : Nat} {y1 : Int32} {y2 : Int32} {y3 : Int32} {y4 : Int32} {y5 : Int32}, gR Kd np y0 → gL pT (b_X10_offerOf_10 (kC Kd) lC S n y0 y1 y2 y3 y4 y5) (b_X10_offerOf_10 (kF Kd np) lC S n y0 y1 y2 y3 y4 y5) := by
  intro n
  induction n with
  | zero =>
    intro y0 y1 y2 y3 y4 y5 hy0
    exact gL_none _
  | succ n ih =>
    intro y0 y1 y2 y3 y4 y5 hy0
    exact g_k_X10_offerOf_10 (Kd := Kd) (go10 := b_X10_offerOf_10 (kC Kd) lC S n) (go101 := b_X10_offerOf_10 (kF Kd np) lC S n) (fun _ _ _ _ _ _ k0 => ih k0) hS hy0
theorem g_m_X10_offerOf {Kd : Nat → Nat} {np : Nat}  {r0 : Nat} {a1 : Int32} {S : fm_M}  (hr0 : gR Kd np r0) (hS : cl Kd np S) : gL pT (m_X10_offerOf (kC Kd) lC r0 a1 S) (m_X10_offerOf (kF Kd np) lC r0 a1 S) := by
  unfold m_X10_offerOf
  refine gL_let ?_
  refine gL_let ?_
  refine gL_let ?_
  refine gL_let ?_
  exact g_b_X10_offerOf_10 (by assumption) _ (by assumption)
