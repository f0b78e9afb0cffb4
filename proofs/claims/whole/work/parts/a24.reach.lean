/-! the class's models look at no role but such as can be reached: they say the same where the other roles are nothing -/
/-- such as can be reached: the fixed ones, and those of the panes that are there (rows of numbers: of TOLD ones alone) -/
def gR (Kd : Nat → Nat) (np r : Nat) : Prop := r < 75 ∨ (100 ≤ r ∧ (r - 100) / 6 < np ∧ (((r - 100) % 6 = 1 ∨ (r - 100) % 6 = 2) → Kd ((r - 100) / 6) = 6))
def gRb (Kd : Nat → Nat) (np r : Nat) : Bool := decide (r < 75) || (decide (100 ≤ r) && (decide ((r - 100) / 6 < np) && (!(decide ((r - 100) % 6 = 1) || decide ((r - 100) % 6 = 2)) || decide (Kd ((r - 100) / 6) = 6))))
theorem gRb_t {Kd : Nat → Nat} {np r : Nat} : gRb Kd np r = true ↔ gR Kd np r := by
  unfold gRb gR
  by_cases h1 : r < 75 <;> by_cases h2 : 100 ≤ r <;> by_cases h3 : (r - 100) / 6 < np <;> by_cases h4 : (r - 100) % 6 = 1 <;> by_cases h5 : (r - 100) % 6 = 2 <;> by_cases h6 : Kd ((r - 100) / 6) = 6 <;> simp [h1, h2, h3, h4, h5, h6]
def kF (Kd : Nat → Nat) (np r : Nat) : Nat := if gRb Kd np r = true then kC Kd r else 99
theorem kF_g {Kd : Nat → Nat} {np r : Nat} (h : gR Kd np r) : kF Kd np r = kC Kd r := if_pos (gRb_t.2 h)
/-- a slot that is there -/
def rs (Kd : Nat → Nat) (r k : Nat) : Prop := k < (if kC Kd r < 13 then fm_N (kC Kd r) else lC r)
def cl (Kd : Nat → Nat) (np : Nat) (S : fm_M) : Prop := ∀ r k q, gR Kd np r → rs Kd r k → S.2 r k = some q → gR Kd np q
def gL {α : Type} (P : α → Prop) (X Y : Option α) : Prop := ∀ u, X = some u → Y = some u ∧ P u
def okS (c0 k : Nat) : Bool := (List.range 13).all (fun c => !(fm_isC c c0) || decide (k < fm_N c))
theorem isC_13 {c c0 : Nat} (h0 : c0 < 13) (h : fm_isC c c0 = true) : c < 13 := by
  by_cases hc : c < 13
  · exact hc
  · exfalso
    match c0, h0, h with
    | 5, _, h => have := fm_isC5 h; omega
    | 7, _, h => have := fm_isC7 h; omega
    | 4, _, h => have := fm_isC4 h; omega
    | 3, _, h => have := fm_isC3 h; omega
    | 0, _, h => exact hc (by rw [eq_of_beq (show (c == 0) = true from h)]; omega)
    | 1, _, h => exact hc (by rw [eq_of_beq (show (c == 1) = true from h)]; omega)
    | 2, _, h => exact hc (by rw [eq_of_beq (show (c == 2) = true from h)]; omega)
    | 6, _, h => exact hc (by rw [eq_of_beq (show (c == 6) = true from h)]; omega)
    | 8, _, h => exact hc (by rw [eq_of_beq (show (c == 8) = true from h)]; omega)
    | 9, _, h => exact hc (by rw [eq_of_beq (show (c == 9) = true from h)]; omega)
    | 10, _, h => exact hc (by rw [eq_of_beq (show (c == 10) = true from h)]; omega)
    | 11, _, h => exact hc (by rw [eq_of_beq (show (c == 11) = true from h)]; omega)
    | 12, _, h => exact hc (by rw [eq_of_beq (show (c == 12) = true from h)]; omega)
    | c0 + 13, h0, _ => omega
theorem okS_t {c0 k c : Nat} (h0 : c0 < 13) (hk : okS c0 k = true) (h : fm_isC c c0 = true) : c < 13 ∧ k < fm_N c := by
  have hc := isC_13 h0 h
  have := List.all_eq_true.mp hk c (List.mem_range.mpr hc)
  rw [h] at this
  exact ⟨hc, of_decide_eq_true (by simpa using this)⟩
theorem fm_inb_lt {i : Int32} {n : Nat} (h : fm_inb i n = true) : i.toNatClampNeg < n := by
  simp [fm_inb] at h
  omega
section G
variable {α β γ : Type} {P : α → Prop} {Kd : Nat → Nat} {np : Nat} {lam : Nat → Nat}
theorem gL_none (Y : Option α) : gL P none Y := fun _ h => absurd h (by simp)
theorem gL_some {u : α} (h : P u) : gL P (some u) (some u) := fun _ e => ⟨e, by cases e; exact h⟩
theorem gL_ite {c : Prop} [Decidable c] {a b a' b' : Option α} (h1 : c → gL P a a') (h2 : ¬ c → gL P b b') : gL P (if c then a else b) (if c then a' else b') := by
  by_cases h : c
  · rw [if_pos h, if_pos h]; exact h1 h
  · rw [if_neg h, if_neg h]; exact h2 h
theorem gL_ck {r t : Nat} {a a' : Option α} (hr : gR Kd np r) (h : gL P a a') : gL P (fm_ck (kC Kd r == t) a) (fm_ck (kF Kd np r == t) a') := by
  rw [kF_g hr]
  exact gL_ite (fun _ => h) (fun _ => gL_none _)
theorem gL_ckC {r t : Nat} {a a' : Option α} (hr : gR Kd np r) (h : gL P a a') : gL P (fm_ck (fm_isC (kC Kd r) t) a) (fm_ck (fm_isC (kF Kd np r) t) a') := by
  rw [kF_g hr]
  exact gL_ite (fun _ => h) (fun _ => gL_none _)
theorem gL_gi {r c0 k : Nat} {S : fm_M} {F F' : Int32 → Option α} (hr : gR Kd np r) (h : ∀ x, gL P (F x) (F' x)) : gL P (fm_gi (kC Kd) c0 r k S F) (fm_gi (kF Kd np) c0 r k S F') := by
  unfold fm_gi
  rw [kF_g hr]
  exact gL_ite (fun _ => h _) (fun _ => gL_none _)
theorem gL_gr {r c0 k : Nat} {S : fm_M} {F F' : Nat → Option α} (h0 : c0 < 13) (hk : okS c0 k = true) (hr : gR Kd np r) (hS : cl Kd np S) (h : ∀ q, gR Kd np q → gL P (F q) (F' q)) : gL P (fm_gr (kC Kd) c0 r k S F) (fm_gr (kF Kd np) c0 r k S F') := by
  unfold fm_gr
  rw [kF_g hr]
  refine gL_ite (fun hc => ?_) (fun _ => gL_none _)
  cases hq : S.2 r k with
  | none => exact gL_none _
  | some q =>
    have := okS_t h0 hk hc
    exact h q (hS r k q hr (by unfold rs; rw [if_pos this.1]; exact this.2) hq)
theorem cl_wi {S : fm_M} {r k : Nat} {x : Int32} (hS : cl Kd np S) : cl Kd np (fm_wi S r k x) := hS
theorem gL_pi {r c0 k : Nat} {S : fm_M} {x : Int32} {F F' : fm_M → Option α} (hr : gR Kd np r) (hS : cl Kd np S) (h : ∀ S', cl Kd np S' → gL P (F S') (F' S')) : gL P (fm_pi (kC Kd) c0 r k S x F) (fm_pi (kF Kd np) c0 r k S x F') := by
  unfold fm_pi
  rw [kF_g hr]
  exact gL_ite (fun _ => h _ (cl_wi hS)) (fun _ => gL_none _)
theorem gL_pz {r c0 k : Nat} {S : fm_M} {x : Int32} {F F' : fm_M → Option α} (hr : gR Kd np r) (hS : cl Kd np S) (h : ∀ S', cl Kd np S' → gL P (F S') (F' S')) : gL P (fm_pz (kC Kd) c0 r k S x F) (fm_pz (kF Kd np) c0 r k S x F') := by
  unfold fm_pz
  rw [kF_g hr]
  exact gL_ite (fun _ => h _ (cl_wi hS)) (fun _ => gL_none _)
theorem gL_pr {r c0 k q : Nat} {S : fm_M} {F F' : fm_M → Option α} (hr : gR Kd np r) (hq : gR Kd np q) (hS : cl Kd np S) (h : ∀ S', cl Kd np S' → gL P (F S') (F' S')) : gL P (fm_pr (kC Kd) c0 r k S q F) (fm_pr (kF Kd np) c0 r k S q F') := by
  unfold fm_pr
  rw [kF_g hr]
  refine gL_ite (fun _ => h _ (fun r' k' q' hr' hs' h' => ?_)) (fun _ => gL_none _)
  unfold fm_wr at h'
  simp only at h'
  by_cases hk : r' = r ∧ k' = k
  · rw [if_pos hk] at h'
    cases h'
    exact hq
  · rw [if_neg hk] at h'
    exact hS r' k' q' hr' hs' h'
theorem gL_ld {r t : Nat} {i : Int32} {S : fm_M} {F F' : Int32 → Option α} (hr : gR Kd np r) (h : ∀ x, gL P (F x) (F' x)) : gL P (fm_ld (kC Kd) lam t r i S F) (fm_ld (kF Kd np) lam t r i S F') := by
  unfold fm_ld
  rw [kF_g hr]
  exact gL_ite (fun _ => h _) (fun _ => gL_none _)
theorem gL_lr {r t : Nat} {i : Int32} {S : fm_M} {F F' : Nat → Option α} (ht : ¬ t < 13) (hr : gR Kd np r) (hS : cl Kd np S) (h : ∀ q, gR Kd np q → gL P (F q) (F' q)) : gL P (fm_lr (kC Kd) lC t r i S F) (fm_lr (kF Kd np) lC t r i S F') := by
  unfold fm_lr
  rw [kF_g hr]
  refine gL_ite (fun hc => ?_) (fun _ => gL_none _)
  cases hq : S.2 r i.toNatClampNeg with
  | none => exact gL_none _
  | some q => exact h q (hS r _ q hr (by unfold rs; rw [hc.1, if_neg ht]; exact (fm_inb_lt hc.2)) hq)
theorem gL_st {r : Nat} {i x : Int32} {S : fm_M} {F F' : fm_M → Option α} (hr : gR Kd np r) (hS : cl Kd np S) (h : ∀ S', cl Kd np S' → gL P (F S') (F' S')) : gL P (fm_st (kC Kd) lam r i x S F) (fm_st (kF Kd np) lam r i x S F') := by
  unfold fm_st
  rw [kF_g hr]
  exact gL_ite (fun _ => h _ (cl_wi hS)) (fun _ => gL_none _)
theorem gL_sz {r : Nat} {i x : Int32} {S : fm_M} {F F' : fm_M → Option α} (hr : gR Kd np r) (hS : cl Kd np S) (h : ∀ S', cl Kd np S' → gL P (F S') (F' S')) : gL P (fm_sz (kC Kd) lam r i x S F) (fm_sz (kF Kd np) lam r i x S F') := by
  unfold fm_sz
  rw [kF_g hr]
  exact gL_ite (fun _ => h _ (cl_wi hS)) (fun _ => gL_none _)
theorem gL_ln {r t : Nat} {F F' : Int32 → Option α} (hr : gR Kd np r) (h : ∀ x, gL P (F x) (F' x)) : gL P (fm_ln (kC Kd) lam t r F) (fm_ln (kF Kd np) lam t r F') := by
  unfold fm_ln
  rw [kF_g hr]
  exact gL_ite (fun _ => h _) (fun _ => gL_none _)
theorem gL_z {x : Int32} {a a' : Option α} (h : gL P a a') : gL P (fm_z x a) (fm_z x a') := gL_ite (fun _ => h) (fun _ => gL_none _)
theorem gL_let {x : β} {F F' : β → Option α} (h : gL P (F x) (F' x)) : gL P (fm_let x F) (fm_let x F') := h
theorem gL_bi {Q : β × γ → Prop} {o o' : Option (β × γ)} {F F' : β → γ → Option α} (h1 : gL Q o o') (h2 : ∀ x y, Q (x, y) → gL P (F x y) (F' x y)) : gL P (fm_bi o F) (fm_bi o' F') := by
  cases o with
  | none => exact gL_none _
  | some u =>
    obtain ⟨e, hq⟩ := h1 u rfl
    subst e
    exact h2 u.1 u.2 hq
theorem gL_b1 {Q : β → Prop} {o o' : Option β} {F F' : β → Option α} (h1 : gL Q o o') (h2 : ∀ x, Q x → gL P (F x) (F' x)) : gL P (fm_b1 o F) (fm_b1 o' F') := by
  cases o with
  | none => exact gL_none _
  | some u =>
    obtain ⟨e, hq⟩ := h1 u rfl
    subst e
    exact h2 u hq
theorem gL_cp {a b : Nat} {i j n : Int32} {S : fm_M} {F F' : fm_M → Option α} (ha : gR Kd np a) (hb : gR Kd np b) (hS : cl Kd np S) (h : ∀ S', cl Kd np S' → gL P (F S') (F' S')) : gL P (fm_cp (kC Kd) lam a i b j n S F) (fm_cp (kF Kd np) lam a i b j n S F') := by
  unfold fm_cp
  rw [kF_g ha, kF_g hb]
  exact gL_ite (fun _ => h _ hS) (fun _ => gL_none _)
theorem gL_sl {t : Nat} {F F' : Int32 → Option α} (h : ∀ x, gL P (F x) (F' x)) : gL P (fm_slen_ t F) (fm_slen_ t F') := gL_ite (fun _ => h _) (fun _ => gL_none _)
theorem gL_sat {t : Nat} {i : Int32} {F F' : Int32 → Option α} (h : ∀ x, gL P (F x) (F' x)) : gL P (fm_sat_ t i F) (fm_sat_ t i F') := gL_ite (fun _ => h _) (fun _ => gL_none _)
end G
