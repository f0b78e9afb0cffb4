/-! the class's models look at no role but such as can be reached: they say the same where the other roles are nothing -/
def gR (np r : Nat) : Prop := r < 70 ∨ (100 ≤ r ∧ (r - 100) / 6 < np)
def gRb (np r : Nat) : Bool := decide (r < 70) || (decide (100 ≤ r) && decide ((r - 100) / 6 < np))
theorem gRb_t {np r : Nat} : gRb np r = true ↔ gR np r := by simp [gRb, gR]
def kF (Kd : Nat → Nat) (np r : Nat) : Nat := if gRb np r = true then kC Kd r else 99
theorem kF_g {Kd : Nat → Nat} {np r : Nat} (h : gR np r) : kF Kd np r = kC Kd r := if_pos (gRb_t.2 h)
def cl (np : Nat) (S : fm_M) : Prop := ∀ r k q, gR np r → S.2 r k = some q → gR np q
def gL {α : Type} (P : α → Prop) (X Y : Option α) : Prop := ∀ u, X = some u → Y = some u ∧ P u
section G
variable {α β γ : Type} {P : α → Prop} {Kd : Nat → Nat} {np : Nat} {lam : Nat → Nat}
theorem gL_none (Y : Option α) : gL P none Y := fun _ h => absurd h (by simp)
theorem gL_some {u : α} (h : P u) : gL P (some u) (some u) := fun _ e => ⟨e, by cases e; exact h⟩
theorem gL_ite {c : Prop} [Decidable c] {a b a' b' : Option α} (h1 : c → gL P a a') (h2 : ¬ c → gL P b b') : gL P (if c then a else b) (if c then a' else b') := by
  by_cases h : c
  · rw [if_pos h, if_pos h]; exact h1 h
  · rw [if_neg h, if_neg h]; exact h2 h
theorem gL_ck {r t : Nat} {a a' : Option α} (hr : gR np r) (h : gL P a a') : gL P (fm_ck (kC Kd r == t) a) (fm_ck (kF Kd np r == t) a') := by
  rw [kF_g hr]
  exact gL_ite (fun _ => h) (fun _ => gL_none _)
theorem gL_ckC {r t : Nat} {a a' : Option α} (hr : gR np r) (h : gL P a a') : gL P (fm_ck (fm_isC (kC Kd r) t) a) (fm_ck (fm_isC (kF Kd np r) t) a') := by
  rw [kF_g hr]
  exact gL_ite (fun _ => h) (fun _ => gL_none _)
theorem gL_gi {r c0 k : Nat} {S : fm_M} {F F' : Int32 → Option α} (hr : gR np r) (h : ∀ x, gL P (F x) (F' x)) : gL P (fm_gi (kC Kd) c0 r k S F) (fm_gi (kF Kd np) c0 r k S F') := by
  unfold fm_gi
  rw [kF_g hr]
  exact gL_ite (fun _ => h _) (fun _ => gL_none _)
theorem gL_gr {r c0 k : Nat} {S : fm_M} {F F' : Nat → Option α} (hr : gR np r) (hS : cl np S) (h : ∀ q, gR np q → gL P (F q) (F' q)) : gL P (fm_gr (kC Kd) c0 r k S F) (fm_gr (kF Kd np) c0 r k S F') := by
  unfold fm_gr
  rw [kF_g hr]
  refine gL_ite (fun _ => ?_) (fun _ => gL_none _)
  cases hq : S.2 r k with
  | none => exact gL_none _
  | some q => exact h q (hS r k q hr hq)
theorem cl_wi {S : fm_M} {r k : Nat} {x : Int32} (hS : cl np S) : cl np (fm_wi S r k x) := hS
theorem gL_pi {r c0 k : Nat} {S : fm_M} {x : Int32} {F F' : fm_M → Option α} (hr : gR np r) (hS : cl np S) (h : ∀ S', cl np S' → gL P (F S') (F' S')) : gL P (fm_pi (kC Kd) c0 r k S x F) (fm_pi (kF Kd np) c0 r k S x F') := by
  unfold fm_pi
  rw [kF_g hr]
  exact gL_ite (fun _ => h _ (cl_wi hS)) (fun _ => gL_none _)
theorem gL_pz {r c0 k : Nat} {S : fm_M} {x : Int32} {F F' : fm_M → Option α} (hr : gR np r) (hS : cl np S) (h : ∀ S', cl np S' → gL P (F S') (F' S')) : gL P (fm_pz (kC Kd) c0 r k S x F) (fm_pz (kF Kd np) c0 r k S x F') := by
  unfold fm_pz
  rw [kF_g hr]
  exact gL_ite (fun _ => h _ (cl_wi hS)) (fun _ => gL_none _)
theorem gL_pr {r c0 k q : Nat} {S : fm_M} {F F' : fm_M → Option α} (hr : gR np r) (hq : gR np q) (hS : cl np S) (h : ∀ S', cl np S' → gL P (F S') (F' S')) : gL P (fm_pr (kC Kd) c0 r k S q F) (fm_pr (kF Kd np) c0 r k S q F') := by
  unfold fm_pr
  rw [kF_g hr]
  refine gL_ite (fun _ => h _ (fun r' k' q' hr' h' => ?_)) (fun _ => gL_none _)
  unfold fm_wr at h'
  simp only at h'
  by_cases hk : r' = r ∧ k' = k
  · rw [if_pos hk] at h'
    cases h'
    exact hq
  · rw [if_neg hk] at h'
    exact hS r' k' q' hr' h'
theorem gL_ld {r t : Nat} {i : Int32} {S : fm_M} {F F' : Int32 → Option α} (hr : gR np r) (h : ∀ x, gL P (F x) (F' x)) : gL P (fm_ld (kC Kd) lam t r i S F) (fm_ld (kF Kd np) lam t r i S F') := by
  unfold fm_ld
  rw [kF_g hr]
  exact gL_ite (fun _ => h _) (fun _ => gL_none _)
theorem gL_lr {r t : Nat} {i : Int32} {S : fm_M} {F F' : Nat → Option α} (hr : gR np r) (hS : cl np S) (h : ∀ q, gR np q → gL P (F q) (F' q)) : gL P (fm_lr (kC Kd) lam t r i S F) (fm_lr (kF Kd np) lam t r i S F') := by
  unfold fm_lr
  rw [kF_g hr]
  refine gL_ite (fun _ => ?_) (fun _ => gL_none _)
  cases hq : S.2 r i.toNatClampNeg with
  | none => exact gL_none _
  | some q => exact h q (hS r _ q hr hq)
theorem gL_st {r : Nat} {i x : Int32} {S : fm_M} {F F' : fm_M → Option α} (hr : gR np r) (hS : cl np S) (h : ∀ S', cl np S' → gL P (F S') (F' S')) : gL P (fm_st (kC Kd) lam r i x S F) (fm_st (kF Kd np) lam r i x S F') := by
  unfold fm_st
  rw [kF_g hr]
  exact gL_ite (fun _ => h _ (cl_wi hS)) (fun _ => gL_none _)
theorem gL_sz {r : Nat} {i x : Int32} {S : fm_M} {F F' : fm_M → Option α} (hr : gR np r) (hS : cl np S) (h : ∀ S', cl np S' → gL P (F S') (F' S')) : gL P (fm_sz (kC Kd) lam r i x S F) (fm_sz (kF Kd np) lam r i x S F') := by
  unfold fm_sz
  rw [kF_g hr]
  exact gL_ite (fun _ => h _ (cl_wi hS)) (fun _ => gL_none _)
theorem gL_ln {r t : Nat} {F F' : Int32 → Option α} (hr : gR np r) (h : ∀ x, gL P (F x) (F' x)) : gL P (fm_ln (kC Kd) lam t r F) (fm_ln (kF Kd np) lam t r F') := by
  unfold fm_ln
  rw [kF_g hr]
  exact gL_ite (fun _ => h _) (fun _ => gL_none _)
theorem gL_z {x : Int32} {a a' : Option α} (h : gL P a a') : gL P (fm_z x a) (fm_z x a') := gL_ite (fun _ => h) (fun _ => gL_none _)
theorem gL_let {x : β} {F F' : β → Option α} (h : gL P (F x) (F' x)) : gL P (fm_let x F) (fm_let x F') := h
theorem gL_bi {Q : β × γ → Prop} {o o' : Option (β × γ)} {F F' : β → γ → Option α} (h1 : gL Q o o') (h2 : ∀ x y, Q (x, y) → gL P (F x y) (F' x y)) : gL P (fm_bi o F) (fm_bi o' F') := by
  cases o with
  | none => exact gL_none _
  | some u =>
    obtain ⟨e, hq⟩ := h1 u rfl
    subst e
    exact h2 u.1 u.2 hq
theorem gL_b1 {Q : β → Prop} {o o' : Option β} {F F' : β → Option α} (h1 : gL Q o o') (h2 : ∀ x, Q x → gL P (F x) (F' x)) : gL P (fm_b1 o F) (fm_b1 o' F') := by
  cases o with
  | none => exact gL_none _
  | some u =>
    obtain ⟨e, hq⟩ := h1 u rfl
    subst e
    exact h2 u hq
theorem gL_cp {a b : Nat} {i j n : Int32} {S : fm_M} {F F' : fm_M → Option α} (ha : gR np a) (hb : gR np b) (hS : cl np S) (h : ∀ S', cl np S' → gL P (F S') (F' S')) : gL P (fm_cp (kC Kd) lam a i b j n S F) (fm_cp (kF Kd np) lam a i b j n S F') := by
  unfold fm_cp
  rw [kF_g ha, kF_g hb]
  exact gL_ite (fun _ => h _ hS) (fun _ => gL_none _)
theorem gL_sl {t : Nat} {F F' : Int32 → Option α} (h : ∀ x, gL P (F x) (F' x)) : gL P (fm_slen_ t F) (fm_slen_ t F') := gL_ite (fun _ => h _) (fun _ => gL_none _)
theorem gL_sat {t : Nat} {i : Int32} {F F' : Int32 → Option α} (h : ∀ x, gL P (F x) (F' x)) : gL P (fm_sat_ t i F) (fm_sat_ t i F') := gL_ite (fun _ => h _) (fun _ => gL_none _)
end G
