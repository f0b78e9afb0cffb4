/-! THE FLAT MEMORY: a world is a list RL of roles (numbers), ad: role to address, kap: role to class number (below 13) or array code (13 int, 14 boolean, 15 Course, 16 Pane, 17 Town), lam: role to length, S: what each role holds at each slot (ints, references to roles). -/
abbrev fm_M : Type := (Nat → Nat → Int32) × (Nat → Nat → Option Nat)
def fm_AW : List Cond := lw_tbl.filter goodWord
theorem fm_in {w : Cond} (h : w ∈ lw_tbl) (g : goodWord w = true) : w ∈ fm_AW := List.mem_filter.mpr ⟨h, g⟩
theorem fm_AW_good : ∀ w ∈ fm_AW, w ∈ lw_tbl ∧ goodWord w = true := fun w h => List.mem_filter.mp h
def fm_ws (y : MethodName) (b : ByteArray) (n : Nat) (ret : Option FieldType) : List Cond := Cond.code y b n ret :: fm_AW
theorem fm_GoodIn {y y' : MethodName} {b b' : ByteArray} {n n' : Nat} {r r' : Option FieldType} (hc : Cond.code y' b' n' r' ∈ lw_tbl) : GoodIn (fm_ws y b n r) (fm_ws y' b' n' r') := by
  intro w hw
  rcases List.mem_cons.mp hw with h | h
  · subst h
    exact ⟨List.mem_cons_of_mem _ (fm_in hc rfl), Or.inl rfl⟩
  · exact ⟨List.mem_cons_of_mem _ h, good_of_word (fm_AW_good w h).2⟩
theorem fm_GoodIn1 {y : MethodName} {b : ByteArray} {n : Nat} {r : Option FieldType} {w : Cond} (hc : w ∈ lw_tbl) (g : goodWord w = true) : w ∈ fm_ws y b n r ∧ ((w.onTables && w.keeps) = true ∨ ∃ ty, w = .arrayClass ty) := ⟨List.mem_cons_of_mem _ (fm_in hc g), good_of_word g⟩
def fm_isR (c k : Nat) : Bool := match fm_ty c k with
  | .object _ => true
  | .array _ => true
  | _ => false
def fm_isZ (c k : Nat) : Bool := match fm_ty c k with
  | .boolean => true
  | _ => false
/-- class c is class c0, or under it -/
def fm_isC (c c0 : Nat) : Bool := match c0 with
  | 5 => match c with
    | 0 | 2 | 3 | 4 | 5 | 7 | 9 => true
    | _ => false
  | 7 => match c with
    | 7 | 9 => true
    | _ => false
  | 4 => match c with
    | 0 | 4 => true
    | _ => false
  | 3 => match c with
    | 2 | 3 => true
    | _ => false
  | c0 => c == c0
theorem fm_isC5 {c : Nat} (h : fm_isC c 5 = true) : c = 0 ∨ c = 2 ∨ c = 3 ∨ c = 4 ∨ c = 5 ∨ c = 7 ∨ c = 9 := by
  by_cases h9 : c < 13
  · have := (show ∀ c, c < 13 → fm_isC c 5 = true → c = 0 ∨ c = 2 ∨ c = 3 ∨ c = 4 ∨ c = 5 ∨ c = 7 ∨ c = 9 by decide) c h9 h
    exact this
  · exfalso
    match c, h9, h with
    | c + 13, _, h => cases h
theorem fm_isC7 {c : Nat} (h : fm_isC c 7 = true) : c = 7 ∨ c = 9 := by
  by_cases h9 : c < 13
  · exact (show ∀ c, c < 13 → fm_isC c 7 = true → c = 7 ∨ c = 9 by decide) c h9 h
  · exfalso
    match c, h9, h with
    | c + 13, _, h => cases h
theorem fm_isC4 {c : Nat} (h : fm_isC c 4 = true) : c = 0 ∨ c = 4 := by
  by_cases h9 : c < 13
  · exact (show ∀ c, c < 13 → fm_isC c 4 = true → c = 0 ∨ c = 4 by decide) c h9 h
  · exfalso
    match c, h9, h with
    | c + 13, _, h => cases h
theorem fm_isC3 {c : Nat} (h : fm_isC c 3 = true) : c = 2 ∨ c = 3 := by
  by_cases h9 : c < 13
  · exact (show ∀ c, c < 13 → fm_isC c 3 = true → c = 2 ∨ c = 3 by decide) c h9 h
  · exfalso
    match c, h9, h with
    | c + 13, _, h => cases h
def fm_fv (ad : Nat → Nat) (S : fm_M) (c r k : Nat) : Value := if fm_isR c k = true then va_rf ((S.2 r k).map ad) else .int (S.1 r k)
def fm_ct (ids : Nat → ClassId) (kap lam : Nat → Nat) (ad : Nat → Nat) (S : fm_M) (r : Nat) : va_E :=
  if kap r < 13 then .inr (kap r, (List.range (fm_N (kap r))).map (fm_fv ad S (kap r) r))
  else if kap r < 15 then .inl (ids (kap r), lam r, .inl (S.1 r))
  else .inl (ids (kap r), lam r, .inr (.inr (.inr (.inr (fun j => (S.2 r j).map ad)))))
def fm_w (ids : Nat → ClassId) (kap lam : Nat → Nat) (RL : List Nat) (ad : Nat → Nat) (S : fm_M) : va_W := RL.map (fun r => (ad r, fm_ct ids kap lam ad S r))
def fm_tys (ids : Nat → ClassId) : List (ClassId × FieldType) := [(ids 13, .int), (ids 14, .boolean), (ids 15, .object "FrostBids$Course"), (ids 16, .object "FrostBids$Pane"), (ids 17, .object "FrostBids$Town")]
def fm_wi (S : fm_M) (r k : Nat) (x : Int32) : fm_M := (fun r' k' => if r' = r ∧ k' = k then x else S.1 r' k', S.2)
def fm_wr (S : fm_M) (r k : Nat) (x : Option Nat) : fm_M := (S.1, fun r' k' => if r' = r ∧ k' = k then x else S.2 r' k')
def fm_A (RL : List Nat) (ad : Nat → Nat) (sz : Nat) : Nat → Prop := fun q => (∃ r, r ∈ RL ∧ q = ad r) ∨ sz ≤ q
/-- what never changes in a method: the roles are different, each has an address of its own, which the method may change -/
def fm_G (D : va_G) (ids kap : Nat → Nat) (RL : List Nat) (ad : Nat → Nat) (s : State) (A : Nat → Prop) : Prop :=
  RL.Nodup ∧ (∀ r, kap r < 18 → r ∈ RL) ∧ (∀ a, a ∈ RL → ∀ b, b ∈ RL → ad a = ad b → a = b) ∧ va_K D fm_cls (fm_tys ids) s ∧ (∀ r, r ∈ RL → A (ad r)) ∧ ∀ q, s.heap.size ≤ q → A q
def fm_F (D : va_G) (ids kap lam : Nat → Nat) (RL : List Nat) (ad : Nat → Nat) (S : fm_M) (A : Nat → Prop) (H0 H : Heap) (locs : List Loc) : Prop := va_P D fm_cls (fm_w ids kap lam RL ad S) H ∧ va_S A H0 H locs
theorem fm_at {ids kap lam : Nat → Nat} {RL : List Nat} {ad : Nat → Nat} {S : fm_M} {r : Nat} (h : r ∈ RL) : ∃ q0 : Nat, RL[q0]? = some r ∧ (fm_w ids kap lam RL ad S)[q0]? = some (ad r, fm_ct ids kap lam ad S r) := by
  obtain ⟨q0, hq⟩ := List.getElem?_of_mem h
  exact ⟨q0, hq, by simp [fm_w, List.getElem?_map, hq]⟩
theorem fm_setL {α : Type} {RL : List Nat} {g g' : Nat → α} {r q0 : Nat} (hn : RL.Nodup) (hq : RL[q0]? = some r) (h : ∀ x, x ≠ r → g' x = g x) : (RL.map g).set q0 (g' r) = RL.map g' := by
  apply List.ext_getElem?
  intro j
  have hl := (List.getElem?_eq_some_iff.mp hq).1
  by_cases hj : j = q0
  · subst hj
    rw [List.getElem?_set_self (by simpa using hl), List.getElem?_map, hq]
    rfl
  · rw [List.getElem?_set_ne (Ne.symm hj), List.getElem?_map, List.getElem?_map]
    cases hx : RL[j]? with
    | none => rfl
    | some x =>
      have hxr : x ≠ r := by
        intro e
        subst e
        exact hj ((List.getElem?_inj (i := j) (j := q0) (List.getElem?_eq_some_iff.mp hx).1 hn).mp (hx.trans hq.symm))
      simp [h x hxr]
theorem fm_D {ids kap lam : Nat → Nat} {RL : List Nat} {ad : Nat → Nat} {S : fm_M} {A : Nat → Prop} (hn : RL.Nodup) (hi : ∀ a, a ∈ RL → ∀ b, b ∈ RL → ad a = ad b → a = b) (hA : ∀ r, r ∈ RL → A (ad r)) : va_D A (fm_w ids kap lam RL ad S) := by
  have key : ∀ (k : Nat) (q : Nat × va_E), (fm_w ids kap lam RL ad S)[k]? = some q → ∃ r, RL[k]? = some r ∧ q.1 = ad r := by
    intro k q hk
    unfold fm_w at hk
    rw [List.getElem?_map] at hk
    cases hr : RL[k]? with
    | none => rw [hr] at hk; cases hk
    | some r => rw [hr] at hk; cases hk; exact ⟨r, rfl, rfl⟩
  refine ⟨fun i j p q h1 h2 e => ?_, fun k q hk => ?_⟩
  · obtain ⟨r1, a1, b1⟩ := key i p h1
    obtain ⟨r2, a2, b2⟩ := key j q h2
    have e2 : r1 = r2 := hi r1 (List.mem_of_getElem? a1) r2 (List.mem_of_getElem? a2) (by rw [← b1, ← b2, e])
    subst e2
    exact (List.getElem?_inj (i := i) (j := j) (List.getElem?_eq_some_iff.mp a1).1 hn).mp (a1.trans a2.symm)
  · obtain ⟨r, a1, b1⟩ := key k q hk
    rw [b1]
    exact hA r (List.mem_of_getElem? a1)
theorem fm_ct_obj {ids kap lam : Nat → Nat} {ad : Nat → Nat} {S : fm_M} {r c : Nat} (h : kap r = c) (hc : c < 13) : fm_ct ids kap lam ad S r = .inr (c, (List.range (fm_N c)).map (fm_fv ad S c r)) := by
  subst h
  simp [fm_ct, hc]
theorem fm_ct_int {ids kap lam : Nat → Nat} {ad : Nat → Nat} {S : fm_M} {r c : Nat} (h : kap r = c) (hc : ¬ c < 13) (hc2 : c < 15) : fm_ct ids kap lam ad S r = .inl (ids c, lam r, .inl (S.1 r)) := by
  subst h
  simp [fm_ct, hc, hc2]
theorem fm_ct_ref {ids kap lam : Nat → Nat} {ad : Nat → Nat} {S : fm_M} {r c : Nat} (h : kap r = c) (hc : ¬ c < 15) : fm_ct ids kap lam ad S r = .inl (ids c, lam r, .inr (.inr (.inr (.inr (fun j => (S.2 r j).map ad))))) := by
  subst h
  have : ¬ kap r < 13 := by omega
  simp [fm_ct, hc, this]
theorem fm_ct_wi {ids kap lam : Nat → Nat} {ad : Nat → Nat} {S : fm_M} {r k x : Nat} {v : Int32} (h : x ≠ r) : fm_ct ids kap lam ad (fm_wi S r k v) x = fm_ct ids kap lam ad S x := by
  have e : (fm_wi S r k v).1 x = S.1 x := by funext j; simp [fm_wi, h]
  have e2 : fm_fv ad (fm_wi S r k v) (kap x) x = fm_fv ad S (kap x) x := by funext j; simp [fm_fv, fm_wi, h]
  unfold fm_ct
  rw [e, e2]
  rfl
theorem fm_ct_wr {ids kap lam : Nat → Nat} {ad : Nat → Nat} {S : fm_M} {r k x : Nat} {v : Option Nat} (h : x ≠ r) : fm_ct ids kap lam ad (fm_wr S r k v) x = fm_ct ids kap lam ad S x := by
  have e : ∀ j, (fm_wr S r k v).2 x j = S.2 x j := by intro j; simp [fm_wr, h]
  have e2 : fm_fv ad (fm_wr S r k v) (kap x) x = fm_fv ad S (kap x) x := by funext j; simp [fm_fv, fm_wr, h]
  unfold fm_ct
  simp only [e, e2]
  rfl
theorem fm_len (c r : Nat) (ad : Nat → Nat) (S : fm_M) : ((List.range (fm_N c)).map (fm_fv ad S c r)).length = fm_N c := by simp
theorem fm_setF {c r k : Nat} {ad : Nat → Nat} {S S' : fm_M} (h : ∀ j, j ≠ k → fm_fv ad S' c r j = fm_fv ad S c r j) : ((List.range (fm_N c)).map (fm_fv ad S c r)).set k (fm_fv ad S' c r k) = (List.range (fm_N c)).map (fm_fv ad S' c r) := by
  apply List.ext_getElem?
  intro j
  by_cases hj : j = k
  · subst hj
    by_cases hl : j < fm_N c
    · rw [List.getElem?_set_self (by simpa using hl), List.getElem?_map, List.getElem?_range hl]
      rfl
    · rw [List.getElem?_eq_none (by simp; omega), List.getElem?_eq_none (by simp; omega)]
  · rw [List.getElem?_set_ne (Ne.symm hj), List.getElem?_map, List.getElem?_map]
    cases hx : (List.range (fm_N c))[j]? with
    | none => rfl
    | some x =>
      have : x = j := by
        have hl := (List.getElem?_eq_some_iff.mp hx).1
        rw [List.getElem?_range (by simpa using hl)] at hx
        exact (Option.some.inj hx).symm
      subst this
      simp [h x hj]
/-! what stands in the models -/
def fm_inb (i : Int32) (n : Nat) : Bool := !(decide (i < 0) || decide (n ≤ i.toNatClampNeg))
theorem fm_inb_in {i : Int32} {n : Nat} (h : fm_inb i n = true) : vp_in i n := by
  simp [fm_inb] at h
  intro q
  rcases q with q | q
  · exact absurd q (by simpa using h.1)
  · omega
section MODELS
variable {α : Type}
def fm_ck (b : Bool) (K : Option α) : Option α := if b = true then K else none
def fm_gi (kap : Nat → Nat) (c0 r k : Nat) (S : fm_M) (K : Int32 → Option α) : Option α := if fm_isC (kap r) c0 = true then K (S.1 r k) else none
def fm_gr (kap : Nat → Nat) (c0 r k : Nat) (S : fm_M) (K : Nat → Option α) : Option α := if fm_isC (kap r) c0 = true then (match S.2 r k with | none => none | some q => K q) else none
def fm_pi (kap : Nat → Nat) (c0 r k : Nat) (S : fm_M) (x : Int32) (K : fm_M → Option α) : Option α := if fm_isC (kap r) c0 = true then K (fm_wi S r k x) else none
def fm_pz (kap : Nat → Nat) (c0 r k : Nat) (S : fm_M) (x : Int32) (K : fm_M → Option α) : Option α := if fm_isC (kap r) c0 = true ∧ (x = 0 ∨ x = 1) then K (fm_wi S r k x) else none
def fm_pr (kap : Nat → Nat) (c0 r k : Nat) (S : fm_M) (x : Nat) (K : fm_M → Option α) : Option α := if fm_isC (kap r) c0 = true then K (fm_wr S r k (some x)) else none
def fm_ld (kap lam : Nat → Nat) (t r : Nat) (i : Int32) (S : fm_M) (K : Int32 → Option α) : Option α := if kap r = t ∧ fm_inb i (lam r) = true then K (S.1 r i.toNatClampNeg) else none
def fm_lr (kap lam : Nat → Nat) (t r : Nat) (i : Int32) (S : fm_M) (K : Nat → Option α) : Option α := if kap r = t ∧ fm_inb i (lam r) = true then (match S.2 r i.toNatClampNeg with | none => none | some q => K q) else none
def fm_st (kap lam : Nat → Nat) (r : Nat) (i : Int32) (x : Int32) (S : fm_M) (K : fm_M → Option α) : Option α := if kap r = 13 ∧ fm_inb i (lam r) = true then K (fm_wi S r i.toNatClampNeg x) else none
def fm_sz (kap lam : Nat → Nat) (r : Nat) (i : Int32) (x : Int32) (S : fm_M) (K : fm_M → Option α) : Option α := if kap r = 14 ∧ fm_inb i (lam r) = true ∧ (x = 0 ∨ x = 1) then K (fm_wi S r i.toNatClampNeg x) else none
def fm_ln (kap lam : Nat → Nat) (t r : Nat) (K : Int32 → Option α) : Option α := if kap r = t then K (nI (lam r)) else none
def fm_nz (x : Int32) (K : Option α) : Option α := if x = 0 then none else K
def fm_nzL (x : Int64) (K : Option α) : Option α := if x = 0 then none else K
def fm_z (x : Int32) (K : Option α) : Option α := if x = 0 ∨ x = 1 then K else none
/-- a name for a value -/
def fm_let {β : Type} (x : β) (K : β → Option α) : Option α := K x
def fm_bi {β γ : Type} (o : Option (β × γ)) (K : β → γ → Option α) : Option α := match o with
  | none => none
  | some x => K x.1 x.2
def fm_b1 {β : Type} (o : Option β) (K : β → Option α) : Option α := match o with
  | none => none
  | some x => K x
end MODELS
theorem fm_ip {α : Type} {c : Prop} [Decidable c] {a b : α} {r : α} (h : c) (hf : (if c then a else b) = r) : a = r := by rw [← hf, if_pos h]
theorem fm_ig {α : Type} {c : Prop} [Decidable c] {a b : α} {r : α} (h : ¬ c) (hf : (if c then a else b) = r) : b = r := by rw [← hf, if_neg h]
theorem fm_some {α : Type} {c : Prop} [Decidable c] {a : Option α} {r : α} (hf : (if c then a else none) = some r) : c ∧ a = some r := by
  by_cases h : c
  · rw [if_pos h] at hf; exact ⟨h, hf⟩
  · rw [if_neg h] at hf; cases hf
theorem fm_let_at {α β : Type} {x y : β} {K : β → Option α} {r : Option α} (e : y = x) (hf : fm_let x K = r) : K y = r := by rw [e]; exact hf
theorem fm_bi_some {α β γ : Type} {o : Option (β × γ)} {K : β → γ → Option α} {r : α} (hf : fm_bi o K = some r) : ∃ x y, o = some (x, y) ∧ K x y = some r := by
  cases o with
  | none => cases hf
  | some x => exact ⟨x.1, x.2, rfl, hf⟩
theorem fm_b1_some {α β : Type} {o : Option β} {K : β → Option α} {r : α} (hf : fm_b1 o K = some r) : ∃ x, o = some x ∧ K x = some r := by
  cases o with
  | none => cases hf
  | some x => exact ⟨x, rfl, hf⟩
/-! a field as a class file names it -/
def fm_fl (own : String) (idx c k : Nat) : Prop := k < fm_N c ∧ ∃ ref : String, Cond.fieldLink own idx ref (fm_T c k).2.1 (fm_T c k).2.2.1 ∈ lw_tbl ∧ (ref = (fm_T c k).1 ∨ Cond.sameField ref (fm_T c k).1 (fm_T c k).2.1 (fm_T c k).2.2.1 ∈ lw_tbl)
def fm_fls (own : String) (idx c0 k : Nat) (b z : Bool) : Prop := ∀ c, fm_isC c c0 = true → c < 13 ∧ fm_isR c k = b ∧ fm_isZ c k = z ∧ (fm_T c k).2.2.2 = false ∧ fm_fl own idx c k
/-- the same, where the field may be final: to read it -/
def fm_flr (own : String) (idx c0 k : Nat) (b : Bool) : Prop := ∀ c, fm_isC c c0 = true → c < 13 ∧ fm_isR c k = b ∧ fm_fl own idx c k
theorem fm_tyR {c k : Nat} (hr : fm_isR c k = true) (C : ∀ x, fm_ty c k ≠ .array x ∨ True) : ∃ x, fm_ty c k = .object x ∨ ∃ y, fm_ty c k = .array y := by
  unfold fm_isR at hr
  cases h : fm_ty c k with
  | object x => exact ⟨x, Or.inl rfl⟩
  | array y => exact ⟨"", Or.inr ⟨y, rfl⟩⟩
  | _ => rw [h] at hr; cases hr
section RULES
variable {p : Program} {l : Launch} {e : Env} {R : Room} {s : State} {m : MethodId} {args : Array Value} {below : List Frame} {meth : Method} {c : Code} {H : Heap} {locs : List Loc} {cells slots : Nat} {Q : State → Prop}
variable {cc : ByteArray} {pc nL : Nat} {ls : Array Slot} {rest : List Value} {own : String} {D : va_G} {ids kap lam : Nat → Nat} {RL : List Nat} {ad : Nat → Nat} {S : fm_M} {A : Nat → Prop} {α : Type} {res : α}
theorem fm_getv (Z : CallFix p m c cc nL s args fm_AW own) (G : fm_G D ids kap RL ad s A) (F : fm_F D ids kap lam RL ad S A s.heap H locs) {r k idx : Nat} (hc : kap r < 13) (fl : fm_fl own idx (kap r) k) (hdg : decode cc pc = .ok (.getfield idx, 3))
    (kk : W p l e R s m args below meth c H locs cells slots Q (F0 m (pc + 3) ls (fm_fv ad S (kap r) r k :: rest))) : W p l e R s m args below meth c H locs cells slots Q (F0 m pc ls (.ref (ad r) :: rest)) := by
  obtain ⟨hx, hb, hml, hown, hts⟩ := Z
  obtain ⟨hk, ref, hlink, hsame⟩ := fl
  obtain ⟨q0, hq, he⟩ := fm_at (ids := ids) (kap := kap) (lam := lam) (ad := ad) (S := S) (G.2.1 r (by omega))
  rw [fm_ct_obj rfl hc] at he
  refine va_get (Ts := u_ws (fm_R (kap r)) (fm_T (kap r)) (fm_N (kap r))) hx hb (fun w hw => hts w (fm_in (fm_uin _ hc w hw).1 (fm_uin _ hc w hw).2)) (fun w hw => hw) hown G.2.2.2.1 F.1 q0 he (fm_cls_at _ hc) k hk (hts _ (fm_in hlink rfl)) ?_ ?_ hdg kk
  · intro x hxx
    rcases hsame with h | h
    · rw [h]; exact hxx
    · exact u_same (hts _ (fm_in h rfl)) x hxx
  · rw [List.getElem?_map, List.getElem?_range hk]
    rfl
theorem fm_rgi (Z : CallFix p m c cc nL s args fm_AW own) (G : fm_G D ids kap RL ad s A) (F : fm_F D ids kap lam RL ad S A s.heap H locs) {c0 r k idx : Nat} {K : Int32 → Option α} (hf : fm_gi kap c0 r k S K = some res) (fl : fm_flr own idx c0 k false) (hdg : decode cc pc = .ok (.getfield idx, 3))
    (kk : ∀ x, x = S.1 r k → K x = some res → W p l e R s m args below meth c H locs cells slots Q (F0 m (pc + 3) ls (.int x :: rest))) : W p l e R s m args below meth c H locs cells slots Q (F0 m pc ls (.ref (ad r) :: rest)) := by
  obtain ⟨h1, hf⟩ := fm_some hf
  obtain ⟨hc, hr, fl⟩ := fl _ h1
  refine fm_getv Z G F hc fl hdg ?_
  rw [show fm_fv ad S (kap r) r k = .int (S.1 r k) by simp [fm_fv, hr]]
  exact kk _ rfl hf
theorem fm_rgr (Z : CallFix p m c cc nL s args fm_AW own) (G : fm_G D ids kap RL ad s A) (F : fm_F D ids kap lam RL ad S A s.heap H locs) {c0 r k idx : Nat} {K : Nat → Option α} (hf : fm_gr kap c0 r k S K = some res) (fl : fm_flr own idx c0 k true) (hdg : decode cc pc = .ok (.getfield idx, 3))
    (kk : ∀ q, S.2 r k = some q → K q = some res → W p l e R s m args below meth c H locs cells slots Q (F0 m (pc + 3) ls (.ref (ad q) :: rest))) : W p l e R s m args below meth c H locs cells slots Q (F0 m pc ls (.ref (ad r) :: rest)) := by
  obtain ⟨h1, hf⟩ := fm_some hf
  obtain ⟨hc, hr, fl⟩ := fl _ h1
  refine fm_getv Z G F hc fl hdg ?_
  cases hq : S.2 r k with
  | none => rw [hq] at hf; cases hf
  | some q =>
    rw [hq] at hf
    rw [show fm_fv ad S (kap r) r k = .ref (ad q) by simp [fm_fv, hr, hq, va_rf]]
    exact kk q hq hf
theorem fm_putv (Z : CallFix p m c cc nL s args fm_AW own) (G : fm_G D ids kap RL ad s A) (F : fm_F D ids kap lam RL ad S A s.heap H locs) {r k idx : Nat} {S' : fm_M} {v : Value} (hc : kap r < 13) (fl : fm_fl own idx (kap r) k) (hfin : (fm_T (kap r) k).2.2.2 = false) (hn : narrow (fm_ty (kap r) k) v = v) (hfit : fits (fm_ty (kap r) k) v = true)
    (hv : fm_fv ad S' (kap r) r k = v) (ho : ∀ j, j ≠ k → fm_fv ad S' (kap r) r j = fm_fv ad S (kap r) r j) (hq : ∀ x, x ≠ r → fm_ct ids kap lam ad S' x = fm_ct ids kap lam ad S x) (hdg : decode cc pc = .ok (.putfield idx, 3))
    (kk : ∀ H1 locs1, fm_F D ids kap lam RL ad S' A s.heap H1 locs1 → W p l e R s m args below meth c H1 locs1 cells slots Q (F0 m (pc + 3) ls rest)) : W p l e R s m args below meth c H locs cells slots Q (F0 m pc ls (v :: .ref (ad r) :: rest)) := by
  obtain ⟨hx, hb, hml, hown, hts⟩ := Z
  obtain ⟨hk, ref, hlink, hsame⟩ := fl
  obtain ⟨hnd, hin, hinj, hK, hAr, hAs⟩ := G
  obtain ⟨q0, hq0, he⟩ := fm_at (ids := ids) (kap := kap) (lam := lam) (ad := ad) (S := S) (hin r (by omega))
  rw [fm_ct_obj rfl hc] at he
  refine va_put (Ts := u_ws (fm_R (kap r)) (fm_T (kap r)) (fm_N (kap r))) hx hb (fun w hw => hts w (fm_in (fm_uin _ hc w hw).1 (fm_uin _ hc w hw).2)) (fun w hw => hw) (fm_ty (kap r)) (fm_tyok _ hc) (fm_nm _ hc) hown hK F.1 (fm_D hnd hinj hAr) F.2 q0 he (fm_cls_at _ hc) k hk (hts _ (fm_in hlink rfl)) ?_ hfin (fm_tyok _ hc k hk) hn hfit (by rw [fm_len]; exact hk) hdg (fun H1 locs1 hP hD hS => kk H1 locs1 ⟨?_, hS⟩)
  · intro x hxx
    rcases hsame with h | h
    · rw [h]; exact hxx
    · exact u_same (hts _ (fm_in h rfl)) x hxx
  · have e1 := fm_setF (c := kap r) (r := r) (k := k) (ad := ad) (S := S) (S' := S') ho
    rw [hv] at e1
    rw [e1, ← fm_ct_obj (ids := ids) (lam := lam) rfl hc] at hP
    have e2 := fm_setL (g := fun r => (ad r, fm_ct ids kap lam ad S r)) (g' := fun r => (ad r, fm_ct ids kap lam ad S' r)) hnd hq0 (fun x hx => by simp [hq x hx])
    unfold fm_w at hP ⊢
    rw [e2] at hP
    exact hP
theorem fm_rpi (Z : CallFix p m c cc nL s args fm_AW own) (G : fm_G D ids kap RL ad s A) (F : fm_F D ids kap lam RL ad S A s.heap H locs) {c0 r k idx : Nat} {x : Int32} {K : fm_M → Option α} (hf : fm_pi kap c0 r k S x K = some res) (fl : fm_fls own idx c0 k false false) (hdg : decode cc pc = .ok (.putfield idx, 3)) (hi : ∀ c, fm_isC c c0 = true → fm_ty c k = .int)
    (kk : ∀ S1 H1 locs1, S1 = fm_wi S r k x → fm_F D ids kap lam RL ad S1 A s.heap H1 locs1 → K S1 = some res → W p l e R s m args below meth c H1 locs1 cells slots Q (F0 m (pc + 3) ls rest)) : W p l e R s m args below meth c H locs cells slots Q (F0 m pc ls (.int x :: .ref (ad r) :: rest)) := by
  obtain ⟨h1, hf⟩ := fm_some hf
  obtain ⟨hc, hr, hz, hfin, fl⟩ := fl _ h1
  refine fm_putv Z G F hc fl hfin (by rw [hi _ h1]; rfl) (by rw [hi _ h1]; rfl) (S' := fm_wi S r k x) (by simp [fm_fv, hr, fm_wi]) (fun j hj => by simp [fm_fv, fm_wi, hj]) (fun y hy => fm_ct_wi hy) hdg (fun H1 locs1 hF => kk _ H1 locs1 rfl hF hf)
theorem fm_rpz (Z : CallFix p m c cc nL s args fm_AW own) (G : fm_G D ids kap RL ad s A) (F : fm_F D ids kap lam RL ad S A s.heap H locs) {c0 r k idx : Nat} {x : Int32} {K : fm_M → Option α} (hf : fm_pz kap c0 r k S x K = some res) (fl : fm_fls own idx c0 k false true) (hdg : decode cc pc = .ok (.putfield idx, 3)) (hi : ∀ c, fm_isC c c0 = true → fm_ty c k = .boolean)
    (kk : ∀ S1 H1 locs1, S1 = fm_wi S r k x → fm_F D ids kap lam RL ad S1 A s.heap H1 locs1 → K S1 = some res → W p l e R s m args below meth c H1 locs1 cells slots Q (F0 m (pc + 3) ls rest)) : W p l e R s m args below meth c H locs cells slots Q (F0 m pc ls (.int x :: .ref (ad r) :: rest)) := by
  obtain ⟨⟨h1, hx⟩, hf⟩ := fm_some hf
  obtain ⟨hc, hr, hz, hfin, fl⟩ := fl _ h1
  refine fm_putv Z G F hc fl hfin (by rw [hi _ h1]; rcases hx with h | h <;> subst h <;> decide) (by rw [hi _ h1]; rcases hx with h | h <;> subst h <;> decide) (S' := fm_wi S r k x) (by simp [fm_fv, hr, fm_wi]) (fun j hj => by simp [fm_fv, fm_wi, hj]) (fun y hy => fm_ct_wi hy) hdg (fun H1 locs1 hF => kk _ H1 locs1 rfl hF hf)
theorem fm_rpr (Z : CallFix p m c cc nL s args fm_AW own) (G : fm_G D ids kap RL ad s A) (F : fm_F D ids kap lam RL ad S A s.heap H locs) {c0 r k idx q : Nat} {K : fm_M → Option α} (hf : fm_pr kap c0 r k S q K = some res) (fl : fm_fls own idx c0 k true false) (hdg : decode cc pc = .ok (.putfield idx, 3))
    (kk : ∀ S1 H1 locs1, S1 = fm_wr S r k (some q) → fm_F D ids kap lam RL ad S1 A s.heap H1 locs1 → K S1 = some res → W p l e R s m args below meth c H1 locs1 cells slots Q (F0 m (pc + 3) ls rest)) : W p l e R s m args below meth c H locs cells slots Q (F0 m pc ls (.ref (ad q) :: .ref (ad r) :: rest)) := by
  obtain ⟨h1, hf⟩ := fm_some hf
  obtain ⟨hc, hr, hz, hfin, fl⟩ := fl _ h1
  have hty : narrow (fm_ty (kap r) k) (.ref (ad q)) = .ref (ad q) ∧ fits (fm_ty (kap r) k) (.ref (ad q)) = true := by
    obtain ⟨x, h | ⟨y, h⟩⟩ := fm_tyR hr (fun _ => Or.inr trivial) <;> rw [h] <;> exact ⟨rfl, rfl⟩
  refine fm_putv Z G F hc fl hfin hty.1 hty.2 (S' := fm_wr S r k (some q)) (by simp [fm_fv, hr, fm_wr, va_rf]) (fun j hj => by simp [fm_fv, fm_wr, hj]) (fun y hy => fm_ct_wr hy) hdg (fun H1 locs1 hF => kk _ H1 locs1 rfl hF hf)
theorem fm_rld (Z : CallFix p m c cc nL s args fm_AW own) (G : fm_G D ids kap RL ad s A) (F : fm_F D ids kap lam RL ad S A s.heap H locs) {r : Nat} {i : Int32} {K : Int32 → Option α} (hf : fm_ld kap lam 13 r i S K = some res) (hdg : decode cc pc = .ok (.iaload, 1))
    (kk : ∀ x, x = S.1 r i.toNatClampNeg → K x = some res → W p l e R s m args below meth c H locs cells slots Q (F0 m (pc + 1) ls (.int x :: rest))) : W p l e R s m args below meth c H locs cells slots Q (F0 m pc ls (.int i :: .ref (ad r) :: rest)) := by
  obtain ⟨⟨h1, h2⟩, hf⟩ := fm_some hf
  obtain ⟨q0, hq0, he⟩ := fm_at (ids := ids) (kap := kap) (lam := lam) (ad := ad) (S := S) (G.2.1 r (by omega))
  rw [fm_ct_int h1 (by decide) (by decide)] at he
  exact va_iald Z.1 Z.2.1 G.2.2.2.1 F.1 q0 0 he rfl (fm_inb_in h2) hdg (kk _ rfl hf)
theorem fm_rlz (Z : CallFix p m c cc nL s args fm_AW own) (G : fm_G D ids kap RL ad s A) (F : fm_F D ids kap lam RL ad S A s.heap H locs) {r : Nat} {i : Int32} {K : Int32 → Option α} (hf : fm_ld kap lam 14 r i S K = some res) (hdg : decode cc pc = .ok (.baload, 1))
    (kk : ∀ x, x = S.1 r i.toNatClampNeg → K x = some res → W p l e R s m args below meth c H locs cells slots Q (F0 m (pc + 1) ls (.int x :: rest))) : W p l e R s m args below meth c H locs cells slots Q (F0 m pc ls (.int i :: .ref (ad r) :: rest)) := by
  obtain ⟨⟨h1, h2⟩, hf⟩ := fm_some hf
  obtain ⟨q0, hq0, he⟩ := fm_at (ids := ids) (kap := kap) (lam := lam) (ad := ad) (S := S) (G.2.1 r (by omega))
  rw [fm_ct_int h1 (by decide) (by decide)] at he
  exact va_zald Z.1 Z.2.1 G.2.2.2.1 F.1 q0 1 he rfl (fm_inb_in h2) hdg (kk _ rfl hf)
theorem fm_tyq {t : Nat} (h1 : ¬ t < 15) (h2 : t < 18) : ∃ (t0 : Nat) (C : String), (fm_tys ids)[t0]? = some (ids t, .object C) := by
  match t, h1, h2 with
  | 15, _, _ => exact ⟨2, _, rfl⟩
  | 16, _, _ => exact ⟨3, _, rfl⟩
  | 17, _, _ => exact ⟨4, _, rfl⟩
  | t + 18, _, h => exact absurd h (by omega)
theorem fm_rlr (Z : CallFix p m c cc nL s args fm_AW own) (G : fm_G D ids kap RL ad s A) (F : fm_F D ids kap lam RL ad S A s.heap H locs) {r t : Nat} {i : Int32} {K : Nat → Option α} (ht1 : ¬ t < 15) (ht2 : t < 18) (hf : fm_lr kap lam t r i S K = some res) (hdg : decode cc pc = .ok (.aaload, 1))
    (kk : ∀ q, S.2 r i.toNatClampNeg = some q → K q = some res → W p l e R s m args below meth c H locs cells slots Q (F0 m (pc + 1) ls (.ref (ad q) :: rest))) : W p l e R s m args below meth c H locs cells slots Q (F0 m pc ls (.int i :: .ref (ad r) :: rest)) := by
  obtain ⟨⟨h1, h2⟩, hf⟩ := fm_some hf
  obtain ⟨q0, hq0, he⟩ := fm_at (ids := ids) (kap := kap) (lam := lam) (ad := ad) (S := S) (G.2.1 r (by omega))
  rw [fm_ct_ref h1 ht1] at he
  obtain ⟨t0, C, h0⟩ := fm_tyq (ids := ids) ht1 ht2
  refine va_aldq Z.1 Z.2.1 G.2.2.2.1 F.1 q0 t0 he h0 (fm_inb_in h2) hdg ?_
  cases hq : S.2 r i.toNatClampNeg with
  | none => rw [hq] at hf; cases hf
  | some q =>
    rw [hq] at hf
    exact kk q hq hf
theorem fm_rst (Z : CallFix p m c cc nL s args fm_AW own) (G : fm_G D ids kap RL ad s A) (F : fm_F D ids kap lam RL ad S A s.heap H locs) {r : Nat} {i x : Int32} {K : fm_M → Option α} (hf : fm_st kap lam r i x S K = some res) (hdg : decode cc pc = .ok (.iastore, 1))
    (kk : ∀ S1 H1 locs1, S1 = fm_wi S r i.toNatClampNeg x → fm_F D ids kap lam RL ad S1 A s.heap H1 locs1 → K S1 = some res → W p l e R s m args below meth c H1 locs1 cells slots Q (F0 m (pc + 1) ls rest)) : W p l e R s m args below meth c H locs cells slots Q (F0 m pc ls (.int x :: .int i :: .ref (ad r) :: rest)) := by
  obtain ⟨⟨h1, h2⟩, hf⟩ := fm_some hf
  obtain ⟨hnd, hin, hinj, hK, hAr, hAs⟩ := G
  obtain ⟨q0, hq0, he⟩ := fm_at (ids := ids) (kap := kap) (lam := lam) (ad := ad) (S := S) (hin r (by omega))
  rw [fm_ct_int h1 (by decide) (by decide)] at he
  refine va_iast Z.1 Z.2.1 hK F.1 (fm_D hnd hinj hAr) F.2 q0 0 he rfl (fm_inb_in h2) hdg (fun H1 locs1 hP hD hS => kk _ H1 locs1 rfl ⟨?_, hS⟩ hf)
  have e0 : upd (S.1 r) i.toNatClampNeg x = (fm_wi S r i.toNatClampNeg x).1 r := by funext j; simp [upd, fm_wi]
  rw [e0, ← fm_ct_int (ids := ids) (kap := kap) (lam := lam) (ad := ad) (S := fm_wi S r i.toNatClampNeg x) h1 (by decide) (by decide)] at hP
  have e2 := fm_setL (g := fun r => (ad r, fm_ct ids kap lam ad S r)) (g' := fun y => (ad y, fm_ct ids kap lam ad (fm_wi S r i.toNatClampNeg x) y)) hnd hq0 (fun y hy => by simp [fm_ct_wi hy])
  unfold fm_w at hP ⊢
  rw [e2] at hP
  exact hP
theorem fm_rsz (Z : CallFix p m c cc nL s args fm_AW own) (G : fm_G D ids kap RL ad s A) (F : fm_F D ids kap lam RL ad S A s.heap H locs) {r : Nat} {i x : Int32} {K : fm_M → Option α} (hf : fm_sz kap lam r i x S K = some res) (hdg : decode cc pc = .ok (.bastore, 1))
    (kk : ∀ S1 H1 locs1, S1 = fm_wi S r i.toNatClampNeg x → fm_F D ids kap lam RL ad S1 A s.heap H1 locs1 → K S1 = some res → W p l e R s m args below meth c H1 locs1 cells slots Q (F0 m (pc + 1) ls rest)) : W p l e R s m args below meth c H locs cells slots Q (F0 m pc ls (.int x :: .int i :: .ref (ad r) :: rest)) := by
  obtain ⟨⟨h1, h2, hx⟩, hf⟩ := fm_some hf
  obtain ⟨hnd, hin, hinj, hK, hAr, hAs⟩ := G
  obtain ⟨q0, hq0, he⟩ := fm_at (ids := ids) (kap := kap) (lam := lam) (ad := ad) (S := S) (hin r (by omega))
  rw [fm_ct_int h1 (by decide) (by decide)] at he
  have ex : vp_nar .boolean x = x := by rcases hx with h | h <;> subst h <;> decide
  refine va_zast Z.1 Z.2.1 hK F.1 (fm_D hnd hinj hAr) F.2 q0 1 he rfl (fm_inb_in h2) hdg (fun H1 locs1 hP hD hS => kk _ H1 locs1 rfl ⟨?_, hS⟩ hf)
  rw [ex] at hP
  have e0 : upd (S.1 r) i.toNatClampNeg x = (fm_wi S r i.toNatClampNeg x).1 r := by funext j; simp [upd, fm_wi]
  rw [e0, ← fm_ct_int (ids := ids) (kap := kap) (lam := lam) (ad := ad) (S := fm_wi S r i.toNatClampNeg x) h1 (by decide) (by decide)] at hP
  have e2 := fm_setL (g := fun r => (ad r, fm_ct ids kap lam ad S r)) (g' := fun y => (ad y, fm_ct ids kap lam ad (fm_wi S r i.toNatClampNeg x) y)) hnd hq0 (fun y hy => by simp [fm_ct_wi hy])
  unfold fm_w at hP ⊢
  rw [e2] at hP
  exact hP
theorem fm_rln (Z : CallFix p m c cc nL s args fm_AW own) (G : fm_G D ids kap RL ad s A) (F : fm_F D ids kap lam RL ad S A s.heap H locs) {r : Nat} {K : Int32 → Option α} (hf : fm_ln kap lam 13 r K = some res) (hdg : decode cc pc = .ok (.arraylength, 1))
    (kk : ∀ x, x = nI (lam r) → K x = some res → W p l e R s m args below meth c H locs cells slots Q (F0 m (pc + 1) ls (.int x :: rest))) : W p l e R s m args below meth c H locs cells slots Q (F0 m pc ls (.ref (ad r) :: rest)) := by
  obtain ⟨h1, hf⟩ := fm_some hf
  obtain ⟨q0, hq0, he⟩ := fm_at (ids := ids) (kap := kap) (lam := lam) (ad := ad) (S := S) (G.2.1 r (by omega))
  rw [fm_ct_int h1 (by decide) (by decide)] at he
  exact va_alen Z.1 Z.2.1 G.2.2.2.1 F.1 q0 0 he rfl rfl hdg (kk _ rfl hf)
end RULES
