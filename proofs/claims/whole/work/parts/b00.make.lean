/-! MAKERS: contracts of constructors over a world of their own, a list of cells -/
def mk_rm (h mc ms : Nat) : Room := { frames := h, cells := mc, slots := ms, locals := 40 * h }
def mk_Pre (D : va_G) (ids : Nat → ClassId) (ws : va_W) (av : List Value) (sz : Nat) : Array Value → State → Prop := va_Pc av (fun U => U.heap.size = sz ∧ va_P D fm_cls ws U.heap ∧ va_K D fm_cls (fm_tys ids) U ∧ va_D (fun _ => True) ws)
theorem mk_blind {D : va_G} {ids : Nat → ClassId} {ws : va_W} {av : List Value} {sz : Nat} : FrameBlind (mk_Pre D ids ws av sz) := by
  intro a U g mk h
  obtain ⟨h1, h2, h3, h4, h5⟩ := h
  exact ⟨h1, h2, h3, va_K.moved (u := U) (U := U.calling g mk a) (Vm.Alike.refl U.vm) h4, h5⟩
def mk_M (l : Launch) (y : MethodName) (b : ByteArray) (n h mc ms : Nat) (D : va_G) (ids : Nat → ClassId) (ws : va_W) (av : List Value) (sz : Nat) {β : Type} (post : β → va_W) : Prop := Met l y (fm_ws y b n none) (mk_rm h mc ms) (mk_Pre D ids ws av sz) (va_Qv (fun _ : β => True) (fun u t => va_P D fm_cls (post u) t.heap ∧ va_D (va_A ws sz) (post u)) (va_A ws sz)) mc ms (va_A ws sz)
section MK
variable {p : Program} {l : Launch} {e : Env} {R : Room} {s : State} {m : MethodId} {args : Array Value} {below : List Frame} {meth : Method} {c : Code} {H : Heap} {locs : List Loc} {cells slots : Nat} {Q : State → Prop}
variable {cc : ByteArray} {pc nL : Nat} {ls : Array Slot} {rest st0 : List Value} {own : String} {D : va_G} {ids : Nat → ClassId} {ws : va_W} {A : Nat → Prop}
theorem mk_open {y : MethodName} {b : ByteArray} {n h mc ms : Nat} {av : List Value} {sz : Nat} {Qc : Array Value → State → Outcome → State → Prop} (hy : plainName y.cls = true) (hn : (lg_sl av).length ≤ n)
    (body : ∀ p e s m args below meth c ls, CallFix p m c b n s args fm_AW y.cls → meth.sig.returnType = none → meth.locks = false → meth.name = y.name → va_K D fm_cls (fm_tys ids) s → va_P D fm_cls ws s.heap → va_D (va_A ws s.heap.size) ws → va_S (va_A ws s.heap.size) s.heap s.heap [] → (∀ q : Nat, s.heap.size ≤ q → va_A ws s.heap.size q) → lv_has ls n (lv_args 0 av) → s.heap.size = sz →
      W p l e (mk_rm h mc ms) s m args below meth c s.heap [] 0 0 (MQ below Qc args s mc ms (va_A ws s.heap.size)) (F0 m 0 ls [])) : Met l y (fm_ws y b n none) (mk_rm h mc ms) (mk_Pre D ids ws av sz) Qc mc ms (va_A ws sz) := by
  refine Met.ofW (cc := b) (maxL := n) (ret := none) hy rfl ?_
  intro p e s m args below meth c s₁ B hml hv
  obtain ⟨rfl, hsz, hP, hK, hD0⟩ := hv
  have hts := atoms_spec (ws := fm_ws y b n none) B.pre
  have hown : s.vm.findClass y.cls = some m.cls := findClass_of_methodNamed B.named
  subst hsz
  rw [lg_entry_eq]
  exact body p e s m _ below meth c _ ⟨B.exec, B.bytes, hml, hown, fun w hw => hts w (List.mem_cons_of_mem _ hw)⟩ B.returns B.notSynchronized (name_of_methodNamed B.named B.method).1 hK hP hD0.self va_S.rf (fun q hq => Or.inr hq) (lv_entry av hn) rfl
/-- a field of the object at place q0 of the world -/
theorem mk_put (Z : CallFix p m c cc nL s args fm_AW own) (hK : va_K D fm_cls (fm_tys ids) s) (hP : va_P D fm_cls ws H) (hD : va_D A ws) (hS : va_S A s.heap H locs) (q0 : Nat) {a ci k idx : Nat} {fs : List Value} {v : Value} (he : ws[q0]? = some (a, .inr (ci, fs))) (hc : ci < 13) (fl : fm_fl own idx ci k) (hfin : (fm_T ci k).2.2.2 = false) (hn : narrow (fm_ty ci k) v = v) (hfit : fits (fm_ty ci k) v = true) (hl : k < fs.length) (hdg : decode cc pc = .ok (.putfield idx, 3))
    (kk : ∀ (H1 : Heap) (locs1 : List Loc), va_P D fm_cls (ws.set q0 (a, .inr (ci, fs.set k v))) H1 → va_D A (ws.set q0 (a, .inr (ci, fs.set k v))) → va_S A s.heap H1 locs1 → W p l e R s m args below meth c H1 locs1 cells slots Q (F0 m (pc + 3) ls rest)) : W p l e R s m args below meth c H locs cells slots Q (F0 m pc ls (v :: .ref a :: rest)) := by
  obtain ⟨hx, hb, hml, hown, hts⟩ := Z
  obtain ⟨hk, ref, hlink, hsame⟩ := fl
  refine va_put (Ts := u_ws (fm_R ci) (fm_T ci) (fm_N ci)) hx hb (fun w hw => hts w (fm_in (fm_uin _ hc w hw).1 (fm_uin _ hc w hw).2)) (fun w hw => hw) (fm_ty ci) (fm_tyok _ hc) (fm_nm _ hc) hown hK hP hD hS q0 he (fm_cls_at _ hc) k hk (hts _ (fm_in hlink rfl)) ?_ hfin (fm_tyok _ hc k hk) hn hfit hl hdg kk
  intro x hxx
  rcases hsame with h | h
  · rw [h]; exact hxx
  · exact u_same (hts _ (fm_in h rfl)) x hxx
/-- a final one, in a constructor -/
theorem mk_putF (Z : CallFix p m c cc nL s args fm_AW own) (hK : va_K D fm_cls (fm_tys ids) s) (hP : va_P D fm_cls ws H) (hD : va_D A ws) (hS : va_S A s.heap H locs) (q0 : Nat) {a ci k idx : Nat} {fs : List Value} {v : Value} (he : ws[q0]? = some (a, .inr (ci, fs))) (hc : ci < 13) (fl : fm_fl own idx ci k) (hfin : (fm_T ci k).2.2.2 = true) (hin2 : meth.name = "<init>") (hdecl : (fm_T ci k).1 = own) (hn : narrow (fm_ty ci k) v = v) (hfit : fits (fm_ty ci k) v = true) (hl : k < fs.length) (hdg : decode cc pc = .ok (.putfield idx, 3))
    (kk : ∀ (H1 : Heap) (locs1 : List Loc), va_P D fm_cls (ws.set q0 (a, .inr (ci, fs.set k v))) H1 → va_D A (ws.set q0 (a, .inr (ci, fs.set k v))) → va_S A s.heap H1 locs1 → W p l e R s m args below meth c H1 locs1 cells slots Q (F0 m (pc + 3) ls rest)) : W p l e R s m args below meth c H locs cells slots Q (F0 m pc ls (v :: .ref a :: rest)) := by
  obtain ⟨hx, hb, hml, hown, hts⟩ := Z
  obtain ⟨hk, ref, hlink, hsame⟩ := fl
  refine va_putF (Ts := u_ws (fm_R ci) (fm_T ci) (fm_N ci)) hx hb (fun w hw => hts w (fm_in (fm_uin _ hc w hw).1 (fm_uin _ hc w hw).2)) (fun w hw => hw) (fm_ty ci) (fm_tyok _ hc) (fm_nm _ hc) hown hK hP hD hS q0 he (fm_cls_at _ hc) k hk (hts _ (fm_in hlink rfl)) ?_ hfin hin2 hdecl (fm_tyok _ hc k hk) hn hfit hl hdg kk
  intro x hxx
  rcases hsame with h | h
  · rw [h]; exact hxx
  · exact u_same (hts _ (fm_in h rfl)) x hxx
/-- a new row of ints -/
theorem mk_newa (Z : CallFix p m c cc nL s args fm_AW own) (k1 : Cond.arrayClass .int ∈ lw_tbl) (hK : va_K D fm_cls (fm_tys ids) s) (hP : va_P D fm_cls ws H) (hD : va_D A ws) (hS : va_S A s.heap H locs) (hA : ∀ q, s.heap.size ≤ q → A q) {n : Int32} {L : Nat} (hn : n = nI L) (hL : L ≤ 10000) (hcells : cells + 1 ≤ R.cells) (hslots : slots + L ≤ R.slots) (hdg : decode cc pc = .ok (.newarray .int, 2))
    (kk : ∀ (q : Nat) (H1 : Heap), va_P D fm_cls (ws ++ [(q, .inl (ids 13, L, .inl (fun _ => 0)))]) H1 → va_D A (ws ++ [(q, .inl (ids 13, L, .inl (fun _ => 0)))]) → va_S A s.heap H1 locs → W p l e R s m args below meth c H1 locs (cells + 1) (slots + L) Q (F0 m (pc + 2) ls (.ref q :: rest))) : W p l e R s m args below meth c H locs cells slots Q (F0 m pc ls (.int n :: rest)) := by
  obtain ⟨hx, hb, hml, hown, hts⟩ := Z
  subst hn
  refine va_newa (atype := .int) (ty := .int) (a0 := (L, .inl (fun _ => 0))) hx hb (hts _ (fm_in k1 rfl)) rfl hK hP hD hS hA (fun cA => rfl) (nI_nlt (b := 0) (by omega) (by omega)) (nI_clamp (by omega)) (by show L * 4 ≤ 536870912; omega) hcells hslots hdg (fun q cA H1 hK1 hP1 hD1 hS1 => ?_)
  have e1 : s.vm.findClass ("[" ++ FieldType.int.toString) = some (ids 13) := (hK.2 0 (ids 13, .int) rfl).2
  have e2 : s.vm.findClass ("[" ++ FieldType.int.toString) = some cA := (hK1.2 5 (cA, .int) rfl).2
  have e3 : cA = ids 13 := Option.some.inj (e2.symm.trans e1)
  subst e3
  exact kk q H1 hP1 hD1 hS1
end MK
