/-! MAKERS: with a premise on the machine, with an answer -/
def mk_PreX (X : State → Prop) (D : va_G) (ids : Nat → ClassId) (ws : va_W) (av : List Value) (sz : Nat) : Array Value → State → Prop := va_Pc av (fun U => X U ∧ U.heap.size = sz ∧ va_P D fm_cls ws U.heap ∧ va_K D fm_cls (fm_tys ids) U ∧ va_D (fun _ => True) ws)
def mk_Mv (X : State → Prop) : Prop := ∀ u U : State, u.vm.Alike U.vm → (u.vm = U.vm ∨ u.WarmedH U.vm) → X u → X U
theorem mk_blindX {X : State → Prop} (hX : mk_Mv X) {D : va_G} {ids : Nat → ClassId} {ws : va_W} {av : List Value} {sz : Nat} : FrameBlind (mk_PreX X D ids ws av sz) := by
  intro a U g mk h
  obtain ⟨h1, h0, h2, h3, h4, h5⟩ := h
  exact ⟨h1, hX U (U.calling g mk a) (Vm.Alike.refl U.vm) (Or.inl rfl) h0, h2, h3, va_K.moved (u := U) (U := U.calling g mk a) (Vm.Alike.refl U.vm) h4, h5⟩
def mk_Qv {β : Type} (D : va_G) (post : β → va_W) (A : Nat → Prop) : Array Value → State → Outcome → State → Prop := va_Qv (fun _ : β => True) (fun u t => va_P D fm_cls (post u) t.heap ∧ va_D A (post u)) A
def mk_Qi {β : Type} (D : va_G) (r : Int32) (post : β → va_W) (A : Nat → Prop) : Array Value → State → Outcome → State → Prop := va_Qi (fun x (_ : β) => x = r) (fun u t => va_P D fm_cls (post u) t.heap ∧ va_D A (post u)) A
def mk_Qr {β : Type} (D : va_G) (r : β → Nat) (post : β → va_W) (A : Nat → Prop) : Array Value → State → Outcome → State → Prop := va_Qr (fun _ : β => True) (fun u a t => a = r u ∧ va_P D fm_cls (post u) t.heap ∧ va_D A (post u)) A
def mk_G (X : State → Prop) (l : Launch) (y : MethodName) (b : ByteArray) (n : Nat) (ret : Option FieldType) (h mc ms : Nat) (D : va_G) (ids : Nat → ClassId) (ws : va_W) (av : List Value) (sz : Nat) (Qc : (Nat → Prop) → Array Value → State → Outcome → State → Prop) : Prop := Met l y (fm_ws y b n ret) (mk_rm h mc ms) (mk_PreX X D ids ws av sz) (Qc (va_A ws sz)) mc ms (va_A ws sz)
theorem mk_openG {l : Launch} {D : va_G} {ids : Nat → ClassId} {ws : va_W} {X : State → Prop} {y : MethodName} {b : ByteArray} {n h mc ms : Nat} {ret : Option FieldType} {av : List Value} {sz : Nat} {Qc : (Nat → Prop) → Array Value → State → Outcome → State → Prop} (hy : plainName y.cls = true) (hn : (lg_sl av).length ≤ n)
    (body : ∀ p e s m args below meth c ls, CallFix p m c b n s args fm_AW y.cls → meth.sig.returnType = ret → meth.locks = false → meth.name = y.name → X s → va_K D fm_cls (fm_tys ids) s → va_P D fm_cls ws s.heap → va_D (va_A ws s.heap.size) ws → va_S (va_A ws s.heap.size) s.heap s.heap [] → (∀ q : Nat, s.heap.size ≤ q → va_A ws s.heap.size q) → lv_has ls n (lv_args 0 av) → s.heap.size = sz →
      W p l e (mk_rm h mc ms) s m args below meth c s.heap [] 0 0 (MQ below (Qc (va_A ws s.heap.size)) args s mc ms (va_A ws s.heap.size)) (F0 m 0 ls [])) : mk_G X l y b n ret h mc ms D ids ws av sz Qc := by
  refine Met.ofW (cc := b) (maxL := n) (ret := ret) hy rfl ?_
  intro p e s m args below meth c s₁ B hml hv
  obtain ⟨rfl, hX, hsz, hP, hK, hD0⟩ := hv
  have hts := atoms_spec (ws := fm_ws y b n ret) B.pre
  have hown : s.vm.findClass y.cls = some m.cls := findClass_of_methodNamed B.named
  subst hsz
  rw [lg_entry_eq]
  exact body p e s m _ below meth c _ ⟨B.exec, B.bytes, hml, hown, fun w hw => hts w (List.mem_cons_of_mem _ hw)⟩ B.returns B.notSynchronized (name_of_methodNamed B.named B.method).1 hX hK hP hD0.self va_S.rf (fun q hq => Or.inr hq) (lv_entry av hn) rfl
section MK
variable {p : Program} {l : Launch} {e : Env} {R : Room} {s : State} {m : MethodId} {args : Array Value} {below : List Frame} {meth : Method} {c : Code} {H : Heap} {locs : List Loc} {cells slots : Nat} {Q : State → Prop}
variable {cc : ByteArray} {pc nL : Nat} {ls : Array Slot} {rest st0 : List Value} {own : String} {D : va_G} {ids : Nat → ClassId} {ws : va_W} {A : Nat → Prop}
/-- a constructor that is private to a nest mate -/
theorem mk_callIN (Z : CallFix p m c cc nL s args fm_AW own) {y : MethodName} {b : ByteArray} {n h h0 mc ms MC MS idx k q : Nat} {host : String} {wc wr : va_W} {As : List Value} {β : Type} {post : β → va_W} (hM : mk_M l y b n h mc ms D ids wc (.ref q :: As) H.size post) (hK : va_K D fm_cls (fm_tys ids) s) (hP : va_P D fm_cls ws H) (hD : va_D A ws) (hS : va_S A s.heap H locs) (hA : ∀ q, s.heap.size ≤ q → A q)
    (isC isR : List Nat) (hC : isC.map (fun i => ws[i]?) = wc.map some) (hR : isR.map (fun i => ws[i]?) = wr.map some) (hnC : va_nd isC = true) (hnR : va_nd isR = true) (hdis : ∀ i ∈ isR, i ∉ isC)
    (hy1 : y.name = "<init>") (k1 : va_Nw (.methodLinkNest own idx y host) s) (k2 : Cond.instanceMethod y ∈ lw_tbl) (k4 : Cond.initialized y.cls ∈ lw_tbl) (k5 : Cond.code y b n none ∈ lw_tbl) (hd : y.cls ≠ "java/lang/invoke/MethodHandle" ∧ y.cls ≠ "java/lang/invoke/VarHandle" ∧ (parseMethodDescriptor y.desc).map (fun d => d.parameters.length) = some k) (hk : As.length = k) (hn : n ≤ 21) (hh : h + 1 ≤ h0) (hl : ls.size = nL) (hW : (rest.map fun v => v.category).sum ≤ 8) (hdg : decode cc pc = .ok (.invokespecial idx, 3)) (hcells : cells + mc ≤ MC) (hslots : slots + ms ≤ MS) (hst : st0 = As.reverse ++ .ref q :: rest)
    (kk : ∀ (u : β) (H1 : Heap) (locs1 : List Loc), va_P D fm_cls (wr ++ post u) H1 → va_D A (wr ++ post u) → va_S A s.heap H1 locs1 → W p l e (mk_rm h0 MC MS) s m args below meth c H1 locs1 (cells + mc) (slots + ms) Q (F0 m (pc + 3) ls rest)) : W p l e (mk_rm h0 MC MS) s m args below meth c H locs cells slots Q (F0 m pc ls st0) := by
  obtain ⟨hx, hb, hml, hown, hts⟩ := Z
  subst hst
  have hC2 : isC.filterMap (fun i => ws[i]?) = wc := by
    have h1 : (isC.map (fun i => ws[i]?)).filterMap id = (wc.map some).filterMap id := by rw [hC]
    rw [List.filterMap_map, List.filterMap_map] at h1
    have h2 : wc.filterMap (id ∘ some) = wc := by
      clear hC h1
      induction wc with
      | nil => rfl
      | cons x r ih => simp
    rw [h2] at h1
    exact h1
  have hPc := hP.sub (ws' := wc) isC hC2
  have hDc := hD.sub (ws' := wc) isC hnC hC
  have hFc := va_free (wc := wc) hD hS hA isC hC
  have hG : GoodIn fm_AW (fm_ws y b n none) := by
    intro w hw
    rcases List.mem_cons.mp hw with h | h
    · subst h
      exact ⟨fm_in k5 rfl, Or.inl rfl⟩
    · exact ⟨h, good_of_word (fm_AW_good w h).2⟩
  have hRm : (mk_rm h mc ms).frames + 1 ≤ (mk_rm h0 MC MS).frames ∧ 8 + (n + 11) + (mk_rm h mc ms).locals ≤ (mk_rm h0 MC MS).locals := ⟨hh, by show 8 + (n + 11) + 40 * h ≤ 40 * h0; omega⟩
  refine va_callv (va_runIN (n := k) (As := As) (rest := rest) ⟨hx, hb, hml, hown, hts⟩ hM ⟨va_cnB (Ts := fm_AW) (ws' := fm_AW) k hts hG rfl rfl rfl k1 (hts _ (fm_in k4 rfl)) hd hRm, hy1, hts _ (fm_in k2 rfl)⟩ ⟨mk_blind, fun U hU hW => ⟨rfl, by rw [hU], by rw [hU]; exact hPc, va_K.moved hW.alike hK, hDc.weaken (fun _ _ _ _ => trivial)⟩⟩ rfl hk hl rfl (lv_room hW) hdg ⟨hcells, hslots⟩) hS (fun q _ h => hFc q h) hFc (fun u t H1 locs1 ht hvm _ hB hz1 hk1 hS1 => ?_)
  obtain ⟨hP1, hD1⟩ := hB
  rw [ht] at hP1
  obtain ⟨hP2, hD2⟩ := va_join (wr := wr) (w1 := post u) hP hD isC isR hC hR hnR hdis hk1 hFc hP1 hD1
  exact kk u H1 locs1 hP2 hD2 hS1
theorem mk_callIX (Z : CallFix p m c cc nL s args fm_AW own) {y : MethodName} {b : ByteArray} {n h h0 mc ms MC MS idx k q : Nat} {wc wr : va_W} {As : List Value} {β : Type} {post : β → va_W} {X : State → Prop} (hXm : mk_Mv X) (hXs : X s) (hM : mk_G X l y b n none h mc ms D ids wc (.ref q :: As) H.size (mk_Qv D post)) (hK : va_K D fm_cls (fm_tys ids) s) (hP : va_P D fm_cls ws H) (hD : va_D A ws) (hS : va_S A s.heap H locs) (hA : ∀ q, s.heap.size ≤ q → A q)
    (isC isR : List Nat) (hC : isC.map (fun i => ws[i]?) = wc.map some) (hR : isR.map (fun i => ws[i]?) = wr.map some) (hnC : va_nd isC = true) (hnR : va_nd isR = true) (hdis : ∀ i ∈ isR, i ∉ isC)
    (hy1 : y.name = "<init>") (k1 : Cond.methodLink own idx y ∈ lw_tbl) (k2 : Cond.instanceMethod y ∈ lw_tbl) (k4 : Cond.initialized y.cls ∈ lw_tbl) (k5 : Cond.code y b n none ∈ lw_tbl) (hd : y.cls ≠ "java/lang/invoke/MethodHandle" ∧ y.cls ≠ "java/lang/invoke/VarHandle" ∧ (parseMethodDescriptor y.desc).map (fun d => d.parameters.length) = some k) (hk : As.length = k) (hn : n ≤ 21) (hh : h + 1 ≤ h0) (hl : ls.size = nL) (hW : (rest.map fun v => v.category).sum ≤ 8) (hdg : decode cc pc = .ok (.invokespecial idx, 3)) (hcells : cells + mc ≤ MC) (hslots : slots + ms ≤ MS) (hst : st0 = As.reverse ++ .ref q :: rest)
    (kk : ∀ (u : β) (H1 : Heap) (locs1 : List Loc), va_P D fm_cls (wr ++ post u) H1 → va_D A (wr ++ post u) → va_S A s.heap H1 locs1 → W p l e (mk_rm h0 MC MS) s m args below meth c H1 locs1 (cells + mc) (slots + ms) Q (F0 m (pc + 3) ls rest)) : W p l e (mk_rm h0 MC MS) s m args below meth c H locs cells slots Q (F0 m pc ls st0) := by
  obtain ⟨hx, hb, hml, hown, hts⟩ := Z
  subst hst
  have hC2 : isC.filterMap (fun i => ws[i]?) = wc := by
    have h1 : (isC.map (fun i => ws[i]?)).filterMap id = (wc.map some).filterMap id := by rw [hC]
    rw [List.filterMap_map, List.filterMap_map] at h1
    have h2 : wc.filterMap (id ∘ some) = wc := by
      clear hC h1
      induction wc with
      | nil => rfl
      | cons x r ih => simp
    rw [h2] at h1
    exact h1
  have hPc := hP.sub (ws' := wc) isC hC2
  have hDc := hD.sub (ws' := wc) isC hnC hC
  have hFc := va_free (wc := wc) hD hS hA isC hC
  have hG : GoodIn fm_AW (fm_ws y b n none) := by
    intro w hw
    rcases List.mem_cons.mp hw with h | h
    · subst h
      exact ⟨fm_in k5 rfl, Or.inl rfl⟩
    · exact ⟨h, good_of_word (fm_AW_good w h).2⟩
  have hRm : (mk_rm h mc ms).frames + 1 ≤ (mk_rm h0 MC MS).frames ∧ 8 + (n + 11) + (mk_rm h mc ms).locals ≤ (mk_rm h0 MC MS).locals := ⟨hh, by show 8 + (n + 11) + 40 * h ≤ 40 * h0; omega⟩
  refine va_callv (va_runI (n := k) (As := As) (rest := rest) ⟨hx, hb, hml, hown, hts⟩ hM (cwI (ws' := fm_AW) k hts hG rfl rfl rfl (hts _ (fm_in k4 rfl)) (hts _ (fm_in k1 rfl)) (hts _ (fm_in k2 rfl)) hy1 hd hRm) ⟨mk_blindX hXm, fun U hU hW => ⟨rfl, hXm _ _ hW.alike (Or.inr hW) hXs, by rw [hU], by rw [hU]; exact hPc, va_K.moved hW.alike hK, hDc.weaken (fun _ _ _ _ => trivial)⟩⟩ rfl hk hl rfl (lv_room hW) hdg ⟨hcells, hslots⟩) hS (fun q _ h => hFc q h) hFc (fun u t H1 locs1 ht hvm _ hB hz1 hk1 hS1 => ?_)
  obtain ⟨hP1, hD1⟩ := hB
  rw [ht] at hP1
  obtain ⟨hP2, hD2⟩ := va_join (wr := wr) (w1 := post u) hP hD isC isR hC hR hnR hdis hk1 hFc hP1 hD1
  exact kk u H1 locs1 hP2 hD2 hS1
theorem mk_callVX (Z : CallFix p m c cc nL s args fm_AW own) {y : MethodName} {b : ByteArray} {n h h0 mc ms MC MS idx k q q0 ci : Nat} {fs : List Value} {wc wr : va_W} {As : List Value} {β : Type} {post : β → va_W} {X : State → Prop} (hXm : mk_Mv X) (hXs : X s) (hM : mk_G X l y b n none h mc ms D ids wc (.ref q :: As) H.size (mk_Qv D post)) (hK : va_K D fm_cls (fm_tys ids) s) (hP : va_P D fm_cls ws H) (hD : va_D A ws) (hS : va_S A s.heap H locs) (hA : ∀ q, s.heap.size ≤ q → A q)
    (he : ws[q0]? = some (q, .inr (ci, fs))) (hc : ci < 13) (hcn : fm_R ci = y.cls)
    (isC isR : List Nat) (hC : isC.map (fun i => ws[i]?) = wc.map some) (hR : isR.map (fun i => ws[i]?) = wr.map some) (hnC : va_nd isC = true) (hnR : va_nd isR = true) (hdis : ∀ i ∈ isR, i ∉ isC)
    (k1 : Cond.methodLink own idx y ∈ lw_tbl) (k2 : Cond.instanceMethod y ∈ lw_tbl) (k3 : Cond.selects y.cls y y ∈ lw_tbl) (k4 : Cond.initialized y.cls ∈ lw_tbl) (k5 : Cond.code y b n none ∈ lw_tbl) (hd : y.cls ≠ "java/lang/invoke/MethodHandle" ∧ y.cls ≠ "java/lang/invoke/VarHandle" ∧ (parseMethodDescriptor y.desc).map (fun d => d.parameters.length) = some k) (hk : As.length = k) (hn : n ≤ 21) (hh : h + 1 ≤ h0) (hl : ls.size = nL) (hW : (rest.map fun v => v.category).sum ≤ 8) (hdg : decode cc pc = .ok (.invokevirtual idx, 3)) (hcells : cells + mc ≤ MC) (hslots : slots + ms ≤ MS) (hst : st0 = As.reverse ++ .ref q :: rest)
    (kk : ∀ (u : β) (H1 : Heap) (locs1 : List Loc), va_P D fm_cls (wr ++ post u) H1 → va_D A (wr ++ post u) → va_S A s.heap H1 locs1 → W p l e (mk_rm h0 MC MS) s m args below meth c H1 locs1 (cells + mc) (slots + ms) Q (F0 m (pc + 3) ls rest)) : W p l e (mk_rm h0 MC MS) s m args below meth c H locs cells slots Q (F0 m pc ls st0) := by
  obtain ⟨hx, hb, hml, hown, hts⟩ := Z
  subst hst
  have hC2 : isC.filterMap (fun i => ws[i]?) = wc := by
    have h1 : (isC.map (fun i => ws[i]?)).filterMap id = (wc.map some).filterMap id := by rw [hC]
    rw [List.filterMap_map, List.filterMap_map] at h1
    have h2 : wc.filterMap (id ∘ some) = wc := by
      clear hC h1
      induction wc with
      | nil => rfl
      | cons x r ih => simp
    rw [h2] at h1
    exact h1
  have hPc := hP.sub (ws' := wc) isC hC2
  have hDc := hD.sub (ws' := wc) isC hnC hC
  have hFc := va_free (wc := wc) hD hS hA isC hC
  have hG : GoodIn fm_AW (fm_ws y b n none) := by
    intro w hw
    rcases List.mem_cons.mp hw with h | h
    · subst h
      exact ⟨fm_in k5 rfl, Or.inl rfl⟩
    · exact ⟨h, good_of_word (fm_AW_good w h).2⟩
  have hRm : (mk_rm h mc ms).frames + 1 ≤ (mk_rm h0 MC MS).frames ∧ 8 + (n + 11) + (mk_rm h mc ms).locals ≤ (mk_rm h0 MC MS).locals := ⟨hh, by show 8 + (n + 11) + 40 * h ≤ 40 * h0; omega⟩
  have hB : CallB (mk_rm h0 MC MS) s args own idx y b n none (fm_ws y b n none) (mk_rm h mc ms) mc ms k := callB_of (Ts := fm_AW) (ws' := fm_AW) k hts hG rfl rfl rfl (hts _ (fm_in k4 rfl)) (hts _ (fm_in k1 rfl)) hd hRm
  refine va_callv (va_runV (n := k) (As := As) (rest := rest) ⟨hx, hb, hml, hown, hts⟩ hM ⟨hB, hts _ (fm_in k2 rfl), hts _ (fm_in k3 rfl)⟩ ⟨mk_blindX hXm, by rw [← hcn]; exact va_recv hK hP (fm_cls_at _ hc) he, fun U hU hW => ⟨rfl, hXm _ _ hW.alike (Or.inr hW) hXs, by rw [hU], by rw [hU]; exact hPc, va_K.moved hW.alike hK, hDc.weaken (fun _ _ _ _ => trivial)⟩⟩ rfl hk hl rfl (lv_room hW) hdg ⟨hcells, hslots⟩) hS (fun q _ h => hFc q h) hFc (fun u t H1 locs1 ht hvm _ hB hz1 hk1 hS1 => ?_)
  obtain ⟨hP1, hD1⟩ := hB
  rw [ht] at hP1
  obtain ⟨hP2, hD2⟩ := va_join (wr := wr) (w1 := post u) hP hD isC isR hC hR hnR hdis hk1 hFc hP1 hD1
  exact kk u H1 locs1 hP2 hD2 hS1
theorem mk_callVi (Z : CallFix p m c cc nL s args fm_AW own) {y : MethodName} {b : ByteArray} {n h h0 mc ms MC MS idx k q q0 ci : Nat} {fs : List Value} {wc wr : va_W} {As : List Value} {β : Type} {post : β → va_W} {ret : Option FieldType} {ri : Int32} {X : State → Prop} (hXm : mk_Mv X) (hXs : X s) (hM : mk_G X l y b n ret h mc ms D ids wc (.ref q :: As) H.size (mk_Qi D ri post)) (hK : va_K D fm_cls (fm_tys ids) s) (hP : va_P D fm_cls ws H) (hD : va_D A ws) (hS : va_S A s.heap H locs) (hA : ∀ q, s.heap.size ≤ q → A q)
    (he : ws[q0]? = some (q, .inr (ci, fs))) (hc : ci < 13) (hcn : fm_R ci = y.cls)
    (isC isR : List Nat) (hC : isC.map (fun i => ws[i]?) = wc.map some) (hR : isR.map (fun i => ws[i]?) = wr.map some) (hnC : va_nd isC = true) (hnR : va_nd isR = true) (hdis : ∀ i ∈ isR, i ∉ isC)
    (k1 : Cond.methodLink own idx y ∈ lw_tbl) (k2 : Cond.instanceMethod y ∈ lw_tbl) (k3 : Cond.selects y.cls y y ∈ lw_tbl) (k4 : Cond.initialized y.cls ∈ lw_tbl) (k5 : Cond.code y b n ret ∈ lw_tbl) (hd : y.cls ≠ "java/lang/invoke/MethodHandle" ∧ y.cls ≠ "java/lang/invoke/VarHandle" ∧ (parseMethodDescriptor y.desc).map (fun d => d.parameters.length) = some k) (hk : As.length = k) (hn : n ≤ 21) (hh : h + 1 ≤ h0) (hl : ls.size = nL) (hW : (rest.map fun v => v.category).sum ≤ 8) (hdg : decode cc pc = .ok (.invokevirtual idx, 3)) (hcells : cells + mc ≤ MC) (hslots : slots + ms ≤ MS) (hst : st0 = As.reverse ++ .ref q :: rest)
    (kk : ∀ (u : β) (H1 : Heap) (locs1 : List Loc), va_P D fm_cls (wr ++ post u) H1 → va_D A (wr ++ post u) → va_S A s.heap H1 locs1 → W p l e (mk_rm h0 MC MS) s m args below meth c H1 locs1 (cells + mc) (slots + ms) Q (F0 m (pc + 3) ls (.int ri :: rest))) : W p l e (mk_rm h0 MC MS) s m args below meth c H locs cells slots Q (F0 m pc ls st0) := by
  obtain ⟨hx, hb, hml, hown, hts⟩ := Z
  subst hst
  have hC2 : isC.filterMap (fun i => ws[i]?) = wc := by
    have h1 : (isC.map (fun i => ws[i]?)).filterMap id = (wc.map some).filterMap id := by rw [hC]
    rw [List.filterMap_map, List.filterMap_map] at h1
    have h2 : wc.filterMap (id ∘ some) = wc := by
      clear hC h1
      induction wc with
      | nil => rfl
      | cons x r ih => simp
    rw [h2] at h1
    exact h1
  have hPc := hP.sub (ws' := wc) isC hC2
  have hDc := hD.sub (ws' := wc) isC hnC hC
  have hFc := va_free (wc := wc) hD hS hA isC hC
  have hG : GoodIn fm_AW (fm_ws y b n ret) := by
    intro w hw
    rcases List.mem_cons.mp hw with h | h
    · subst h
      exact ⟨fm_in k5 rfl, Or.inl rfl⟩
    · exact ⟨h, good_of_word (fm_AW_good w h).2⟩
  have hRm : (mk_rm h mc ms).frames + 1 ≤ (mk_rm h0 MC MS).frames ∧ 8 + (n + 11) + (mk_rm h mc ms).locals ≤ (mk_rm h0 MC MS).locals := ⟨hh, by show 8 + (n + 11) + 40 * h ≤ 40 * h0; omega⟩
  have hB : CallB (mk_rm h0 MC MS) s args own idx y b n ret (fm_ws y b n ret) (mk_rm h mc ms) mc ms k := callB_of (Ts := fm_AW) (ws' := fm_AW) k hts hG rfl rfl rfl (hts _ (fm_in k4 rfl)) (hts _ (fm_in k1 rfl)) hd hRm
  refine va_calli (va_runV (n := k) (As := As) (rest := rest) ⟨hx, hb, hml, hown, hts⟩ hM ⟨hB, hts _ (fm_in k2 rfl), hts _ (fm_in k3 rfl)⟩ ⟨mk_blindX hXm, by rw [← hcn]; exact va_recv hK hP (fm_cls_at _ hc) he, fun U hU hW => ⟨rfl, hXm _ _ hW.alike (Or.inr hW) hXs, by rw [hU], by rw [hU]; exact hPc, va_K.moved hW.alike hK, hDc.weaken (fun _ _ _ _ => trivial)⟩⟩ rfl hk hl rfl (lv_room hW) hdg ⟨hcells, hslots⟩) hS (fun q _ h => hFc q h) hFc (fun r u t H1 locs1 ht hvm hw hB hz1 hk1 hS1 => ?_)
  subst hw
  obtain ⟨hP1, hD1⟩ := hB
  rw [ht] at hP1
  obtain ⟨hP2, hD2⟩ := va_join (wr := wr) (w1 := post u) hP hD isC isR hC hR hnR hdis hk1 hFc hP1 hD1
  exact kk u H1 locs1 hP2 hD2 hS1
theorem mk_callVr (Z : CallFix p m c cc nL s args fm_AW own) {y : MethodName} {b : ByteArray} {n h h0 mc ms MC MS idx k q q0 ci : Nat} {fs : List Value} {wc wr : va_W} {As : List Value} {β : Type} {post : β → va_W} {ret : Option FieldType} {rr : β → Nat} {X : State → Prop} (hXm : mk_Mv X) (hXs : X s) (hM : mk_G X l y b n ret h mc ms D ids wc (.ref q :: As) H.size (mk_Qr D rr post)) (hK : va_K D fm_cls (fm_tys ids) s) (hP : va_P D fm_cls ws H) (hD : va_D A ws) (hS : va_S A s.heap H locs) (hA : ∀ q, s.heap.size ≤ q → A q)
    (he : ws[q0]? = some (q, .inr (ci, fs))) (hc : ci < 13) (hcn : fm_R ci = y.cls)
    (isC isR : List Nat) (hC : isC.map (fun i => ws[i]?) = wc.map some) (hR : isR.map (fun i => ws[i]?) = wr.map some) (hnC : va_nd isC = true) (hnR : va_nd isR = true) (hdis : ∀ i ∈ isR, i ∉ isC)
    (k1 : Cond.methodLink own idx y ∈ lw_tbl) (k2 : Cond.instanceMethod y ∈ lw_tbl) (k3 : Cond.selects y.cls y y ∈ lw_tbl) (k4 : Cond.initialized y.cls ∈ lw_tbl) (k5 : Cond.code y b n ret ∈ lw_tbl) (hd : y.cls ≠ "java/lang/invoke/MethodHandle" ∧ y.cls ≠ "java/lang/invoke/VarHandle" ∧ (parseMethodDescriptor y.desc).map (fun d => d.parameters.length) = some k) (hk : As.length = k) (hn : n ≤ 21) (hh : h + 1 ≤ h0) (hl : ls.size = nL) (hW : (rest.map fun v => v.category).sum ≤ 8) (hdg : decode cc pc = .ok (.invokevirtual idx, 3)) (hcells : cells + mc ≤ MC) (hslots : slots + ms ≤ MS) (hst : st0 = As.reverse ++ .ref q :: rest)
    (kk : ∀ (u : β) (H1 : Heap) (locs1 : List Loc), va_P D fm_cls (wr ++ post u) H1 → va_D A (wr ++ post u) → va_S A s.heap H1 locs1 → W p l e (mk_rm h0 MC MS) s m args below meth c H1 locs1 (cells + mc) (slots + ms) Q (F0 m (pc + 3) ls (.ref (rr u) :: rest))) : W p l e (mk_rm h0 MC MS) s m args below meth c H locs cells slots Q (F0 m pc ls st0) := by
  obtain ⟨hx, hb, hml, hown, hts⟩ := Z
  subst hst
  have hC2 : isC.filterMap (fun i => ws[i]?) = wc := by
    have h1 : (isC.map (fun i => ws[i]?)).filterMap id = (wc.map some).filterMap id := by rw [hC]
    rw [List.filterMap_map, List.filterMap_map] at h1
    have h2 : wc.filterMap (id ∘ some) = wc := by
      clear hC h1
      induction wc with
      | nil => rfl
      | cons x r ih => simp
    rw [h2] at h1
    exact h1
  have hPc := hP.sub (ws' := wc) isC hC2
  have hDc := hD.sub (ws' := wc) isC hnC hC
  have hFc := va_free (wc := wc) hD hS hA isC hC
  have hG : GoodIn fm_AW (fm_ws y b n ret) := by
    intro w hw
    rcases List.mem_cons.mp hw with h | h
    · subst h
      exact ⟨fm_in k5 rfl, Or.inl rfl⟩
    · exact ⟨h, good_of_word (fm_AW_good w h).2⟩
  have hRm : (mk_rm h mc ms).frames + 1 ≤ (mk_rm h0 MC MS).frames ∧ 8 + (n + 11) + (mk_rm h mc ms).locals ≤ (mk_rm h0 MC MS).locals := ⟨hh, by show 8 + (n + 11) + 40 * h ≤ 40 * h0; omega⟩
  have hB : CallB (mk_rm h0 MC MS) s args own idx y b n ret (fm_ws y b n ret) (mk_rm h mc ms) mc ms k := callB_of (Ts := fm_AW) (ws' := fm_AW) k hts hG rfl rfl rfl (hts _ (fm_in k4 rfl)) (hts _ (fm_in k1 rfl)) hd hRm
  refine va_callr (va_runV (n := k) (As := As) (rest := rest) ⟨hx, hb, hml, hown, hts⟩ hM ⟨hB, hts _ (fm_in k2 rfl), hts _ (fm_in k3 rfl)⟩ ⟨mk_blindX hXm, by rw [← hcn]; exact va_recv hK hP (fm_cls_at _ hc) he, fun U hU hW => ⟨rfl, hXm _ _ hW.alike (Or.inr hW) hXs, by rw [hU], by rw [hU]; exact hPc, va_K.moved hW.alike hK, hDc.weaken (fun _ _ _ _ => trivial)⟩⟩ rfl hk hl rfl (lv_room hW) hdg ⟨hcells, hslots⟩) hS (fun q _ h => hFc q h) hFc (fun u ra t H1 locs1 ht hvm _ hB hz1 hk1 hS1 => ?_)
  obtain ⟨hra, hP1, hD1⟩ := hB
  subst hra
  rw [ht] at hP1
  obtain ⟨hP2, hD2⟩ := va_join (wr := wr) (w1 := post u) hP hD isC isR hC hR hnR hdis hk1 hFc hP1 hD1
  exact kk u H1 locs1 hP2 hD2 hS1
theorem mk_callSi (Z : CallFix p m c cc nL s args fm_AW own) {y : MethodName} {b : ByteArray} {n h h0 mc ms MC MS idx k : Nat} {wc wr : va_W} {As : List Value} {β : Type} {post : β → va_W} {ret : Option FieldType} {ri : Int32} {X : State → Prop} (hXm : mk_Mv X) (hXs : X s) (hM : mk_G X l y b n ret h mc ms D ids wc As H.size (mk_Qi D ri post)) (hK : va_K D fm_cls (fm_tys ids) s) (hP : va_P D fm_cls ws H) (hD : va_D A ws) (hS : va_S A s.heap H locs) (hA : ∀ q, s.heap.size ≤ q → A q)
    (isC isR : List Nat) (hC : isC.map (fun i => ws[i]?) = wc.map some) (hR : isR.map (fun i => ws[i]?) = wr.map some) (hnC : va_nd isC = true) (hnR : va_nd isR = true) (hdis : ∀ i ∈ isR, i ∉ isC)
    (k1 : Cond.methodLink own idx y ∈ lw_tbl) (k2 : Cond.static y ∈ lw_tbl) (k4 : Cond.initialized y.cls ∈ lw_tbl) (k5 : Cond.code y b n ret ∈ lw_tbl) (hd : y.cls ≠ "java/lang/invoke/MethodHandle" ∧ y.cls ≠ "java/lang/invoke/VarHandle" ∧ (parseMethodDescriptor y.desc).map (fun d => d.parameters.length) = some k) (hk : As.length = k) (hn : n ≤ 21) (hh : h + 1 ≤ h0) (hl : ls.size = nL) (hW : (rest.map fun v => v.category).sum ≤ 8) (hdg : decode cc pc = .ok (.invokestatic idx, 3)) (hcells : cells + mc ≤ MC) (hslots : slots + ms ≤ MS) (hst : st0 = As.reverse ++ rest)
    (kk : ∀ (u : β) (H1 : Heap) (locs1 : List Loc), va_P D fm_cls (wr ++ post u) H1 → va_D A (wr ++ post u) → va_S A s.heap H1 locs1 → W p l e (mk_rm h0 MC MS) s m args below meth c H1 locs1 (cells + mc) (slots + ms) Q (F0 m (pc + 3) ls (.int ri :: rest))) : W p l e (mk_rm h0 MC MS) s m args below meth c H locs cells slots Q (F0 m pc ls st0) := by
  obtain ⟨hx, hb, hml, hown, hts⟩ := Z
  subst hst
  have hC2 : isC.filterMap (fun i => ws[i]?) = wc := by
    have h1 : (isC.map (fun i => ws[i]?)).filterMap id = (wc.map some).filterMap id := by rw [hC]
    rw [List.filterMap_map, List.filterMap_map] at h1
    have h2 : wc.filterMap (id ∘ some) = wc := by
      clear hC h1
      induction wc with
      | nil => rfl
      | cons x r ih => simp
    rw [h2] at h1
    exact h1
  have hPc := hP.sub (ws' := wc) isC hC2
  have hDc := hD.sub (ws' := wc) isC hnC hC
  have hFc := va_free (wc := wc) hD hS hA isC hC
  have hG : GoodIn fm_AW (fm_ws y b n ret) := by
    intro w hw
    rcases List.mem_cons.mp hw with h | h
    · subst h
      exact ⟨fm_in k5 rfl, Or.inl rfl⟩
    · exact ⟨h, good_of_word (fm_AW_good w h).2⟩
  have hRm : (mk_rm h mc ms).frames + 1 ≤ (mk_rm h0 MC MS).frames ∧ 8 + (n + 11) + (mk_rm h mc ms).locals ≤ (mk_rm h0 MC MS).locals := ⟨hh, by show 8 + (n + 11) + 40 * h ≤ 40 * h0; omega⟩
  have hB : CallB (mk_rm h0 MC MS) s args own idx y b n ret (fm_ws y b n ret) (mk_rm h mc ms) mc ms k := callB_of (Ts := fm_AW) (ws' := fm_AW) k hts hG rfl rfl rfl (hts _ (fm_in k4 rfl)) (hts _ (fm_in k1 rfl)) hd hRm
  refine va_calli (va_runS (n := k) (As := As) (rest := rest) ⟨hx, hb, hml, hown, hts⟩ hM ⟨hB, hts _ (fm_in k2 rfl)⟩ ⟨mk_blindX hXm, fun U hU hW => ⟨rfl, hXm _ _ hW.alike (Or.inr hW) hXs, by rw [hU], by rw [hU]; exact hPc, va_K.moved hW.alike hK, hDc.weaken (fun _ _ _ _ => trivial)⟩⟩ rfl hk hl rfl (lv_room hW) hdg ⟨hcells, hslots⟩) hS (fun q _ h => hFc q h) hFc (fun r u t H1 locs1 ht hvm hw hB hz1 hk1 hS1 => ?_)
  subst hw
  obtain ⟨hP1, hD1⟩ := hB
  rw [ht] at hP1
  obtain ⟨hP2, hD2⟩ := va_join (wr := wr) (w1 := post u) hP hD isC isR hC hR hnR hdis hk1 hFc hP1 hD1
  exact kk u H1 locs1 hP2 hD2 hS1
/-- ends with an answer -/
theorem mk_retv (Z : CallFix p m c cc nL s args fm_AW own) {mc ms h0 : Nat} {w0 : va_W} {β : Type} {post : β → va_W} (hr : meth.sig.returnType = none) (hlocks : meth.locks = false) (hP : va_P D fm_cls ws H) (hD : va_D (va_A w0 s.heap.size) ws) (hS : va_S (va_A w0 s.heap.size) s.heap H locs) (u : β) (hu : post u = ws) (hc : cells ≤ mc) (hs : slots ≤ ms) (hdg : decode cc pc = .ok (.return_, 1)) : W p l e (mk_rm h0 mc ms) s m args below meth c H locs cells slots (MQ below (mk_Qv D post (va_A w0 s.heap.size)) args s mc ms (va_A w0 s.heap.size)) (F0 m pc ls []) := mk_ret Z hr hlocks hP hD hS u hu hc hs hdg
theorem mk_reti (Z : CallFix p m c cc nL s args fm_AW own) {mc ms h0 : Nat} {w0 : va_W} {β : Type} {post : β → va_W} {v r : Int32} (hr : meth.sig.returnType = some .int) (hlocks : meth.locks = false) (hP : va_P D fm_cls ws H) (hD : va_D (va_A w0 s.heap.size) ws) (hS : va_S (va_A w0 s.heap.size) s.heap H locs) (u : β) (hu : post u = ws) (hv : v = r) (hc : cells ≤ mc) (hs : slots ≤ ms) (hdg : decode cc pc = .ok (.ireturn, 1)) : W p l e (mk_rm h0 mc ms) s m args below meth c H locs cells slots (MQ below (mk_Qi D r post (va_A w0 s.heap.size)) args s mc ms (va_A w0 s.heap.size)) (F0 m pc ls [.int v]) := by
  obtain ⟨hx, hb, hml, hown, hts⟩ := Z
  subst hv
  refine W.widen (k := mc) (n := ms) hc hs ?_
  exact W.iret (v := v) hx hb hr (fun t ht hW => ⟨⟨v, u, rfl, rfl, by rw [ht, hu]; exact hP, by rw [hu]; exact hD⟩, hS.F ht⟩) hS.2.2 hdg hlocks
theorem mk_retz (Z : CallFix p m c cc nL s args fm_AW own) {mc ms h0 : Nat} {w0 : va_W} {β : Type} {post : β → va_W} {v r : Int32} (hr : meth.sig.returnType = some .boolean) (hlocks : meth.locks = false) (hP : va_P D fm_cls ws H) (hD : va_D (va_A w0 s.heap.size) ws) (hS : va_S (va_A w0 s.heap.size) s.heap H locs) (u : β) (hu : post u = ws) (hv : v = r) (h01 : v = 0 ∨ v = 1) (hc : cells ≤ mc) (hs : slots ≤ ms) (hdg : decode cc pc = .ok (.ireturn, 1)) : W p l e (mk_rm h0 mc ms) s m args below meth c H locs cells slots (MQ below (mk_Qi D r post (va_A w0 s.heap.size)) args s mc ms (va_A w0 s.heap.size)) (F0 m pc ls [.int v]) := by
  obtain ⟨hx, hb, hml, hown, hts⟩ := Z
  subst hv
  refine W.widen (k := mc) (n := ms) hc hs ?_
  exact W.zret (v := v) hx hb hr (by rcases h01 with h | h <;> subst h <;> decide) (fun t ht hW => ⟨⟨v, u, rfl, rfl, by rw [ht, hu]; exact hP, by rw [hu]; exact hD⟩, hS.F ht⟩) hS.2.2 hdg hlocks
theorem mk_retr (Z : CallFix p m c cc nL s args fm_AW own) {mc ms h0 : Nat} {w0 : va_W} {β : Type} {post : β → va_W} {q : Nat} {r : β → Nat} {ty : FieldType} (hr : meth.sig.returnType = some ty) (hty : (∃ n, ty = .object n) ∨ ∃ t, ty = .array t) (hlocks : meth.locks = false) (hP : va_P D fm_cls ws H) (hD : va_D (va_A w0 s.heap.size) ws) (hS : va_S (va_A w0 s.heap.size) s.heap H locs) (u : β) (hu : post u = ws) (hv : q = r u) (hc : cells ≤ mc) (hs : slots ≤ ms) (hdg : decode cc pc = .ok (.areturn, 1)) : W p l e (mk_rm h0 mc ms) s m args below meth c H locs cells slots (MQ below (mk_Qr D r post (va_A w0 s.heap.size)) args s mc ms (va_A w0 s.heap.size)) (F0 m pc ls [.ref q]) := by
  obtain ⟨hx, hb, hml, hown, hts⟩ := Z
  refine W.widen (k := mc) (n := ms) hc hs ?_
  exact W.aret (v := .ref q) hx hb hr hty (Or.inr ⟨_, rfl⟩) (fun t ht hW => ⟨⟨u, q, rfl, trivial, hv, by rw [ht, hu]; exact hP, by rw [hu]; exact hD⟩, hS.F ht⟩) hS.2.2 hdg hlocks
end MK
