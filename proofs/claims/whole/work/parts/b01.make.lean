/-! MAKERS: new, calls, ends -/
section MK
variable {p : Program} {l : Launch} {e : Env} {R : Room} {s : State} {m : MethodId} {args : Array Value} {below : List Frame} {meth : Method} {c : Code} {H : Heap} {locs : List Loc} {cells slots : Nat} {Q : State → Prop}
variable {cc : ByteArray} {pc nL : Nat} {ls : Array Slot} {rest st0 : List Value} {own : String} {D : va_G} {ids : Nat → ClassId} {ws : va_W} {A : Nat → Prop}
theorem mk_newz (Z : CallFix p m c cc nL s args fm_AW own) (k1 : Cond.arrayClass .boolean ∈ lw_tbl) (hK : va_K D fm_cls (fm_tys ids) s) (hP : va_P D fm_cls ws H) (hD : va_D A ws) (hS : va_S A s.heap H locs) (hA : ∀ q, s.heap.size ≤ q → A q) {n : Int32} {L : Nat} (hn : n = nI L) (hL : L ≤ 10000) (hcells : cells + 1 ≤ R.cells) (hslots : slots + L ≤ R.slots) (hdg : decode cc pc = .ok (.newarray .boolean, 2))
    (kk : ∀ (q : Nat) (H1 : Heap), va_P D fm_cls (ws ++ [(q, .inl (ids 14, L, .inl (fun _ => 0)))]) H1 → va_D A (ws ++ [(q, .inl (ids 14, L, .inl (fun _ => 0)))]) → va_S A s.heap H1 locs → W p l e R s m args below meth c H1 locs (cells + 1) (slots + L) Q (F0 m (pc + 2) ls (.ref q :: rest))) : W p l e R s m args below meth c H locs cells slots Q (F0 m pc ls (.int n :: rest)) := by
  obtain ⟨hx, hb, hml, hown, hts⟩ := Z
  subst hn
  refine va_newa (atype := .boolean) (ty := .boolean) (a0 := (L, .inl (fun _ => 0))) hx hb (hts _ (fm_in k1 rfl)) rfl hK hP hD hS hA (fun cA => rfl) (nI_nlt (b := 0) (by omega) (by omega)) (nI_clamp (by omega)) (by show L * 1 ≤ 536870912; omega) hcells hslots hdg (fun q cA H1 hK1 hP1 hD1 hS1 => ?_)
  have e1 : s.vm.findClass ("[" ++ FieldType.boolean.toString) = some (ids 14) := (hK.2 1 (ids 14, .boolean) rfl).2
  have e2 : s.vm.findClass ("[" ++ FieldType.boolean.toString) = some cA := (hK1.2 5 (cA, .boolean) rfl).2
  have e3 : cA = ids 14 := Option.some.inj (e2.symm.trans e1)
  subst e3
  exact kk q H1 hP1 hD1 hS1
theorem mk_newq (Z : CallFix p m c cc nL s args fm_AW own) {C : String} {idx t k : Nat} (ht : (fm_tys ids)[k]? = some (ids t, .object C)) (kc : Cond.classLink own idx C ∈ lw_tbl) (hover : va_AO C s) (hK : va_K D fm_cls (fm_tys ids) s) (hP : va_P D fm_cls ws H) (hD : va_D A ws) (hS : va_S A s.heap H locs) (hA : ∀ q, s.heap.size ≤ q → A q) {n : Int32} {L : Nat} (hn : n = nI L) (hL : L ≤ 10000) (hcells : cells + 1 ≤ R.cells) (hslots : slots + L ≤ R.slots) (hdg : decode cc pc = .ok (.anewarray idx, 3))
    (kk : ∀ (q : Nat) (H1 : Heap), va_P D fm_cls (ws ++ [(q, .inl (ids t, L, .inr (.inr (.inr (.inr (fun _ => none))))))]) H1 → va_D A (ws ++ [(q, .inl (ids t, L, .inr (.inr (.inr (.inr (fun _ => none))))))]) → va_S A s.heap H1 locs → W p l e R s m args below meth c H1 locs (cells + 1) (slots + L) Q (F0 m (pc + 3) ls (.ref q :: rest))) : W p l e R s m args below meth c H locs cells slots Q (F0 m pc ls (.int n :: rest)) := by
  obtain ⟨hx, hb, hml, hown, hts⟩ := Z
  subst hn
  refine va_newq hx hb hown (hts _ (fm_in kc rfl)) hover hK hP hD hS hA (nI_nlt (b := 0) (by omega) (by omega)) (nI_clamp (by omega)) (by omega) hcells hslots hdg (fun q cA H1 hK1 hP1 hD1 hS1 => ?_)
  obtain ⟨_, _, _, _, _, _, e1⟩ := hK.2 k (ids t, .object C) ht
  obtain ⟨_, _, _, _, _, _, e2⟩ := hK1.2 5 (cA, .object C) rfl
  have e3 : cA = ids t := Option.some.inj (e2.symm.trans e1)
  subst e3
  exact kk q H1 hP1 hD1 hS1
theorem mk_new (Z : CallFix p m c cc nL s args fm_AW own) {ci idx : Nat} (hc : ci < 13) (kc : Cond.classLink own idx (fm_R ci) ∈ lw_tbl) (ki : Cond.instantiable (fm_R ci) (fm_N ci) ∈ lw_tbl) (kn : Cond.initialized (fm_R ci) ∈ lw_tbl) (hK : va_K D fm_cls (fm_tys ids) s) (hP : va_P D fm_cls ws H) (hD : va_D A ws) (hS : va_S A s.heap H locs) (hA : ∀ q, s.heap.size ≤ q → A q) {fs : List Value} (hfs : ∀ j, j < fm_N ci → defaultValue (fm_ty ci j) = vp_V fs j) (hcells : cells + 1 ≤ R.cells) (hslots : slots + fm_N ci ≤ R.slots) (hdg : decode cc pc = .ok (.new idx, 3))
    (kk : ∀ (q : Nat) (H1 : Heap), va_P D fm_cls (ws ++ [(q, .inr (ci, fs))]) H1 → va_D A (ws ++ [(q, .inr (ci, fs))]) → va_S A s.heap H1 locs → W p l e R s m args below meth c H1 locs (cells + 1) (slots + fm_N ci) Q (F0 m (pc + 3) ls (.ref q :: rest))) : W p l e R s m args below meth c H locs cells slots Q (F0 m pc ls rest) := by
  obtain ⟨hx, hb, hml, hown, hts⟩ := Z
  exact va_new (Ts := u_ws (fm_R ci) (fm_T ci) (fm_N ci)) hx hb (fun w hw => hts w (fm_in (fm_uin _ hc w hw).1 (fm_uin _ hc w hw).2)) (fun w hw => hw) (fm_ty ci) (fm_tyok _ hc) hown (hts _ (fm_in kc rfl)) (hts _ (fm_in ki rfl)) (hts _ (fm_in kn rfl)) hK hP hD hS hA (fm_cls_at _ hc) hfs hcells hslots hdg kk
theorem mk_obj (Z : CallFix p m c cc nL s args fm_AW own) {idx h0 mc ms : Nat} (hl : ls.size = nL) (k1 : Cond.methodLink own idx Lib.objectInit ∈ lw_tbl) (k2 : Cond.instanceMethod Lib.objectInit ∈ lw_tbl) (k3 : Cond.code Lib.objectInit ⟨#[0xb1]⟩ 1 none ∈ lw_tbl) {a : Nat} (hh : 1 ≤ h0) (hdg : decode cc pc = .ok (.invokespecial idx, 3))
    (kk : W p l e (mk_rm h0 mc ms) s m args below meth c H locs cells slots Q (F0 m (pc + 3) ls [])) : W p l e (mk_rm h0 mc ms) s m args below meth c H locs cells slots Q (F0 m pc ls [.ref a]) := by
  obtain ⟨hx, hb, hml, hown, hts⟩ := Z
  exact W.objInit hx hb hown (hts _ (fm_in k1 rfl)) (hts _ (fm_in k2 rfl)) (hts _ (fm_in k3 rfl)) rfl (by rw [hml]; exact hl) rfl hdg hh (by show 12 ≤ 40 * h0; omega) kk
/-- a constructor is called: its cells are the places isC of the world, the rest the places isR -/
theorem mk_callI (Z : CallFix p m c cc nL s args fm_AW own) {y : MethodName} {b : ByteArray} {n h h0 mc ms MC MS idx k q : Nat} {wc wr : va_W} {As : List Value} {β : Type} {post : β → va_W} (hM : mk_M l y b n h mc ms D ids wc (.ref q :: As) H.size post) (hK : va_K D fm_cls (fm_tys ids) s) (hP : va_P D fm_cls ws H) (hD : va_D A ws) (hS : va_S A s.heap H locs) (hA : ∀ q, s.heap.size ≤ q → A q)
    (isC isR : List Nat) (hC : isC.map (fun i => ws[i]?) = wc.map some) (hR : isR.map (fun i => ws[i]?) = wr.map some) (hnC : va_nd isC = true) (hnR : va_nd isR = true) (hdis : ∀ i ∈ isR, i ∉ isC)
    (hy1 : y.name = "<init>") (k1 : Cond.methodLink own idx y ∈ lw_tbl) (k2 : Cond.instanceMethod y ∈ lw_tbl) (k4 : Cond.initialized y.cls ∈ lw_tbl) (k5 : Cond.code y b n none ∈ lw_tbl) (hd : y.cls ≠ "java/lang/invoke/MethodHandle" ∧ y.cls ≠ "java/lang/invoke/VarHandle" ∧ (parseMethodDescriptor y.desc).map (fun d => d.parameters.length) = some k) (hk : As.length = k) (hn : n ≤ 21) (hh : h + 1 ≤ h0) (hl : ls.size = nL) (hW : (rest.map fun v => v.category).sum ≤ 8) (hdg : decode cc pc = .ok (.invokespecial idx, 3)) (hcells : cells + mc ≤ MC) (hslots : slots + ms ≤ MS) (hst : st0 = As.reverse ++ .ref q :: rest)
    (kk : ∀ (u : β) (H1 : Heap) (locs1 : List Loc), va_P D fm_cls (wr ++ post u) H1 → va_D A (wr ++ post u) → va_S A s.heap H1 locs1 → W p l e (mk_rm h0 MC MS) s m args below meth c H1 locs1 (cells + mc) (slots + ms) Q (F0 m (pc + 3) ls rest)) : W p l e (mk_rm h0 MC MS) s m args below meth c H locs cells slots Q (F0 m pc ls st0) := by
  obtain ⟨hx, hb, hml, hown, hts⟩ := Z
  subst hst
  have hC2 : isC.filterMap (fun i => ws[i]?) = wc := by
    have h1 : (isC.map (fun i => ws[i]?)).filterMap id = (wc.map some).filterMap id := by rw [hC]
    rw [List.filterMap_map, List.filterMap_map] at h1
    have h2 : wc.filterMap (id ∘ some) = wc := by
      clear hC h1
      induction wc with
      | nil => rfl
      | cons x r ih => simp
    rw [h2] at h1
    exact h1
  have hPc := hP.sub (ws' := wc) isC hC2
  have hDc := hD.sub (ws' := wc) isC hnC hC
  have hFc := va_free (wc := wc) hD hS hA isC hC
  have hG : GoodIn fm_AW (fm_ws y b n none) := by
    intro w hw
    rcases List.mem_cons.mp hw with h | h
    · subst h
      exact ⟨fm_in k5 rfl, Or.inl rfl⟩
    · exact ⟨h, good_of_word (fm_AW_good w h).2⟩
  have hRm : (mk_rm h mc ms).frames + 1 ≤ (mk_rm h0 MC MS).frames ∧ 8 + (n + 11) + (mk_rm h mc ms).locals ≤ (mk_rm h0 MC MS).locals := ⟨hh, by show 8 + (n + 11) + 40 * h ≤ 40 * h0; omega⟩
  refine va_callv (va_runI (n := k) (As := As) (rest := rest) ⟨hx, hb, hml, hown, hts⟩ hM (cwI (ws' := fm_AW) k hts hG rfl rfl rfl (hts _ (fm_in k4 rfl)) (hts _ (fm_in k1 rfl)) (hts _ (fm_in k2 rfl)) hy1 hd hRm) ⟨mk_blind, fun U hU hW => ⟨rfl, by rw [hU], by rw [hU]; exact hPc, va_K.moved hW.alike hK, hDc.weaken (fun _ _ _ _ => trivial)⟩⟩ rfl hk hl rfl (lv_room hW) hdg ⟨hcells, hslots⟩) hS (fun q _ h => hFc q h) hFc (fun u t H1 locs1 ht hvm _ hB hz1 hk1 hS1 => ?_)
  obtain ⟨hP1, hD1⟩ := hB
  rw [ht] at hP1
  obtain ⟨hP2, hD2⟩ := va_join (wr := wr) (w1 := post u) hP hD isC isR hC hR hnR hdis hk1 hFc hP1 hD1
  exact kk u H1 locs1 hP2 hD2 hS1
/-- the end of a constructor -/
theorem mk_ret (Z : CallFix p m c cc nL s args fm_AW own) {mc ms h0 : Nat} {w0 : va_W} {β : Type} {post : β → va_W} (hr : meth.sig.returnType = none) (hlocks : meth.locks = false) (hP : va_P D fm_cls ws H) (hD : va_D (va_A w0 s.heap.size) ws) (hS : va_S (va_A w0 s.heap.size) s.heap H locs) (u : β) (hu : post u = ws) (hc : cells ≤ mc) (hs : slots ≤ ms) (hdg : decode cc pc = .ok (.return_, 1)) : W p l e (mk_rm h0 mc ms) s m args below meth c H locs cells slots (MQ below (va_Qv (fun _ : β => True) (fun u t => va_P D fm_cls (post u) t.heap ∧ va_D (va_A w0 s.heap.size) (post u)) (va_A w0 s.heap.size)) args s mc ms (va_A w0 s.heap.size)) (F0 m pc ls []) := by
  obtain ⟨hx, hb, hml, hown, hts⟩ := Z
  refine W.widen (k := mc) (n := ms) hc hs ?_
  exact W.vret hx hb hr (fun t ht hW => ⟨⟨u, rfl, trivial, by rw [ht, hu]; exact hP, by rw [hu]; exact hD⟩, hS.F ht⟩) hS.2.2 hdg
end MK
