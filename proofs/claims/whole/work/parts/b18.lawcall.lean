/-! LAW: makers called out of the law (any room) -/
section MK
variable {p : Program} {l : Launch} {e : Env} {R : Room} {s : State} {m : MethodId} {args : Array Value} {below : List Frame} {meth : Method} {c : Code} {H : Heap} {locs : List Loc} {cells slots : Nat} {Q : State → Prop}
variable {cc : ByteArray} {pc nL : Nat} {ls : Array Slot} {rest st0 : List Value} {own : String} {D : va_G} {ids : Nat → ClassId} {ws : va_W} {A : Nat → Prop}
theorem lw_callI (Z : CallFix p m c cc nL s args fm_AW own) {y : MethodName} {b : ByteArray} {n h mc ms idx k q : Nat} {wc wr : va_W} {As : List Value} {β : Type} {post : β → va_W} (hM : mk_M l y b n h mc ms D ids wc (.ref q :: As) H.size post) (hK : va_K D fm_cls (fm_tys ids) s) (hP : va_P D fm_cls ws H) (hD : va_D A ws) (hS : va_S A s.heap H locs) (hA : ∀ q, s.heap.size ≤ q → A q)
    (isC isR : List Nat) (hC : isC.map (fun i => ws[i]?) = wc.map some) (hR : isR.map (fun i => ws[i]?) = wr.map some) (hnC : va_nd isC = true) (hnR : va_nd isR = true) (hdis : ∀ i ∈ isR, i ∉ isC)
    (hy1 : y.name = "<init>") (k1 : Cond.methodLink own idx y ∈ lw_tbl) (k2 : Cond.instanceMethod y ∈ lw_tbl) (k4 : Cond.initialized y.cls ∈ lw_tbl) (k5 : Cond.code y b n none ∈ lw_tbl) (hd : y.cls ≠ "java/lang/invoke/MethodHandle" ∧ y.cls ≠ "java/lang/invoke/VarHandle" ∧ (parseMethodDescriptor y.desc).map (fun d => d.parameters.length) = some k) (hk : As.length = k) (hn : n ≤ 21) (hR2 : h + 1 ≤ R.frames ∧ 8 + (n + 11) + 40 * h ≤ R.locals) (hl : ls.size = nL) (hW : (rest.map fun v => v.category).sum ≤ 8) (hdg : decode cc pc = .ok (.invokespecial idx, 3)) (hcells : cells + mc ≤ R.cells) (hslots : slots + ms ≤ R.slots) (hst : st0 = As.reverse ++ .ref q :: rest)
    (kk : ∀ (u : β) (H1 : Heap) (locs1 : List Loc), va_P D fm_cls (wr ++ post u) H1 → va_D A (wr ++ post u) → va_S A s.heap H1 locs1 → W p l e R s m args below meth c H1 locs1 (cells + mc) (slots + ms) Q (F0 m (pc + 3) ls rest)) : W p l e R s m args below meth c H locs cells slots Q (F0 m pc ls st0) := by
  obtain ⟨hx, hb, hml, hown, hts⟩ := Z
  subst hst
  have hC2 : isC.filterMap (fun i => ws[i]?) = wc := by
    have h1 : (isC.map (fun i => ws[i]?)).filterMap id = (wc.map some).filterMap id := by rw [hC]
    rw [List.filterMap_map, List.filterMap_map] at h1
    have h2 : wc.filterMap (id ∘ some) = wc := by
      clear hC h1
      induction wc with
      | nil => rfl
      | cons x r ih => simp
    rw [h2] at h1
    exact h1
  have hPc := hP.sub (ws' := wc) isC hC2
  have hDc := hD.sub (ws' := wc) isC hnC hC
  have hFc := va_free (wc := wc) hD hS hA isC hC
  have hG : GoodIn fm_AW (fm_ws y b n none) := by
    intro w hw
    rcases List.mem_cons.mp hw with h | h
    · subst h
      exact ⟨fm_in k5 rfl, Or.inl rfl⟩
    · exact ⟨h, good_of_word (fm_AW_good w h).2⟩
  have hRm : (mk_rm h mc ms).frames + 1 ≤ R.frames ∧ 8 + (n + 11) + (mk_rm h mc ms).locals ≤ R.locals := hR2
  refine va_callv (va_runI (n := k) (As := As) (rest := rest) ⟨hx, hb, hml, hown, hts⟩ hM (cwI (ws' := fm_AW) k hts hG rfl rfl rfl (hts _ (fm_in k4 rfl)) (hts _ (fm_in k1 rfl)) (hts _ (fm_in k2 rfl)) hy1 hd hRm) ⟨mk_blind, fun U hU hW => ⟨rfl, by rw [hU], by rw [hU]; exact hPc, va_K.moved hW.alike hK, hDc.weaken (fun _ _ _ _ => trivial)⟩⟩ rfl hk hl rfl (lv_room hW) hdg ⟨hcells, hslots⟩) hS (fun q _ h => hFc q h) hFc (fun u t H1 locs1 ht hvm _ hB hz1 hk1 hS1 => ?_)
  obtain ⟨hP1, hD1⟩ := hB
  rw [ht] at hP1
  obtain ⟨hP2, hD2⟩ := va_join (wr := wr) (w1 := post u) hP hD isC isR hC hR hnR hdis hk1 hFc hP1 hD1
  exact kk u H1 locs1 hP2 hD2 hS1
theorem lw_callIX (Z : CallFix p m c cc nL s args fm_AW own) {y : MethodName} {b : ByteArray} {n h mc ms idx k q : Nat} {wc wr : va_W} {As : List Value} {β : Type} {post : β → va_W} {X : State → Prop} (hXm : mk_Mv X) (hXs : X s) (hM : mk_G X l y b n none h mc ms D ids wc (.ref q :: As) H.size (mk_Qv D post)) (hK : va_K D fm_cls (fm_tys ids) s) (hP : va_P D fm_cls ws H) (hD : va_D A ws) (hS : va_S A s.heap H locs) (hA : ∀ q, s.heap.size ≤ q → A q)
    (isC isR : List Nat) (hC : isC.map (fun i => ws[i]?) = wc.map some) (hR : isR.map (fun i => ws[i]?) = wr.map some) (hnC : va_nd isC = true) (hnR : va_nd isR = true) (hdis : ∀ i ∈ isR, i ∉ isC)
    (hy1 : y.name = "<init>") (k1 : Cond.methodLink own idx y ∈ lw_tbl) (k2 : Cond.instanceMethod y ∈ lw_tbl) (k4 : Cond.initialized y.cls ∈ lw_tbl) (k5 : Cond.code y b n none ∈ lw_tbl) (hd : y.cls ≠ "java/lang/invoke/MethodHandle" ∧ y.cls ≠ "java/lang/invoke/VarHandle" ∧ (parseMethodDescriptor y.desc).map (fun d => d.parameters.length) = some k) (hk : As.length = k) (hn : n ≤ 21) (hR2 : h + 1 ≤ R.frames ∧ 8 + (n + 11) + 40 * h ≤ R.locals) (hl : ls.size = nL) (hW : (rest.map fun v => v.category).sum ≤ 8) (hdg : decode cc pc = .ok (.invokespecial idx, 3)) (hcells : cells + mc ≤ R.cells) (hslots : slots + ms ≤ R.slots) (hst : st0 = As.reverse ++ .ref q :: rest)
    (kk : ∀ (u : β) (H1 : Heap) (locs1 : List Loc), va_P D fm_cls (wr ++ post u) H1 → va_D A (wr ++ post u) → va_S A s.heap H1 locs1 → W p l e R s m args below meth c H1 locs1 (cells + mc) (slots + ms) Q (F0 m (pc + 3) ls rest)) : W p l e R s m args below meth c H locs cells slots Q (F0 m pc ls st0) := by
  obtain ⟨hx, hb, hml, hown, hts⟩ := Z
  subst hst
  have hC2 : isC.filterMap (fun i => ws[i]?) = wc := by
    have h1 : (isC.map (fun i => ws[i]?)).filterMap id = (wc.map some).filterMap id := by rw [hC]
    rw [List.filterMap_map, List.filterMap_map] at h1
    have h2 : wc.filterMap (id ∘ some) = wc := by
      clear hC h1
      induction wc with
      | nil => rfl
      | cons x r ih => simp
    rw [h2] at h1
    exact h1
  have hPc := hP.sub (ws' := wc) isC hC2
  have hDc := hD.sub (ws' := wc) isC hnC hC
  have hFc := va_free (wc := wc) hD hS hA isC hC
  have hG : GoodIn fm_AW (fm_ws y b n none) := by
    intro w hw
    rcases List.mem_cons.mp hw with h | h
    · subst h
      exact ⟨fm_in k5 rfl, Or.inl rfl⟩
    · exact ⟨h, good_of_word (fm_AW_good w h).2⟩
  have hRm : (mk_rm h mc ms).frames + 1 ≤ R.frames ∧ 8 + (n + 11) + (mk_rm h mc ms).locals ≤ R.locals := hR2
  refine va_callv (va_runI (n := k) (As := As) (rest := rest) ⟨hx, hb, hml, hown, hts⟩ hM (cwI (ws' := fm_AW) k hts hG rfl rfl rfl (hts _ (fm_in k4 rfl)) (hts _ (fm_in k1 rfl)) (hts _ (fm_in k2 rfl)) hy1 hd hRm) ⟨mk_blindX hXm, fun U hU hW => ⟨rfl, hXm _ _ hW.alike (Or.inr hW) hXs, by rw [hU], by rw [hU]; exact hPc, va_K.moved hW.alike hK, hDc.weaken (fun _ _ _ _ => trivial)⟩⟩ rfl hk hl rfl (lv_room hW) hdg ⟨hcells, hslots⟩) hS (fun q _ h => hFc q h) hFc (fun u t H1 locs1 ht hvm _ hB hz1 hk1 hS1 => ?_)
  obtain ⟨hP1, hD1⟩ := hB
  rw [ht] at hP1
  obtain ⟨hP2, hD2⟩ := va_join (wr := wr) (w1 := post u) hP hD isC isR hC hR hnR hdis hk1 hFc hP1 hD1
  exact kk u H1 locs1 hP2 hD2 hS1
theorem lw_callVi (Z : CallFix p m c cc nL s args fm_AW own) {y : MethodName} {b : ByteArray} {n h mc ms idx k q q0 ci : Nat} {fs : List Value} {wc wr : va_W} {As : List Value} {β : Type} {post : β → va_W} {ret : Option FieldType} {ri : Int32} {X : State → Prop} (hXm : mk_Mv X) (hXs : X s) (hM : mk_G X l y b n ret h mc ms D ids wc (.ref q :: As) H.size (mk_Qi D ri post)) (hK : va_K D fm_cls (fm_tys ids) s) (hP : va_P D fm_cls ws H) (hD : va_D A ws) (hS : va_S A s.heap H locs) (hA : ∀ q, s.heap.size ≤ q → A q)
    (he : ws[q0]? = some (q, .inr (ci, fs))) (hc : ci < 13) (hcn : fm_R ci = y.cls)
    (isC isR : List Nat) (hC : isC.map (fun i => ws[i]?) = wc.map some) (hR : isR.map (fun i => ws[i]?) = wr.map some) (hnC : va_nd isC = true) (hnR : va_nd isR = true) (hdis : ∀ i ∈ isR, i ∉ isC)
    (k1 : Cond.methodLink own idx y ∈ lw_tbl) (k2 : Cond.instanceMethod y ∈ lw_tbl) (k3 : Cond.selects y.cls y y ∈ lw_tbl) (k4 : Cond.initialized y.cls ∈ lw_tbl) (k5 : Cond.code y b n ret ∈ lw_tbl) (hd : y.cls ≠ "java/lang/invoke/MethodHandle" ∧ y.cls ≠ "java/lang/invoke/VarHandle" ∧ (parseMethodDescriptor y.desc).map (fun d => d.parameters.length) = some k) (hk : As.length = k) (hn : n ≤ 21) (hR2 : h + 1 ≤ R.frames ∧ 8 + (n + 11) + 40 * h ≤ R.locals) (hl : ls.size = nL) (hW : (rest.map fun v => v.category).sum ≤ 8) (hdg : decode cc pc = .ok (.invokevirtual idx, 3)) (hcells : cells + mc ≤ R.cells) (hslots : slots + ms ≤ R.slots) (hst : st0 = As.reverse ++ .ref q :: rest)
    (kk : ∀ (u : β) (H1 : Heap) (locs1 : List Loc), va_P D fm_cls (wr ++ post u) H1 → va_D A (wr ++ post u) → va_S A s.heap H1 locs1 → W p l e R s m args below meth c H1 locs1 (cells + mc) (slots + ms) Q (F0 m (pc + 3) ls (.int ri :: rest))) : W p l e R s m args below meth c H locs cells slots Q (F0 m pc ls st0) := by
  obtain ⟨hx, hb, hml, hown, hts⟩ := Z
  subst hst
  have hC2 : isC.filterMap (fun i => ws[i]?) = wc := by
    have h1 : (isC.map (fun i => ws[i]?)).filterMap id = (wc.map some).filterMap id := by rw [hC]
    rw [List.filterMap_map, List.filterMap_map] at h1
    have h2 : wc.filterMap (id ∘ some) = wc := by
      clear hC h1
      induction wc with
      | nil => rfl
      | cons x r ih => simp
    rw [h2] at h1
    exact h1
  have hPc := hP.sub (ws' := wc) isC hC2
  have hDc := hD.sub (ws' := wc) isC hnC hC
  have hFc := va_free (wc := wc) hD hS hA isC hC
  have hG : GoodIn fm_AW (fm_ws y b n ret) := by
    intro w hw
    rcases List.mem_cons.mp hw with h | h
    · subst h
      exact ⟨fm_in k5 rfl, Or.inl rfl⟩
    · exact ⟨h, good_of_word (fm_AW_good w h).2⟩
  have hRm : (mk_rm h mc ms).frames + 1 ≤ R.frames ∧ 8 + (n + 11) + (mk_rm h mc ms).locals ≤ R.locals := hR2
  have hB : CallB R s args own idx y b n ret (fm_ws y b n ret) (mk_rm h mc ms) mc ms k := callB_of (Ts := fm_AW) (ws' := fm_AW) k hts hG rfl rfl rfl (hts _ (fm_in k4 rfl)) (hts _ (fm_in k1 rfl)) hd hRm
  refine va_calli (va_runV (n := k) (As := As) (rest := rest) ⟨hx, hb, hml, hown, hts⟩ hM ⟨hB, hts _ (fm_in k2 rfl), hts _ (fm_in k3 rfl)⟩ ⟨mk_blindX hXm, by rw [← hcn]; exact va_recv hK hP (fm_cls_at _ hc) he, fun U hU hW => ⟨rfl, hXm _ _ hW.alike (Or.inr hW) hXs, by rw [hU], by rw [hU]; exact hPc, va_K.moved hW.alike hK, hDc.weaken (fun _ _ _ _ => trivial)⟩⟩ rfl hk hl rfl (lv_room hW) hdg ⟨hcells, hslots⟩) hS (fun q _ h => hFc q h) hFc (fun r u t H1 locs1 ht hvm hw hB hz1 hk1 hS1 => ?_)
  subst hw
  obtain ⟨hP1, hD1⟩ := hB
  rw [ht] at hP1
  obtain ⟨hP2, hD2⟩ := va_join (wr := wr) (w1 := post u) hP hD isC isR hC hR hnR hdis hk1 hFc hP1 hD1
  exact kk u H1 locs1 hP2 hD2 hS1
end MK
