/-! LAW: a call on one side, the other side stays -/
section LAWC
variable {p : Program} {l : Launch} {e : Env} {R : Room} {s : State} {m : MethodId} {args : Array Value} {below : List Frame} {meth : Method} {c : Code} {H : Heap} {locs : List Loc} {cells slots : Nat} {Q : State → Prop}
variable {cc : ByteArray} {pc nL : Nat} {ls : Array Slot} {rest st0 : List Value} {own : String} {D : va_G} {ids kap lam : Nat → Nat} {RL : List Nat} {ad sk sv : Nat → Nat} {S : fm_M} {A : Nat → Prop}
variable {y : MethodName} {b : ByteArray} {n h idx k : Nat} {ret : Option FieldType} {As : List Value}
theorem lw_callB (hts : ∀ w ∈ fm_AW, w.before args s = true) (k1 : Cond.methodLink own idx y ∈ lw_tbl) (k4 : Cond.initialized y.cls ∈ lw_tbl) (k5 : Cond.code y b n ret ∈ lw_tbl) (hd : y.cls ≠ "java/lang/invoke/MethodHandle" ∧ y.cls ≠ "java/lang/invoke/VarHandle" ∧ (parseMethodDescriptor y.desc).map (fun d => d.parameters.length) = some k) (hR : h + 1 ≤ R.frames ∧ 8 + (n + 11) + 40 * h ≤ R.locals) :
    CallB R s args own idx y b n ret (fm_ws y b n ret) (fm_rm h) 0 0 k := by
  refine callB_of (Ts := fm_AW) (ws' := fm_AW) k hts ?_ rfl rfl rfl (hts _ (fm_in k4 rfl)) (hts _ (fm_in k1 rfl)) hd hR
  intro w hw
  rcases List.mem_cons.mp hw with h | h
  · subst h
    exact ⟨fm_in k5 rfl, Or.inl rfl⟩
  · exact ⟨h, good_of_word (fm_AW_good w h).2⟩
theorem lw_ci (Z : CallFix p m c cc nL s args fm_AW own) (G : fm_G D ids kap RL ad s A) (F : fm_F D ids kap lam RL ad S A s.heap H locs) (N : fm_NW sk sv A s s.heap) {q : Nat} {r : Int32} {u : fm_M}
    (hM : fm_MI l y b n ret h D ids kap lam RL ad sk sv S (.ref (ad q) :: As) H.size r u) (hc : kap q < 13) (hcn : fm_R (kap q) = y.cls)
    (k1 : Cond.methodLink own idx y ∈ lw_tbl) (k2 : Cond.instanceMethod y ∈ lw_tbl) (k3 : Cond.selects y.cls y y ∈ lw_tbl) (k4 : Cond.initialized y.cls ∈ lw_tbl) (k5 : Cond.code y b n ret ∈ lw_tbl)
    (hd : y.cls ≠ "java/lang/invoke/MethodHandle" ∧ y.cls ≠ "java/lang/invoke/VarHandle" ∧ (parseMethodDescriptor y.desc).map (fun d => d.parameters.length) = some k) (hk : As.length = k) (hR : h + 1 ≤ R.frames ∧ 8 + (n + 11) + 40 * h ≤ R.locals) (hl : ls.size = nL) (hW : (rest.map fun v => v.category).sum ≤ 8) (hdg : decode cc pc = .ok (.invokevirtual idx, 3)) (hcl : cells ≤ R.cells) (hsl : slots ≤ R.slots) (hst : st0 = As.reverse ++ .ref (ad q) :: rest)
    (ws' : va_W) (hO : va_P D fm_cls ws' H) (hdis : ∀ x, x ∈ ws' → (∀ r, r ∈ RL → x.1 ≠ ad r) ∧ x.1 < H.size)
    (kk : ∀ H1 locs1, fm_F D ids kap lam RL ad u A s.heap H1 locs1 → va_P D fm_cls ws' H1 → H.size ≤ H1.size → W p l e R s m args below meth c H1 locs1 cells slots Q (F0 m (pc + 3) ls (.int r :: rest))) : W p l e R s m args below meth c H locs cells slots Q (F0 m pc ls st0) := by
  obtain ⟨hx, hb, hml, hown, hts⟩ := Z
  subst hst
  refine va_calli (va_runV (n := k) (mc := 0) (ms := 0) ⟨hx, hb, hml, hown, hts⟩ hM ⟨lw_callB hts k1 k4 k5 hd hR, hts _ (fm_in k2 rfl), hts _ (fm_in k3 rfl)⟩ ⟨fm_blind, by rw [← hcn]; exact fm_recv G F hc, fun U hU hW => fm_Pre_at G F N _ U hU hW⟩ rfl hk hl rfl (lv_room hW) hdg ⟨hcl, hsl⟩) F.2 (fun q _ h => fm_sub G F.2 q h) (fm_sub G F.2) (fun r' u' t H1 locs1 ht hvm hw hB hz hk1 hS => ?_)
  subst hw
  refine kk H1 locs1 ⟨by rw [← ht]; exact hB, hS⟩ (hO.kept (fun i x hi => ?_)) hz
  obtain ⟨d1, d2⟩ := hdis x (List.mem_of_getElem? hi)
  refine hk1 x.1 d2 (fun hA => ?_)
  rcases hA with ⟨r, hr, e⟩ | e
  · exact d1 r hr e
  · exact absurd d2 (Nat.not_lt.2 e)
theorem lw_cl (Z : CallFix p m c cc nL s args fm_AW own) (G : fm_G D ids kap RL ad s A) (F : fm_F D ids kap lam RL ad S A s.heap H locs) (N : fm_NW sk sv A s s.heap) {q : Nat} {r : Int64} {u : fm_M}
    (hM : fm_ML l y b n ret h D ids kap lam RL ad sk sv S (.ref (ad q) :: As) H.size r u) (hc : kap q < 13) (hcn : fm_R (kap q) = y.cls)
    (k1 : Cond.methodLink own idx y ∈ lw_tbl) (k2 : Cond.instanceMethod y ∈ lw_tbl) (k3 : Cond.selects y.cls y y ∈ lw_tbl) (k4 : Cond.initialized y.cls ∈ lw_tbl) (k5 : Cond.code y b n ret ∈ lw_tbl)
    (hd : y.cls ≠ "java/lang/invoke/MethodHandle" ∧ y.cls ≠ "java/lang/invoke/VarHandle" ∧ (parseMethodDescriptor y.desc).map (fun d => d.parameters.length) = some k) (hk : As.length = k) (hR : h + 1 ≤ R.frames ∧ 8 + (n + 11) + 40 * h ≤ R.locals) (hl : ls.size = nL) (hW : (rest.map fun v => v.category).sum ≤ 8) (hdg : decode cc pc = .ok (.invokevirtual idx, 3)) (hcl : cells ≤ R.cells) (hsl : slots ≤ R.slots) (hst : st0 = As.reverse ++ .ref (ad q) :: rest)
    (ws' : va_W) (hO : va_P D fm_cls ws' H) (hdis : ∀ x, x ∈ ws' → (∀ r, r ∈ RL → x.1 ≠ ad r) ∧ x.1 < H.size)
    (kk : ∀ H1 locs1, fm_F D ids kap lam RL ad u A s.heap H1 locs1 → va_P D fm_cls ws' H1 → H.size ≤ H1.size → W p l e R s m args below meth c H1 locs1 cells slots Q (F0 m (pc + 3) ls (.long r :: rest))) : W p l e R s m args below meth c H locs cells slots Q (F0 m pc ls st0) := by
  obtain ⟨hx, hb, hml, hown, hts⟩ := Z
  subst hst
  refine va_calll (va_runV (n := k) (mc := 0) (ms := 0) ⟨hx, hb, hml, hown, hts⟩ hM ⟨lw_callB hts k1 k4 k5 hd hR, hts _ (fm_in k2 rfl), hts _ (fm_in k3 rfl)⟩ ⟨fm_blind, by rw [← hcn]; exact fm_recv G F hc, fun U hU hW => fm_Pre_at G F N _ U hU hW⟩ rfl hk hl rfl (lv_room hW) hdg ⟨hcl, hsl⟩) F.2 (fun q _ h => fm_sub G F.2 q h) (fm_sub G F.2) (fun r' u' t H1 locs1 ht hvm hw hB hz hk1 hS => ?_)
  subst hw
  refine kk H1 locs1 ⟨by rw [← ht]; exact hB, hS⟩ (hO.kept (fun i x hi => ?_)) hz
  obtain ⟨d1, d2⟩ := hdis x (List.mem_of_getElem? hi)
  refine hk1 x.1 d2 (fun hA => ?_)
  rcases hA with ⟨r, hr, e⟩ | e
  · exact d1 r hr e
  · exact absurd d2 (Nat.not_lt.2 e)
end LAWC
