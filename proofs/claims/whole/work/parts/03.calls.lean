/-! contracts by models, and calls -/
def fm_rm (h : Nat) : Room := { frames := h, cells := 0, slots := 0, locals := 40 * h }
/-- words that are no steady ones -/
def fm_nwl : List Cond := [.castable "FrostBids$Jail" "FrostBids$Kitchen", .castable "FrostBids$Church" "FrostBids$Nursery", .castable "FrostBids$Told" "FrostBids$Rectory", .declares ⟨"FrostBids$Pane", "drips", "(I)I"⟩, .declares ⟨"FrostBids$Pane", "creaks", "(I)I"⟩, .declares ⟨"FrostBids$Pane", "shines", "(I)I"⟩, .declares ⟨"FrostBids$Kitchen", "drips", "(I)I"⟩, .declares ⟨"FrostBids$Pane", "keep", "()V"⟩, .declares ⟨"FrostBids$Pane", "takeBack", "()V"⟩, .fieldLinkNest "FrostBids" 239 "FrostBids$Rows" "came" "I" "FrostBids", .methodLinkNest "FrostBids$Rows" 41 ⟨"FrostBids", "isWithin", "(II)Z"⟩ "FrostBids"]
/-- classes that aren't under the other -/
def fm_ncl : List (String × String) := [("FrostBids$Pane", "FrostBids$Kitchen"), ("FrostBids$Nursery", "FrostBids$Kitchen"), ("FrostBids$Rectory", "FrostBids$Kitchen"), ("FrostBids$Church", "FrostBids$Kitchen"), ("FrostBids$Told", "FrostBids$Kitchen"),
  ("FrostBids$Pane", "FrostBids$Nursery"), ("FrostBids$Kitchen", "FrostBids$Nursery"), ("FrostBids$Rectory", "FrostBids$Nursery"), ("FrostBids$Jail", "FrostBids$Nursery"), ("FrostBids$Told", "FrostBids$Nursery"),
  ("FrostBids$Pane", "FrostBids$Rectory"), ("FrostBids$Kitchen", "FrostBids$Rectory"), ("FrostBids$Nursery", "FrostBids$Rectory"), ("FrostBids$Jail", "FrostBids$Rectory"), ("FrostBids$Church", "FrostBids$Rectory"),
  ("FrostBids$Pane", "FrostBids$Jail"), ("FrostBids$Kitchen", "FrostBids$Jail"), ("FrostBids$Nursery", "FrostBids$Jail"), ("FrostBids$Rectory", "FrostBids$Jail"), ("FrostBids$Church", "FrostBids$Jail"), ("FrostBids$Told", "FrostBids$Jail"),
  ("FrostBids$Pane", "FrostBids$Church"), ("FrostBids$Kitchen", "FrostBids$Church"), ("FrostBids$Nursery", "FrostBids$Church"), ("FrostBids$Rectory", "FrostBids$Church"), ("FrostBids$Jail", "FrostBids$Church"), ("FrostBids$Told", "FrostBids$Church"),
  ("FrostBids$Pane", "FrostBids$Told"), ("FrostBids$Kitchen", "FrostBids$Told"), ("FrostBids$Nursery", "FrostBids$Told"), ("FrostBids$Rectory", "FrostBids$Told"), ("FrostBids$Jail", "FrostBids$Told"), ("FrostBids$Church", "FrostBids$Told")]
/-- the String constants: class, entry, text, which of the six -/
def fm_srl : List (String × Nat × String × Nat) := [("FrostBids$Reader", 79, "fern ", 0), ("FrostBids$Reader", 81, "tower ", 1), ("FrostBids$Reader", 83, "chill ", 2), ("FrostBids$Reader", 85, "glow ", 3), ("FrostBidsModel", 108, "fern ", 0), ("FrostBidsModel", 114, "tower ", 1), ("FrostBidsModel", 116, "chill ", 2), ("FrostBidsModel", 121, "glow ", 3), ("FrostBidsModel", 90, "pkcnwh", 4), ("FrostBidsModel", 96, "<=>", 5)]
def fm_slen : List Nat := [5, 6, 6, 5, 6, 3]
def fm_sbyt : List (List Int32) := [[102, 101, 114, 110, 32], [116, 111, 119, 101, 114, 32], [99, 104, 105, 108, 108, 32], [103, 108, 111, 119, 32], [112, 107, 99, 110, 119, 104], [60, 61, 62]]
/-- what a method needs beside the words: sk the String constants' addresses, sv their rows of bytes -/
def fm_NW (sk sv : Nat → Nat) (A : Nat → Prop) (U : State) (H : Heap) : Prop :=
  (∀ w ∈ fm_nwl, va_Nw w U) ∧ (∀ q ∈ fm_ncl, va_Nc q.1 q.2 U) ∧ (∀ q ∈ fm_srl, vk_R q.1 q.2.1 q.2.2.1 (sk q.2.2.2) U) ∧ vk_S 6 fm_slen fm_sbyt sk sv A U H ∧ va_Z "java/lang/String" "COMPACT_STRINGS" "Z" (.int 1) A U H ∧ va_Zq "jdk/internal/util/Preconditions" "SIOOBE_FORMATTER" "Ljava/util/function/BiFunction;" A U H
theorem fm_nwl_warm {s U : State} (hW : s.WarmedH U.vm) (h : ∀ w ∈ fm_nwl, va_Nw w s) : ∀ w ∈ fm_nwl, va_Nw w U := by
  intro w hw
  have h1 := h w hw
  simp only [fm_nwl, List.mem_cons, List.not_mem_nil, or_false] at hw
  rcases hw with hw | hw | hw | hw | hw | hw | hw | hw | hw | hw | hw <;> subst hw <;> first | exact va_Nw.warmC hW h1 | exact va_Nw.warmD hW h1 | exact va_Nw.warmF hW h1 | exact va_Nw.warmM hW h1
theorem fm_nwl_same {u U : State} (hv : u.vm = U.vm) (h : ∀ w ∈ fm_nwl, va_Nw w u) : ∀ w ∈ fm_nwl, va_Nw w U := by
  intro w hw
  have h1 := h w hw
  have h2 : w.onTables = true := (show ∀ w ∈ fm_nwl, w.onTables = true by decide) w hw
  exact va_Nw.same h2 hv h1
theorem fm_NW.go {sk sv : Nat → Nat} {A A' : Nat → Prop} {s U : State} {H : Heap} {locs : List Loc} (N : fm_NW sk sv A s s.heap) (hS : va_S A s.heap H locs) (hA : ∀ q, A' q → A q) (hU : U.heap = H) (hW : s.WarmedH U.vm) : fm_NW sk sv A' U U.heap := by
  subst hU
  obtain ⟨h1, h2, h3, h4, h5, h6⟩ := N
  have hq : ∀ a : Nat, a < s.heap.size → ¬ A a → U.heap[a]? = s.heap[a]? := hS.2.1
  exact ⟨fm_nwl_warm hW h1, fun q hq' => (h2 q hq').moved hW.alike, fun q hq' => (h3 q hq').warm hW, ((h4.moved hW.alike).kept hq).narrow hA, ((h5.moved hW.alike).kept hq).narrow hA, ((h6.moved hW.alike).kept hq).narrow hA⟩
theorem fm_NW.same {sk sv : Nat → Nat} {A : Nat → Prop} {u U : State} (N : fm_NW sk sv A u u.heap) (hv : U.vm = u.vm) (hh : U.heap = u.heap) : fm_NW sk sv A U U.heap := by
  obtain ⟨h1, h2, h3, h4, h5, h6⟩ := N
  have ha : u.vm.Alike U.vm := by rw [hv]; exact Vm.Alike.refl _
  rw [hh]
  exact ⟨fm_nwl_same hv.symm h1, fun q hq' => (h2 q hq').moved ha, fun q hq' => (h3 q hq').same hv, h4.moved ha, h5.moved ha, h6.moved ha⟩
def fm_E (kap : Nat → Nat) (RL : List Nat) (ad : Nat → Nat) : Prop := RL.Nodup ∧ (∀ r, kap r < 18 → r ∈ RL) ∧ ∀ a, a ∈ RL → ∀ b, b ∈ RL → ad a = ad b → a = b
def fm_Pre (D : va_G) (ids kap lam : Nat → Nat) (RL : List Nat) (ad sk sv : Nat → Nat) (S : fm_M) (av : List Value) (sz : Nat) : Array Value → State → Prop :=
  va_Pc av (fun U => U.heap.size = sz ∧ va_P D fm_cls (fm_w ids kap lam RL ad S) U.heap ∧ va_K D fm_cls (fm_tys ids) U ∧ fm_NW sk sv (fm_A RL ad sz) U U.heap)
theorem fm_blind {D : va_G} {ids kap lam : Nat → Nat} {RL : List Nat} {ad sk sv : Nat → Nat} {S : fm_M} {av : List Value} {sz : Nat} : FrameBlind (fm_Pre D ids kap lam RL ad sk sv S av sz) := by
  intro a U g mk h
  obtain ⟨h1, h2, h3, h4, h5⟩ := h
  exact ⟨h1, h2, h3, va_K.moved (u := U) (U := U.calling g mk a) (Vm.Alike.refl U.vm) h4, fm_NW.same (U := U.calling g mk a) h5 rfl rfl⟩
def fm_MI (l : Launch) (y : MethodName) (b : ByteArray) (n : Nat) (ret : Option FieldType) (h : Nat) (D : va_G) (ids kap lam : Nat → Nat) (RL : List Nat) (ad sk sv : Nat → Nat) (S : fm_M) (av : List Value) (sz : Nat) (r : Int32) (u : fm_M) : Prop :=
  Met l y (fm_ws y b n ret) (fm_rm h) (fm_Pre D ids kap lam RL ad sk sv S av sz) (va_Qi (fun x (_ : Unit) => x = r) (fun _ t => va_P D fm_cls (fm_w ids kap lam RL ad u) t.heap) (fm_A RL ad sz)) 0 0 (fm_A RL ad sz)
def fm_ML (l : Launch) (y : MethodName) (b : ByteArray) (n : Nat) (ret : Option FieldType) (h : Nat) (D : va_G) (ids kap lam : Nat → Nat) (RL : List Nat) (ad sk sv : Nat → Nat) (S : fm_M) (av : List Value) (sz : Nat) (r : Int64) (u : fm_M) : Prop :=
  Met l y (fm_ws y b n ret) (fm_rm h) (fm_Pre D ids kap lam RL ad sk sv S av sz) (va_Ql (fun x (_ : Unit) => x = r) (fun _ t => va_P D fm_cls (fm_w ids kap lam RL ad u) t.heap) (fm_A RL ad sz)) 0 0 (fm_A RL ad sz)
def fm_MV (l : Launch) (y : MethodName) (b : ByteArray) (n : Nat) (ret : Option FieldType) (h : Nat) (D : va_G) (ids kap lam : Nat → Nat) (RL : List Nat) (ad sk sv : Nat → Nat) (S : fm_M) (av : List Value) (sz : Nat) (u : fm_M) : Prop :=
  Met l y (fm_ws y b n ret) (fm_rm h) (fm_Pre D ids kap lam RL ad sk sv S av sz) (va_Qv (fun (_ : Unit) => True) (fun _ t => va_P D fm_cls (fm_w ids kap lam RL ad u) t.heap) (fm_A RL ad sz)) 0 0 (fm_A RL ad sz)
/-- a method that answers the object of role q -/
def fm_MR (l : Launch) (y : MethodName) (b : ByteArray) (n : Nat) (ret : Option FieldType) (h : Nat) (D : va_G) (ids kap lam : Nat → Nat) (RL : List Nat) (ad sk sv : Nat → Nat) (S : fm_M) (av : List Value) (sz : Nat) (q : Nat) (u : fm_M) : Prop :=
  Met l y (fm_ws y b n ret) (fm_rm h) (fm_Pre D ids kap lam RL ad sk sv S av sz) (va_Qr (fun (_ : Unit) => True) (fun _ a t => a = ad q ∧ va_P D fm_cls (fm_w ids kap lam RL ad u) t.heap) (fm_A RL ad sz)) 0 0 (fm_A RL ad sz)
section CALLS
variable {p : Program} {l : Launch} {e : Env} {R : Room} {s : State} {m : MethodId} {args : Array Value} {below : List Frame} {meth : Method} {c : Code} {H : Heap} {locs : List Loc} {cells slots : Nat} {Q : State → Prop}
variable {cc : ByteArray} {pc nL : Nat} {ls : Array Slot} {rest st0 : List Value} {own : String} {D : va_G} {ids kap lam : Nat → Nat} {RL : List Nat} {ad sk sv : Nat → Nat} {S : fm_M} {A : Nat → Prop} {α : Type} {res : α}
/-- a method's body: from its entry -/
theorem fm_open {y : MethodName} {b : ByteArray} {n : Nat} {ret : Option FieldType} {h : Nat} {av : List Value} {sz : Nat} {Qc : Array Value → State → Outcome → State → Prop} (hy : plainName y.cls = true) (hE : fm_E kap RL ad) (hn : (lg_sl av).length ≤ n)
    (body : ∀ p e s m args below meth c ls, CallFix p m c b n s args fm_AW y.cls → meth.sig.returnType = ret → meth.locks = false → fm_G D ids kap RL ad s (fm_A RL ad s.heap.size) → fm_F D ids kap lam RL ad S (fm_A RL ad s.heap.size) s.heap s.heap [] → fm_NW sk sv (fm_A RL ad s.heap.size) s s.heap → lv_has ls n (lv_args 0 av) → s.heap.size = sz →
      W p l e (fm_rm h) s m args below meth c s.heap [] 0 0 (MQ below Qc args s 0 0 (fm_A RL ad s.heap.size)) (F0 m 0 ls [])) : Met l y (fm_ws y b n ret) (fm_rm h) (fm_Pre D ids kap lam RL ad sk sv S av sz) Qc 0 0 (fm_A RL ad sz) := by
  refine Met.ofW (cc := b) (maxL := n) (ret := ret) hy rfl ?_
  intro p e s m args below meth c s₁ B hml hv
  obtain ⟨rfl, hsz, hP, hK, hN⟩ := hv
  have hts := atoms_spec (ws := fm_ws y b n ret) B.pre
  have hown : s.vm.findClass y.cls = some m.cls := findClass_of_methodNamed B.named
  subst hsz
  rw [lg_entry_eq]
  exact body p e s m _ below meth c _ ⟨B.exec, B.bytes, hml, hown, fun w hw => hts w (List.mem_cons_of_mem _ hw)⟩ B.returns B.notSynchronized ⟨hE.1, hE.2.1, hE.2.2, hK, fun r hr => Or.inl ⟨r, hr, rfl⟩, fun q hq => Or.inr hq⟩ ⟨hP, va_S.rf⟩ hN (lv_entry av hn) rfl
theorem fm_Pre_at (G : fm_G D ids kap RL ad s A) (F : fm_F D ids kap lam RL ad S A s.heap H locs) (N : fm_NW sk sv A s s.heap) (av : List Value) (U : State) (hU : U.heap = H) (hW : s.WarmedH U.vm) : fm_Pre D ids kap lam RL ad sk sv S av H.size av.toArray U := by
  refine ⟨rfl, by rw [hU], by rw [hU]; exact F.1, va_K.moved hW.alike G.2.2.2.1, fm_NW.go N F.2 (fun q hq => ?_) hU hW⟩
  rcases hq with ⟨r, hr, rfl⟩ | hq
  · exact G.2.2.2.2.1 r hr
  · exact G.2.2.2.2.2 q (Nat.le_trans F.2.1 hq)
theorem fm_sub (G : fm_G D ids kap RL ad s A) (hS : va_S A s.heap H locs) : ∀ q, fm_A RL ad H.size q → A q := by
  intro q hq
  rcases hq with ⟨r, hr, rfl⟩ | hq
  · exact G.2.2.2.2.1 r hr
  · exact G.2.2.2.2.2 q (Nat.le_trans hS.1 hq)
theorem fm_recv (G : fm_G D ids kap RL ad s A) (F : fm_F D ids kap lam RL ad S A s.heap H locs) {q : Nat} (hc : kap q < 13) : ∃ cell : Cell, H[ad q]? = some cell ∧ cell.vm.isStatics = false ∧ s.vm.findClass (fm_R (kap q)) = some cell.cls := by
  obtain ⟨q0, hq0, he⟩ := fm_at (ids := ids) (kap := kap) (lam := lam) (ad := ad) (S := S) (G.2.1 q (by omega))
  rw [fm_ct_obj rfl hc] at he
  exact va_recv G.2.2.2.1 F.1 (fm_cls_at _ hc) he
section RUN
variable {y : MethodName} {b : ByteArray} {n h h0 idx k : Nat} {ret : Option FieldType} {As : List Value} {Qc : Array Value → State → Outcome → State → Prop}
theorem fm_callB (hts : ∀ w ∈ fm_AW, w.before args s = true) (k1 : Cond.methodLink own idx y ∈ lw_tbl) (k4 : Cond.initialized y.cls ∈ lw_tbl) (k5 : Cond.code y b n ret ∈ lw_tbl) (hd : y.cls ≠ "java/lang/invoke/MethodHandle" ∧ y.cls ≠ "java/lang/invoke/VarHandle" ∧ (parseMethodDescriptor y.desc).map (fun d => d.parameters.length) = some k) (hn : n ≤ 21) (hh : h + 1 ≤ h0) :
    CallB (fm_rm h0) s args own idx y b n ret (fm_ws y b n ret) (fm_rm h) 0 0 k := by
  have hR : (fm_rm h).frames + 1 ≤ (fm_rm h0).frames ∧ 8 + (n + 11) + (fm_rm h).locals ≤ (fm_rm h0).locals := ⟨hh, by show 8 + (n + 11) + 40 * h ≤ 40 * h0; omega⟩
  refine callB_of (Ts := fm_AW) (ws' := fm_AW) k hts ?_ rfl rfl rfl (hts _ (fm_in k4 rfl)) (hts _ (fm_in k1 rfl)) hd hR
  intro w hw
  rcases List.mem_cons.mp hw with h | h
  · subst h
    exact ⟨fm_in k5 rfl, Or.inl rfl⟩
  · exact ⟨h, good_of_word (fm_AW_good w h).2⟩
/-- an instance method of the receiver's own class -/
theorem fm_runV (Z : CallFix p m c cc nL s args fm_AW own) (G : fm_G D ids kap RL ad s A) (F : fm_F D ids kap lam RL ad S A s.heap H locs) (N : fm_NW sk sv A s s.heap) {q : Nat}
    (hM : Met l y (fm_ws y b n ret) (fm_rm h) (fm_Pre D ids kap lam RL ad sk sv S (.ref (ad q) :: As) H.size) Qc 0 0 (fm_A RL ad H.size)) (hc : kap q < 13) (hcn : fm_R (kap q) = y.cls)
    (k1 : Cond.methodLink own idx y ∈ lw_tbl) (k2 : Cond.instanceMethod y ∈ lw_tbl) (k3 : Cond.selects y.cls y y ∈ lw_tbl) (k4 : Cond.initialized y.cls ∈ lw_tbl) (k5 : Cond.code y b n ret ∈ lw_tbl)
    (hd : y.cls ≠ "java/lang/invoke/MethodHandle" ∧ y.cls ≠ "java/lang/invoke/VarHandle" ∧ (parseMethodDescriptor y.desc).map (fun d => d.parameters.length) = some k) (hk : As.length = k) (hn : n ≤ 21) (hh : h + 1 ≤ h0) (hl : ls.size = nL) (hW : (rest.map fun v => v.category).sum ≤ 8) (hdg : decode cc pc = .ok (.invokevirtual idx, 3)) :
    cells ≤ 0 → slots ≤ 0 → va_Run p l e (fm_rm h0) s m args below meth c H locs cells slots 0 0 (F0 m pc ls (As.reverse ++ .ref (ad q) :: rest)) rest (Qc (Value.ref (ad q) :: As).toArray) (fm_A RL ad H.size) := by
  intro hc0 hs0
  obtain ⟨hx, hb, hml, hown, hts⟩ := Z
  exact va_runV (n := k) ⟨hx, hb, hml, hown, hts⟩ hM ⟨fm_callB hts k1 k4 k5 hd hn hh, hts _ (fm_in k2 rfl), hts _ (fm_in k3 rfl)⟩ ⟨fm_blind, by rw [← hcn]; exact fm_recv G F hc, fun U hU hW => fm_Pre_at G F N _ U hU hW⟩ rfl hk hl rfl (lv_room hW) hdg ⟨by show cells + 0 ≤ 0; omega, by show slots + 0 ≤ 0; omega⟩
/-- a static method -/
theorem fm_runS (Z : CallFix p m c cc nL s args fm_AW own) (G : fm_G D ids kap RL ad s A) (F : fm_F D ids kap lam RL ad S A s.heap H locs) (N : fm_NW sk sv A s s.heap)
    (hM : Met l y (fm_ws y b n ret) (fm_rm h) (fm_Pre D ids kap lam RL ad sk sv S As H.size) Qc 0 0 (fm_A RL ad H.size))
    (k1 : Cond.methodLink own idx y ∈ lw_tbl) (k2 : Cond.static y ∈ lw_tbl) (k4 : Cond.initialized y.cls ∈ lw_tbl) (k5 : Cond.code y b n ret ∈ lw_tbl)
    (hd : y.cls ≠ "java/lang/invoke/MethodHandle" ∧ y.cls ≠ "java/lang/invoke/VarHandle" ∧ (parseMethodDescriptor y.desc).map (fun d => d.parameters.length) = some k) (hk : As.length = k) (hn : n ≤ 21) (hh : h + 1 ≤ h0) (hl : ls.size = nL) (hW : (rest.map fun v => v.category).sum ≤ 8) (hdg : decode cc pc = .ok (.invokestatic idx, 3)) :
    cells ≤ 0 → slots ≤ 0 → va_Run p l e (fm_rm h0) s m args below meth c H locs cells slots 0 0 (F0 m pc ls (As.reverse ++ rest)) rest (Qc As.toArray) (fm_A RL ad H.size) := by
  intro hc0 hs0
  obtain ⟨hx, hb, hml, hown, hts⟩ := Z
  exact va_runS (n := k) ⟨hx, hb, hml, hown, hts⟩ hM ⟨fm_callB hts k1 k4 k5 hd hn hh, hts _ (fm_in k2 rfl)⟩ ⟨fm_blind, fun U hU hW => fm_Pre_at G F N _ U hU hW⟩ rfl hk hl rfl (lv_room hW) hdg ⟨by show cells + 0 ≤ 0; omega, by show slots + 0 ≤ 0; omega⟩
/-- FrostBids.isWithin out of Rows -/
theorem fm_runSN (Z : CallFix p m c cc nL s args fm_AW own) (G : fm_G D ids kap RL ad s A) (F : fm_F D ids kap lam RL ad S A s.heap H locs) (N : fm_NW sk sv A s s.heap) {host : String}
    (hM : Met l y (fm_ws y b n ret) (fm_rm h) (fm_Pre D ids kap lam RL ad sk sv S As H.size) Qc 0 0 (fm_A RL ad H.size))
    (k1 : Cond.methodLinkNest own idx y host ∈ fm_nwl) (k2 : Cond.static y ∈ lw_tbl) (k4 : Cond.initialized y.cls ∈ lw_tbl) (k5 : Cond.code y b n ret ∈ lw_tbl)
    (hd : y.cls ≠ "java/lang/invoke/MethodHandle" ∧ y.cls ≠ "java/lang/invoke/VarHandle" ∧ (parseMethodDescriptor y.desc).map (fun d => d.parameters.length) = some k) (hk : As.length = k) (hn : n ≤ 21) (hh : h + 1 ≤ h0) (hl : ls.size = nL) (hW : (rest.map fun v => v.category).sum ≤ 8) (hdg : decode cc pc = .ok (.invokestatic idx, 3)) :
    cells ≤ 0 → slots ≤ 0 → va_Run p l e (fm_rm h0) s m args below meth c H locs cells slots 0 0 (F0 m pc ls (As.reverse ++ rest)) rest (Qc As.toArray) (fm_A RL ad H.size) := by
  intro hc0 hs0
  obtain ⟨hx, hb, hml, hown, hts⟩ := Z
  have hR : (fm_rm h).frames + 1 ≤ (fm_rm h0).frames ∧ 8 + (n + 11) + (fm_rm h).locals ≤ (fm_rm h0).locals := ⟨hh, by show 8 + (n + 11) + 40 * h ≤ 40 * h0; omega⟩
  refine va_runSN (n := k) ⟨hx, hb, hml, hown, hts⟩ hM ⟨va_cnB (Ts := fm_AW) (ws' := fm_AW) k hts ?_ rfl rfl rfl (N.1 _ k1) (hts _ (fm_in k4 rfl)) hd hR, hts _ (fm_in k2 rfl), trivial⟩ ⟨fm_blind, fun U hU hW => fm_Pre_at G F N _ U hU hW⟩ rfl hk hl rfl (lv_room hW) hdg ⟨by show cells + 0 ≤ 0; omega, by show slots + 0 ≤ 0; omega⟩
  intro w hw
  rcases List.mem_cons.mp hw with h | h
  · subst h
    exact ⟨fm_in k5 rfl, Or.inl rfl⟩
  · exact ⟨h, good_of_word (fm_AW_good w h).2⟩
/-- super.m(..) -/
theorem fm_runSU (Z : CallFix p m c cc nL s args fm_AW own) (G : fm_G D ids kap RL ad s A) (F : fm_F D ids kap lam RL ad S A s.heap H locs) (N : fm_NW sk sv A s s.heap) {q : Nat}
    (hM : Met l y (fm_ws y b n ret) (fm_rm h) (fm_Pre D ids kap lam RL ad sk sv S (.ref (ad q) :: As) H.size) Qc 0 0 (fm_A RL ad H.size)) (hc : kap q < 13)
    (k1 : Cond.methodLink own idx y ∈ lw_tbl) (k2 : Cond.instanceMethod y ∈ lw_tbl) (k3 : Cond.sameMethod y.cls y.cls y.name y.desc ∈ lw_tbl) (k6 : Cond.superclass own y.cls ∈ lw_tbl) (k4 : Cond.initialized y.cls ∈ lw_tbl) (k5 : Cond.code y b n ret ∈ lw_tbl)
    (hd : y.name ≠ "<init>" ∧ (parseMethodDescriptor y.desc).map (fun d => d.parameters.length) = some k) (hk : As.length = k) (hn : n ≤ 21) (hh : h + 1 ≤ h0) (hl : ls.size = nL) (hW : (rest.map fun v => v.category).sum ≤ 8) (hdg : decode cc pc = .ok (.invokespecial idx, 3)) :
    cells ≤ 0 → slots ≤ 0 → va_Run p l e (fm_rm h0) s m args below meth c H locs cells slots 0 0 (F0 m pc ls (As.reverse ++ .ref (ad q) :: rest)) rest (Qc (Value.ref (ad q) :: As).toArray) (fm_A RL ad H.size) := by
  intro hc0 hs0
  obtain ⟨hx, hb, hml, hown, hts⟩ := Z
  have hR : (fm_rm h).frames + 1 ≤ (fm_rm h0).frames ∧ 8 + (n + 11) + (fm_rm h).locals ≤ (fm_rm h0).locals := ⟨hh, by show 8 + (n + 11) + 40 * h ≤ 40 * h0; omega⟩
  have hG : GoodIn fm_AW (fm_ws y b n ret) := by
    intro w hw
    rcases List.mem_cons.mp hw with h | h
    · subst h
      exact ⟨fm_in k5 rfl, Or.inl rfl⟩
    · exact ⟨h, good_of_word (fm_AW_good w h).2⟩
  have hcw : Cond.code y b n ret ∈ fm_ws y b n ret := List.mem_cons_self
  refine va_runSU (n := k) (C := fm_R (kap q)) ((G.2.2.2.1).1 _ _ (fm_cls_at _ hc)).2 ⟨hx, hb, hml, hown, hts⟩ hM ⟨⟨rfl, rfl, hR.1, hR.2, pay_in hts hG, hcw⟩, hts _ (fm_in k1 rfl), hts _ (fm_in k3 rfl), hts _ (fm_in k6 rfl), hts _ (fm_in k2 rfl), hts _ (fm_in k4 rfl), hts _ (fm_in k5 rfl), hd.1, fun sig h => ?_⟩ ⟨fm_blind, fm_recv G F hc, fun U hU hW => fm_Pre_at G F N _ U hU hW⟩ rfl hk hl rfl (lv_room hW) hdg ⟨by show cells + 0 ≤ 0; omega, by show slots + 0 ≤ 0; omega⟩
  have h2 := hd.2
  rw [h] at h2
  exact (Option.some.inj h2).symm
/-- a method that the receiver's class C selects, where the reference names x -/
theorem fm_runU (Z : CallFix p m c cc nL s args fm_AW own) (G : fm_G D ids kap RL ad s A) (F : fm_F D ids kap lam RL ad S A s.heap H locs) (N : fm_NW sk sv A s s.heap) {q : Nat} {x : MethodName} {C owner : String} {b0 : ByteArray} {n0 : Nat} {r0 : Option FieldType}
    (hM : Met l y (fm_ws y b n ret) (fm_rm h) (fm_Pre D ids kap lam RL ad sk sv S (.ref (ad q) :: As) H.size) Qc 0 0 (fm_A RL ad H.size)) (hc : kap q < 13) (hcn : fm_R (kap q) = C)
    (k1 : Cond.methodLink own idx x ∈ lw_tbl) (k3 : Cond.sameMethod x.cls owner x.name x.desc ∈ lw_tbl) (k7 : Cond.instanceMethod ⟨owner, x.name, x.desc⟩ ∈ lw_tbl) (k8 : Cond.code ⟨owner, x.name, x.desc⟩ b0 n0 r0 ∈ lw_tbl) (k6 : Cond.selects C x y ∈ lw_tbl) (k2 : Cond.instanceMethod y ∈ lw_tbl) (k4 : Cond.initialized y.cls ∈ lw_tbl) (k5 : Cond.code y b n ret ∈ lw_tbl)
    (hd : owner ≠ "java/lang/invoke/MethodHandle" ∧ owner ≠ "java/lang/invoke/VarHandle" ∧ (parseMethodDescriptor x.desc).map (fun d => d.parameters.length) = some k) (hk : As.length = k) (hn : n ≤ 21) (hh : h + 1 ≤ h0) (hl : ls.size = nL) (hW : (rest.map fun v => v.category).sum ≤ 8) (hdg : decode cc pc = .ok (.invokevirtual idx, 3)) :
    cells ≤ 0 → slots ≤ 0 → va_Run p l e (fm_rm h0) s m args below meth c H locs cells slots 0 0 (F0 m pc ls (As.reverse ++ .ref (ad q) :: rest)) rest (Qc (Value.ref (ad q) :: As).toArray) (fm_A RL ad H.size) := by
  intro hc0 hs0
  obtain ⟨hx, hb, hml, hown, hts⟩ := Z
  have hR : (fm_rm h).frames + 1 ≤ (fm_rm h0).frames ∧ 8 + (n + 11) + (fm_rm h).locals ≤ (fm_rm h0).locals := ⟨hh, by show 8 + (n + 11) + 40 * h ≤ 40 * h0; omega⟩
  have hG : GoodIn fm_AW (fm_ws y b n ret) := by
    intro w hw
    rcases List.mem_cons.mp hw with h | h
    · subst h
      exact ⟨fm_in k5 rfl, Or.inl rfl⟩
    · exact ⟨h, good_of_word (fm_AW_good w h).2⟩
  have hcw : Cond.code y b n ret ∈ fm_ws y b n ret := List.mem_cons_self
  refine va_runU (n := k) (C := C) (owner := owner) (x := x) ⟨hx, hb, hml, hown, hts⟩ hM ⟨⟨rfl, rfl, hR.1, hR.2, pay_in hts hG, hcw⟩, hts _ (fm_in k5 rfl), hts _ (fm_in k4 rfl), ⟨hd.1, hd.2.1⟩, fun sig h => ?_, hts _ (fm_in k1 rfl), hts _ (fm_in k3 rfl), va_Decl.of (hts _ (fm_in k7 rfl)) (hts _ (fm_in k8 rfl)), hts _ (fm_in k6 rfl), hts _ (fm_in k2 rfl)⟩ ⟨fm_blind, by rw [← hcn]; exact fm_recv G F hc, fun U hU hW => fm_Pre_at G F N _ U hU hW⟩ rfl hk hl rfl (lv_room hW) hdg ⟨by show cells + 0 ≤ 0; omega, by show slots + 0 ≤ 0; omega⟩
  have h2 := hd.2.2
  rw [h] at h2
  exact (Option.some.inj h2).symm
end RUN
/-! behind a call -/
theorem fm_rci {o : Option (Int32 × fm_M)} {K : Int32 → fm_M → Option α} {a : Array Value} (G : fm_G D ids kap RL ad s A) (F : fm_F D ids kap lam RL ad S A s.heap H locs) (hf : fm_bi o K = some res)
    (hr : ∀ r u, o = some (r, u) → va_Run p l e R s m args below meth c H locs 0 0 0 0 (F0 m pc ls st0) rest (va_Qi (fun x (_ : Unit) => x = r) (fun _ t => va_P D fm_cls (fm_w ids kap lam RL ad u) t.heap) (fm_A RL ad H.size) a) (fm_A RL ad H.size))
    (kk : ∀ r u H1 locs1, o = some (r, u) → fm_F D ids kap lam RL ad u A s.heap H1 locs1 → K r u = some res → W p l e R s m args below meth c H1 locs1 0 0 Q (F0 m (pc + 3) ls (.int r :: rest))) : W p l e R s m args below meth c H locs 0 0 Q (F0 m pc ls st0) := by
  obtain ⟨r, u, ho, hf⟩ := fm_bi_some hf
  refine va_calli (hr r u ho) F.2 (fun q _ h => fm_sub G F.2 q h) (fm_sub G F.2) (fun r' u' t H1 locs1 ht hvm hw hB hz hk hS => ?_)
  subst hw
  exact kk r' u H1 locs1 ho ⟨by rw [← ht]; exact hB, hS⟩ hf
theorem fm_rcr {o : Option Int32} {K : Int32 → Option α} {a : Array Value} (G : fm_G D ids kap RL ad s A) (F : fm_F D ids kap lam RL ad S A s.heap H locs) (hf : fm_b1 o K = some res)
    (hr : ∀ r, o = some r → va_Run p l e R s m args below meth c H locs 0 0 0 0 (F0 m pc ls st0) rest (va_Qi (fun x (_ : Unit) => x = r) (fun _ t => va_P D fm_cls (fm_w ids kap lam RL ad S) t.heap) (fm_A RL ad H.size) a) (fm_A RL ad H.size))
    (kk : ∀ r H1 locs1, o = some r → fm_F D ids kap lam RL ad S A s.heap H1 locs1 → K r = some res → W p l e R s m args below meth c H1 locs1 0 0 Q (F0 m (pc + 3) ls (.int r :: rest))) : W p l e R s m args below meth c H locs 0 0 Q (F0 m pc ls st0) := by
  obtain ⟨r, ho, hf⟩ := fm_b1_some hf
  refine va_calli (hr r ho) F.2 (fun q _ h => fm_sub G F.2 q h) (fm_sub G F.2) (fun r' u' t H1 locs1 ht hvm hw hB hz hk hS => ?_)
  subst hw
  exact kk r' H1 locs1 ho ⟨by rw [← ht]; exact hB, hS⟩ hf
theorem fm_rcl {o : Option Int64} {K : Int64 → Option α} {a : Array Value} (G : fm_G D ids kap RL ad s A) (F : fm_F D ids kap lam RL ad S A s.heap H locs) (hf : fm_b1 o K = some res)
    (hr : ∀ r, o = some r → va_Run p l e R s m args below meth c H locs 0 0 0 0 (F0 m pc ls st0) rest (va_Ql (fun x (_ : Unit) => x = r) (fun _ t => va_P D fm_cls (fm_w ids kap lam RL ad S) t.heap) (fm_A RL ad H.size) a) (fm_A RL ad H.size))
    (kk : ∀ r H1 locs1, o = some r → fm_F D ids kap lam RL ad S A s.heap H1 locs1 → K r = some res → W p l e R s m args below meth c H1 locs1 0 0 Q (F0 m (pc + 3) ls (.long r :: rest))) : W p l e R s m args below meth c H locs 0 0 Q (F0 m pc ls st0) := by
  obtain ⟨r, ho, hf⟩ := fm_b1_some hf
  refine va_calll (hr r ho) F.2 (fun q _ h => fm_sub G F.2 q h) (fm_sub G F.2) (fun r' u' t H1 locs1 ht hvm hw hB hz hk hS => ?_)
  subst hw
  exact kk r' H1 locs1 ho ⟨by rw [← ht]; exact hB, hS⟩ hf
theorem fm_rcll {o : Option (Int64 × fm_M)} {K : Int64 → fm_M → Option α} {a : Array Value} (G : fm_G D ids kap RL ad s A) (F : fm_F D ids kap lam RL ad S A s.heap H locs) (hf : fm_bi o K = some res)
    (hr : ∀ r u, o = some (r, u) → va_Run p l e R s m args below meth c H locs 0 0 0 0 (F0 m pc ls st0) rest (va_Ql (fun x (_ : Unit) => x = r) (fun _ t => va_P D fm_cls (fm_w ids kap lam RL ad u) t.heap) (fm_A RL ad H.size) a) (fm_A RL ad H.size))
    (kk : ∀ r u H1 locs1, o = some (r, u) → fm_F D ids kap lam RL ad u A s.heap H1 locs1 → K r u = some res → W p l e R s m args below meth c H1 locs1 0 0 Q (F0 m (pc + 3) ls (.long r :: rest))) : W p l e R s m args below meth c H locs 0 0 Q (F0 m pc ls st0) := by
  obtain ⟨r, u, ho, hf⟩ := fm_bi_some hf
  refine va_calll (hr r u ho) F.2 (fun q _ h => fm_sub G F.2 q h) (fm_sub G F.2) (fun r' u' t H1 locs1 ht hvm hw hB hz hk hS => ?_)
  subst hw
  exact kk r' u H1 locs1 ho ⟨by rw [← ht]; exact hB, hS⟩ hf
theorem fm_rcv {o : Option fm_M} {K : fm_M → Option α} {a : Array Value} (G : fm_G D ids kap RL ad s A) (F : fm_F D ids kap lam RL ad S A s.heap H locs) (hf : fm_b1 o K = some res)
    (hr : ∀ u, o = some u → va_Run p l e R s m args below meth c H locs 0 0 0 0 (F0 m pc ls st0) rest (va_Qv (fun (_ : Unit) => True) (fun _ t => va_P D fm_cls (fm_w ids kap lam RL ad u) t.heap) (fm_A RL ad H.size) a) (fm_A RL ad H.size))
    (kk : ∀ u H1 locs1, o = some u → fm_F D ids kap lam RL ad u A s.heap H1 locs1 → K u = some res → W p l e R s m args below meth c H1 locs1 0 0 Q (F0 m (pc + 3) ls rest)) : W p l e R s m args below meth c H locs 0 0 Q (F0 m pc ls st0) := by
  obtain ⟨u, ho, hf⟩ := fm_b1_some hf
  refine va_callv (hr u ho) F.2 (fun q _ h => fm_sub G F.2 q h) (fm_sub G F.2) (fun u' t H1 locs1 ht hvm hw hB hz hk hS => ?_)
  exact kk u H1 locs1 ho ⟨by rw [← ht]; exact hB, hS⟩ hf
theorem fm_rcq {o : Option Nat} {K : Nat → Option α} {a : Array Value} (G : fm_G D ids kap RL ad s A) (F : fm_F D ids kap lam RL ad S A s.heap H locs) (hf : fm_b1 o K = some res)
    (hr : ∀ q, o = some q → va_Run p l e R s m args below meth c H locs 0 0 0 0 (F0 m pc ls st0) rest (va_Qr (fun (_ : Unit) => True) (fun _ a t => a = ad q ∧ va_P D fm_cls (fm_w ids kap lam RL ad S) t.heap) (fm_A RL ad H.size) a) (fm_A RL ad H.size))
    (kk : ∀ q H1 locs1, o = some q → fm_F D ids kap lam RL ad S A s.heap H1 locs1 → K q = some res → W p l e R s m args below meth c H1 locs1 0 0 Q (F0 m (pc + 3) ls (.ref (ad q) :: rest))) : W p l e R s m args below meth c H locs 0 0 Q (F0 m pc ls st0) := by
  obtain ⟨q, ho, hf⟩ := fm_b1_some hf
  refine va_callr (hr q ho) F.2 (fun q _ h => fm_sub G F.2 q h) (fm_sub G F.2) (fun u' ra t H1 locs1 ht hvm hw hB hz hk hS => ?_)
  obtain ⟨hB1, hB⟩ := hB
  subst hB1
  exact kk q H1 locs1 ho ⟨by rw [← ht]; exact hB, hS⟩ hf
theorem fm_rcqq {o : Option (Nat × fm_M)} {K : Nat → fm_M → Option α} {a : Array Value} (G : fm_G D ids kap RL ad s A) (F : fm_F D ids kap lam RL ad S A s.heap H locs) (hf : fm_bi o K = some res)
    (hr : ∀ q u, o = some (q, u) → va_Run p l e R s m args below meth c H locs 0 0 0 0 (F0 m pc ls st0) rest (va_Qr (fun (_ : Unit) => True) (fun _ a t => a = ad q ∧ va_P D fm_cls (fm_w ids kap lam RL ad u) t.heap) (fm_A RL ad H.size) a) (fm_A RL ad H.size))
    (kk : ∀ q u H1 locs1, o = some (q, u) → fm_F D ids kap lam RL ad u A s.heap H1 locs1 → K q u = some res → W p l e R s m args below meth c H1 locs1 0 0 Q (F0 m (pc + 3) ls (.ref (ad q) :: rest))) : W p l e R s m args below meth c H locs 0 0 Q (F0 m pc ls st0) := by
  obtain ⟨q, u, ho, hf⟩ := fm_bi_some hf
  refine va_callr (hr q u ho) F.2 (fun q _ h => fm_sub G F.2 q h) (fm_sub G F.2) (fun u' ra t H1 locs1 ht hvm hw hB hz hk hS => ?_)
  obtain ⟨hB1, hB⟩ := hB
  subst hB1
  exact kk q u H1 locs1 ho ⟨by rw [← ht]; exact hB, hS⟩ hf
/-! ends -/
theorem fm_reti (Z : CallFix p m c cc nL s args fm_AW own) (hr : meth.sig.returnType = some .int) (hlocks : meth.locks = false) (F : fm_F D ids kap lam RL ad S A s.heap H locs) {v : Int32} (hdg : decode cc pc = .ok (.ireturn, 1)) {r : Int32} {u : fm_M} (h1 : v = r) (h2 : S = u) :
    W p l e R s m args below meth c H locs 0 0 (MQ below (va_Qi (fun x (_ : Unit) => x = r) (fun _ t => va_P D fm_cls (fm_w ids kap lam RL ad u) t.heap) A) args s 0 0 A) (F0 m pc ls [.int v]) := by
  subst h1; subst h2
  exact W.iret (v := v) Z.1 Z.2.1 hr (fun t ht hW => ⟨⟨v, (), rfl, rfl, by subst ht; exact F.1⟩, F.2.F ht⟩) F.2.2.2 hdg hlocks
theorem fm_retz (Z : CallFix p m c cc nL s args fm_AW own) (hr : meth.sig.returnType = some .boolean) (hlocks : meth.locks = false) (F : fm_F D ids kap lam RL ad S A s.heap H locs) {v : Int32} (hdg : decode cc pc = .ok (.ireturn, 1)) (hv : v = 0 ∨ v = 1) {r : Int32} {u : fm_M} (h1 : v = r) (h2 : S = u) :
    W p l e R s m args below meth c H locs 0 0 (MQ below (va_Qi (fun x (_ : Unit) => x = r) (fun _ t => va_P D fm_cls (fm_w ids kap lam RL ad u) t.heap) A) args s 0 0 A) (F0 m pc ls [.int v]) := by
  subst h1; subst h2
  exact W.zret (v := v) Z.1 Z.2.1 hr (by rcases hv with h | h <;> subst h <;> decide) (fun t ht hW => ⟨⟨v, (), rfl, rfl, by subst ht; exact F.1⟩, F.2.F ht⟩) F.2.2.2 hdg hlocks
theorem fm_retl (Z : CallFix p m c cc nL s args fm_AW own) (hr : meth.sig.returnType = some .long) (hlocks : meth.locks = false) (F : fm_F D ids kap lam RL ad S A s.heap H locs) {v : Int64} (hdg : decode cc pc = .ok (.lreturn, 1)) {r : Int64} {u : fm_M} (h1 : v = r) (h2 : S = u) :
    W p l e R s m args below meth c H locs 0 0 (MQ below (va_Ql (fun x (_ : Unit) => x = r) (fun _ t => va_P D fm_cls (fm_w ids kap lam RL ad u) t.heap) A) args s 0 0 A) (F0 m pc ls [.long v]) := by
  subst h1; subst h2
  exact W.lret (v := v) Z.1 Z.2.1 hr (fun t ht hW => ⟨⟨v, (), rfl, rfl, by subst ht; exact F.1⟩, F.2.F ht⟩) F.2.2.2 hdg hlocks
theorem fm_retv (Z : CallFix p m c cc nL s args fm_AW own) (hr : meth.sig.returnType = none) (hlocks : meth.locks = false) (F : fm_F D ids kap lam RL ad S A s.heap H locs) (hdg : decode cc pc = .ok (.return_, 1)) {u : fm_M} (h2 : S = u) :
    W p l e R s m args below meth c H locs 0 0 (MQ below (va_Qv (fun (_ : Unit) => True) (fun _ t => va_P D fm_cls (fm_w ids kap lam RL ad u) t.heap) A) args s 0 0 A) (F0 m pc ls []) := by
  subst h2
  exact W.vret Z.1 Z.2.1 hr (fun t ht hW => ⟨⟨(), rfl, trivial, by subst ht; exact F.1⟩, F.2.F ht⟩) F.2.2.2 hdg hlocks
theorem fm_retq {ty : FieldType} (Z : CallFix p m c cc nL s args fm_AW own) (hr : meth.sig.returnType = some ty) (hty : (∃ n, ty = .object n) ∨ ∃ t, ty = .array t) (hlocks : meth.locks = false) (F : fm_F D ids kap lam RL ad S A s.heap H locs) {q : Nat} (hdg : decode cc pc = .ok (.areturn, 1)) {r : Nat} {u : fm_M} (h1 : q = r) (h2 : S = u) :
    W p l e R s m args below meth c H locs 0 0 (MQ below (va_Qr (fun (_ : Unit) => True) (fun _ a t => a = ad r ∧ va_P D fm_cls (fm_w ids kap lam RL ad u) t.heap) A) args s 0 0 A) (F0 m pc ls [.ref (ad q)]) := by
  subst h1; subst h2
  exact W.aret (v := .ref (ad q)) Z.1 Z.2.1 hr hty (Or.inr ⟨_, rfl⟩) (fun t ht hW => ⟨⟨(), ad q, rfl, trivial, rfl, by subst ht; exact F.1⟩, F.2.F ht⟩) F.2.2.2 hdg hlocks
end CALLS
