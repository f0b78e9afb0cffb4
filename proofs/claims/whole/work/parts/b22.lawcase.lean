/-! LAW: its rows, the two sides, a case -/
def R_law : String := "FrostBidsLaw"
def lw_P (b : Addr) (xs : List Int32) (args : Array Value) (s : State) : Prop := args = #[.ref b] ∧ s.IntsAt b xs ∧ xs.length ≤ 2560 ∧ (Jvm.Cond.and given_1 narrow_1).before args s = true
def lw_Q (_ : Array Value) (s : State) (o : Outcome) (t : State) : Prop := o = .returned (some (.int 1)) ∧ Framed s o t [] 600000 7302250
def lw_Z (below : List Frame) (a : Array Value) (s : State) : State → Prop := fun t => ∃ o, t.status = .running ∧ Ended t below o ∧ lw_Q a s o t
/-- the law's own end, with 1 on the stack, nothing written that was there before, its room as the claim has it -/
theorem lw_ret {p : Program} {l : Launch} {e : Env} {s : State} {m : MethodId} {below : List Frame} {meth : Method} {c : Code} {b : Nat} (hx : p.tables.exec = Jvm.exec) (hb : c.code = code) (hr : meth.sig.returnType = ret) (hlocks : meth.locks = false) {pc : Nat} {H : Heap} {ls : Array Slot} (hdg : decode code pc = .ok (.ireturn, 1)) : W p l e room_1 s m #[Value.ref b] below meth c H [] 600000 7302250 (lw_Z below #[Value.ref b] s) (F0 m pc ls [.int 1]) := by
  intro T hT X
  obtain ⟨fs, hret, hrun, hended, hW, hframe⟩ := X.leave (v := some (.int 1)) (hlocks := hlocks) (fun h => by rw [hr] at h; cases h)
  have hmeth' : T.vm.method? m = some meth := X.method'
  refine ⟨T.setFrames fs, ?_, .returned (some (.int 1)), hrun, hended, rfl, ⟨_, rfl⟩, hW, hframe⟩
  jvm_step X.here [X.here.top, hx, hb, hdg, hmeth', hr, ret, narrow_b1]
  (try refine ⟨rfl, ?_⟩); (try refine ⟨rfl, ?_⟩)
  first | (intro acts; rw [hret _ acts rfl rfl rfl]) | rw [hret _ _ rfl rfl rfl]
  exact Steps.refl _
/-- what holds at the law's entry: the machine, the code, the tables' words (any of lw_tbl by 'hts w (by decide +kernel)'), the script of L ints xs at the cell b, what the Statement gives of the start (any of its parts by flat_of_before) -/
def lw_At (p : Program) (s : State) (m : MethodId) (meth : Method) (c : Code) (b L : Nat) (xs : Nat → Int32) : Prop :=
  p.tables.exec = Jvm.exec ∧ c.code = code ∧ meth.sig.returnType = ret ∧ c.maxLocals = 4 ∧ s.vm.findClass R_law = some m.cls ∧ (∀ w ∈ lw_tbl, w.before #[Value.ref b] s = true) ∧ va_X b L xs s s.heap ∧ b < s.heap.size ∧ meth.locks = false ∧ (Jvm.Cond.and given_1 narrow_1).before #[Value.ref b] s = true
def lw_db (pc : Nat) : List (Instr × Nat) → Bool
  | [] => true
  | x :: r => decide (decode code pc = .ok x) && lw_db (pc + x.2) r
theorem lw_db_c {pc : Nat} {x : Instr × Nat} {r : List (Instr × Nat)} (h : lw_db pc (x :: r) = true) : decode code pc = .ok x ∧ lw_db (pc + x.2) r = true := by
  unfold lw_db at h
  rw [Bool.and_eq_true] at h
  exact ⟨of_decide_eq_true h.1, h.2⟩
def lw_ai : List Nat → List (Instr × Nat)
  | [] => []
  | j :: r => (.aload_n 0, 1) :: (.iload_n 3, 1) :: (.iconst (j : Int), 1) :: (.iadd, 1) :: (.iaload, 1) :: lw_ai r
theorem lw_ic : ∀ j : Nat, j < 5 → Int32.ofInt (j : Int) = nI j := by decide
def lw_wd (own : String) (idx : Nat) (y : MethodName) (b : ByteArray) (n : Nat) (ret : Option FieldType) (k : Nat) : Prop := Cond.methodLink own idx y ∈ lw_tbl ∧ Cond.instanceMethod y ∈ lw_tbl ∧ Cond.selects y.cls y y ∈ lw_tbl ∧ Cond.initialized y.cls ∈ lw_tbl ∧ Cond.code y b n ret ∈ lw_tbl ∧ (y.cls ≠ "java/lang/invoke/MethodHandle" ∧ y.cls ≠ "java/lang/invoke/VarHandle" ∧ (parseMethodDescriptor y.desc).map (fun d => d.parameters.length) = some k)
def lw_I (D : va_G) (ids : Nat → Nat) (s : State) (A : Nat → Prop) (Kd : Nat → Nat) (N : Nat) (RL : List Nat) (ad adT : Nat → Nat) : Prop := fm_G D ids (kF Kd N) RL ad s A ∧ fm_G D ids kR RLT adT s A ∧ RLok Kd N RL ∧ ∀ r, r ∈ RL → ∀ q, q ∈ RLT → ad r ≠ adT q
def lw_F2 (D : va_G) (ids : Nat → Nat) (s : State) (A : Nat → Prop) (Kd : Nat → Nat) (N : Nat) (RL : List Nat) (ad adT : Nat → Nat) (S T : fm_M) (H : Heap) (locs : List Loc) : Prop := fm_F D ids (kF Kd N) lC RL ad S A s.heap H locs ∧ va_P D fm_cls (fm_w ids kR lR RLT adT T) H
theorem W_lt {D : va_G} {ids kap lam : Nat → Nat} {RL : List Nat} {ad : Nat → Nat} {S : fm_M} {H : Heap} (h : va_P D fm_cls (fm_w ids kap lam RL ad S) H) {x : Nat × va_E} (hx : x ∈ fm_w ids kap lam RL ad S) : (∃ r, r ∈ RL ∧ x.1 = ad r) ∧ x.1 < H.size := by
  obtain ⟨i, hi⟩ := List.getElem?_of_mem hx
  obtain ⟨r, hr, e⟩ := List.mem_map.1 hx
  exact ⟨⟨r, hr, by rw [← e]⟩, (h i x hi).lt⟩
section LAWX
variable {p : Program} {l : Launch} {e : Env} {R : Room} {s : State} {m : MethodId} {args : Array Value} {below : List Frame} {meth : Method} {c : Code} {H : Heap} {locs : List Loc} {cells slots : Nat} {Q : State → Prop}
variable {cc : ByteArray} {pc nL : Nat} {ls : Array Slot} {rest st0 : List Value} {own : String} {D : va_G} {ids : Nat → Nat} {Kd : Nat → Nat} {N : Nat} {RL : List Nat} {ad adT sk sv : Nat → Nat} {S T : fm_M} {A : Nat → Prop}
variable {y : MethodName} {b : ByteArray} {n h idx k : Nat} {ret : Option FieldType} {As : List Value}
theorem lw_xc (Z : CallFix p m c cc nL s args fm_AW own) (I : lw_I D ids s A Kd N RL ad adT) (F : lw_F2 D ids s A Kd N RL ad adT S T H locs) (NW : fm_NW sk sv A s s.heap) {r : Int32} {u : fm_M}
    (hM : fm_MI l y b n ret h D ids (kF Kd N) lC RL ad sk sv S (.ref (ad 0) :: As) H.size r u) (hy : y.cls = "FrostBids") (w : lw_wd own idx y b n ret k) (hk : As.length = k) (hR : h + 1 ≤ R.frames ∧ 8 + (n + 11) + 40 * h ≤ R.locals) (hl : ls.size = nL) (hW : (rest.map fun v => v.category).sum ≤ 8) (hdg : decode cc pc = .ok (.invokevirtual idx, 3)) (hcl : cells ≤ R.cells) (hsl : slots ≤ R.slots) (hst : st0 = As.reverse ++ .ref (ad 0) :: rest)
    (kk : ∀ H1 locs1, lw_F2 D ids s A Kd N RL ad adT u T H1 locs1 → W p l e R s m args below meth c H1 locs1 cells slots Q (F0 m (pc + 3) ls (.int r :: rest))) : W p l e R s m args below meth c H locs cells slots Q (F0 m pc ls st0) := by
  obtain ⟨w1, w2, w3, w4, w5, w6⟩ := w
  refine lw_ci Z I.1 F.1 NW hM (by rw [kF_lo (by omega)]; show (11 : Nat) < 13; omega) (by rw [kF_lo (by omega), hy]; rfl) w1 w2 w3 w4 w5 w6 hk hR hl hW hdg hcl hsl hst (fm_w ids kR lR RLT adT T) F.2 (fun x hx => ?_) (fun H1 locs1 hF hO _ => kk H1 locs1 ⟨hF, hO⟩)
  obtain ⟨⟨q, hq, e1⟩, lt⟩ := W_lt F.2 hx
  exact ⟨fun r hr he => I.2.2.2 r hr q hq (by rw [← he, e1]), lt⟩
theorem lw_xr (Z : CallFix p m c cc nL s args fm_AW own) (I : lw_I D ids s A Kd N RL ad adT) (F : lw_F2 D ids s A Kd N RL ad adT S T H locs) (NW : fm_NW sk sv A s s.heap) {r : Int32} {u : fm_M}
    (hM : fm_MI l y b n ret h D ids kR lR RLT adT sk sv T (.ref (adT 0) :: As) H.size r u) (hy : y.cls = "FrostBidsModel") (w : lw_wd own idx y b n ret k) (hk : As.length = k) (hR : h + 1 ≤ R.frames ∧ 8 + (n + 11) + 40 * h ≤ R.locals) (hl : ls.size = nL) (hW : (rest.map fun v => v.category).sum ≤ 8) (hdg : decode cc pc = .ok (.invokevirtual idx, 3)) (hcl : cells ≤ R.cells) (hsl : slots ≤ R.slots) (hst : st0 = As.reverse ++ .ref (adT 0) :: rest)
    (kk : ∀ H1 locs1, lw_F2 D ids s A Kd N RL ad adT S u H1 locs1 → W p l e R s m args below meth c H1 locs1 cells slots Q (F0 m (pc + 3) ls (.int r :: rest))) : W p l e R s m args below meth c H locs cells slots Q (F0 m pc ls st0) := by
  obtain ⟨w1, w2, w3, w4, w5, w6⟩ := w
  refine lw_ci Z I.2.1 ⟨F.2, F.1.2⟩ NW hM (by show (12 : Nat) < 13; omega) (by rw [hy]; rfl) w1 w2 w3 w4 w5 w6 hk hR hl hW hdg hcl hsl hst (fm_w ids (kF Kd N) lC RL ad S) F.1.1 (fun x hx => ?_) (fun H1 locs1 hF hO _ => kk H1 locs1 ⟨⟨hO, hF.2⟩, hF.1⟩)
  obtain ⟨⟨q, hq, e1⟩, lt⟩ := W_lt F.1.1 hx
  exact ⟨fun r hr he => I.2.2.2 q hq r hr (by rw [← he, e1]), lt⟩
theorem lw_xcL (Z : CallFix p m c cc nL s args fm_AW own) (I : lw_I D ids s A Kd N RL ad adT) (F : lw_F2 D ids s A Kd N RL ad adT S T H locs) (NW : fm_NW sk sv A s s.heap) {r : Int64} {u : fm_M}
    (hM : fm_ML l y b n ret h D ids (kF Kd N) lC RL ad sk sv S (.ref (ad 0) :: As) H.size r u) (hy : y.cls = "FrostBids") (w : lw_wd own idx y b n ret k) (hk : As.length = k) (hR : h + 1 ≤ R.frames ∧ 8 + (n + 11) + 40 * h ≤ R.locals) (hl : ls.size = nL) (hW : (rest.map fun v => v.category).sum ≤ 8) (hdg : decode cc pc = .ok (.invokevirtual idx, 3)) (hcl : cells ≤ R.cells) (hsl : slots ≤ R.slots) (hst : st0 = As.reverse ++ .ref (ad 0) :: rest)
    (kk : ∀ H1 locs1, lw_F2 D ids s A Kd N RL ad adT u T H1 locs1 → W p l e R s m args below meth c H1 locs1 cells slots Q (F0 m (pc + 3) ls (.long r :: rest))) : W p l e R s m args below meth c H locs cells slots Q (F0 m pc ls st0) := by
  obtain ⟨w1, w2, w3, w4, w5, w6⟩ := w
  refine lw_cl Z I.1 F.1 NW hM (by rw [kF_lo (by omega)]; show (11 : Nat) < 13; omega) (by rw [kF_lo (by omega), hy]; rfl) w1 w2 w3 w4 w5 w6 hk hR hl hW hdg hcl hsl hst (fm_w ids kR lR RLT adT T) F.2 (fun x hx => ?_) (fun H1 locs1 hF hO _ => kk H1 locs1 ⟨hF, hO⟩)
  obtain ⟨⟨q, hq, e1⟩, lt⟩ := W_lt F.2 hx
  exact ⟨fun r hr he => I.2.2.2 r hr q hq (by rw [← he, e1]), lt⟩
theorem lw_xrL (Z : CallFix p m c cc nL s args fm_AW own) (I : lw_I D ids s A Kd N RL ad adT) (F : lw_F2 D ids s A Kd N RL ad adT S T H locs) (NW : fm_NW sk sv A s s.heap) {r : Int64} {u : fm_M}
    (hM : fm_ML l y b n ret h D ids kR lR RLT adT sk sv T (.ref (adT 0) :: As) H.size r u) (hy : y.cls = "FrostBidsModel") (w : lw_wd own idx y b n ret k) (hk : As.length = k) (hR : h + 1 ≤ R.frames ∧ 8 + (n + 11) + 40 * h ≤ R.locals) (hl : ls.size = nL) (hW : (rest.map fun v => v.category).sum ≤ 8) (hdg : decode cc pc = .ok (.invokevirtual idx, 3)) (hcl : cells ≤ R.cells) (hsl : slots ≤ R.slots) (hst : st0 = As.reverse ++ .ref (adT 0) :: rest)
    (kk : ∀ H1 locs1, lw_F2 D ids s A Kd N RL ad adT S u H1 locs1 → W p l e R s m args below meth c H1 locs1 cells slots Q (F0 m (pc + 3) ls (.long r :: rest))) : W p l e R s m args below meth c H locs cells slots Q (F0 m pc ls st0) := by
  obtain ⟨w1, w2, w3, w4, w5, w6⟩ := w
  refine lw_cl Z I.2.1 ⟨F.2, F.1.2⟩ NW hM (by show (12 : Nat) < 13; omega) (by rw [hy]; rfl) w1 w2 w3 w4 w5 w6 hk hR hl hW hdg hcl hsl hst (fm_w ids (kF Kd N) lC RL ad S) F.1.1 (fun x hx => ?_) (fun H1 locs1 hF hO _ => kk H1 locs1 ⟨⟨hO, hF.2⟩, hF.1⟩)
  obtain ⟨⟨q, hq, e1⟩, lt⟩ := W_lt F.1.1 hx
  exact ⟨fun r hr he => I.2.2.2 q hq r hr (by rw [← he, e1]), lt⟩
end LAWX
section LAWA
variable {p : Program} {l : Launch} {e : Env} {s : State} {m : MethodId} {args : Array Value} {below : List Frame} {meth : Method} {c : Code} {H : Heap} {locs : List Loc} {cells slots : Nat} {Q : State → Prop}
variable {ls : Array Slot} {D : va_G} {ids : Nat → Nat} {Kd : Nat → Nat} {N : Nat} {RL : List Nat} {ad adT sk sv : Nat → Nat} {μ : Nat → Nat → Int32} {n : Nat → Nat → Option Nat} {ρ : Nat → Nat → Int32} {A : Nat → Prop}
variable {b0 L a1 a2 i : Nat} {xs : Nat → Int32}
theorem lw_args {R : Room} (Z : CallFix p m c code 4 s args fm_AW R_law) (hX : va_X b0 L xs s s.heap) (hbl : b0 < s.heap.size) (hbA : ¬ A b0) (hS : va_S A s.heap H locs) (hl : lv_has ls 4 [(0, .ref b0), (1, .ref a1), (2, .ref a2), (3, .int (nI i))]) (hi : i + 5 ≤ L) (hL : L ≤ 2560) (more : List (Instr × Nat)) : ∀ (js : List Nat) (pc : Nat) (st : List Value), (∀ j ∈ js, j < 5) → lw_db pc (lw_ai js ++ more) = true → (lw_db (pc + 5 * js.length) more = true → W p l e R s m args below meth c H locs cells slots Q (F0 m (pc + 5 * js.length) ls ((js.map (fun j => Value.int (xs (i + j)))).reverse ++ st))) → W p l e R s m args below meth c H locs cells slots Q (F0 m pc ls st) := by
  intro js
  induction js with
  | nil =>
    intro pc st hj hd kk
    exact kk hd
  | cons j r ih =>
    intro pc st hj hd kk
    have hj5 : j < 5 := hj j (List.mem_cons_self)
    obtain ⟨d0, hd⟩ := lw_db_c hd
    obtain ⟨d1, hd⟩ := lw_db_c hd
    obtain ⟨d2, hd⟩ := lw_db_c hd
    obtain ⟨d3, hd⟩ := lw_db_c hd
    obtain ⟨d4, hd⟩ := lw_db_c hd
    refine lv_aload_n Z.1 Z.2.1 d0 rfl (lv_at hl 0 rfl) ?_
    refine lv_iload_n Z.1 Z.2.1 d1 rfl (lv_at hl 3 rfl) ?_
    refine lv_iconst Z.1 Z.2.1 d2 (lw_ic j hj5) ?_
    refine lv_iadd Z.1 Z.2.1 d3 ?_
    rw [nI_add]
    refine va_sld Z.1 Z.2.1 hX hbl hbA hS (fm_inb_in (fm_inb_nI (by omega) (by omega))) d4 ?_
    rw [nI_clamp (by omega)]
    refine ih _ _ (fun q hq => hj q (List.mem_cons_of_mem _ hq)) hd (fun hd2 => ?_)
    have e1 : pc + (Instr.aload_n 0, 1).2 + (Instr.iload_n 3, 1).2 + (Instr.iconst (j : Int), 1).2 + (Instr.iadd, 1).2 + (Instr.iaload, 1).2 + 5 * r.length = pc + 5 * (j :: r).length := by
      show pc + 1 + 1 + 1 + 1 + 1 + 5 * r.length = pc + 5 * (r.length + 1)
      omega
    have kk2 := kk (by rw [← e1]; exact hd2)
    rw [List.map_cons, List.reverse_cons, List.append_assoc, ← e1] at kk2
    exact kk2
end LAWA
