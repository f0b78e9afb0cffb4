/-! further rules: a nest mate's field, instanceof, checkcast, System.arraycopy -/
def fm_ins {α : Type} (kap : Nat → Nat) (c0 q : Nat) (K : Int32 → Option α) : Option α := if fm_isC (kap q) 5 = true then K (if fm_isC (kap q) c0 = true then 1 else 0) else none
def fm_cpS (S : fm_M) (a b n : Nat) : fm_M := (fun r k => if r = b ∧ k < n then S.1 a k else S.1 r k, S.2)
def fm_cp {α : Type} (kap lam : Nat → Nat) (a : Nat) (sp : Int32) (b : Nat) (dp n : Int32) (S : fm_M) (K : fm_M → Option α) : Option α := if kap a = 13 ∧ kap b = 13 ∧ sp = 0 ∧ dp = 0 ∧ ¬ n < 0 ∧ n.toNatClampNeg ≤ lam a ∧ n.toNatClampNeg ≤ lam b then K (fm_cpS S a b n.toNatClampNeg) else none
section MORE
variable {p : Program} {l : Launch} {e : Env} {s : State} {m : MethodId} {args : Array Value} {below : List Frame} {meth : Method} {c : Code} {H : Heap} {locs : List Loc} {cells slots : Nat} {Q : State → Prop}
variable {cc : ByteArray} {pc nL : Nat} {ls : Array Slot} {rest : List Value} {own : String} {D : va_G} {ids kap lam : Nat → Nat} {RL : List Nat} {ad sk sv : Nat → Nat} {S : fm_M} {A : Nat → Prop} {α : Type} {res : α} {R : Room}
theorem fm_rgn (Z : CallFix p m c cc nL s args fm_AW "FrostBids") (G : fm_G D ids kap RL ad s A) (F : fm_F D ids kap lam RL ad S A s.heap H locs) (N : fm_NW sk sv A s s.heap) {r : Nat} {K : Int32 → Option α} (hf : fm_gi kap 8 r 3 S K = some res) (hdg : decode cc pc = .ok (.getfield 239, 3))
    (kk : ∀ x, x = S.1 r 3 → K x = some res → W p l e R s m args below meth c H locs cells slots Q (F0 m (pc + 3) ls (.int x :: rest))) : W p l e R s m args below meth c H locs cells slots Q (F0 m pc ls (.ref (ad r) :: rest)) := by
  obtain ⟨h1, hf⟩ := fm_some hf
  have h1 : kap r = 8 := eq_of_beq (show (kap r == 8) = true from h1)
  obtain ⟨hx, hb, hml, hown, hts⟩ := Z
  obtain ⟨q0, hq, he⟩ := fm_at (ids := ids) (kap := kap) (lam := lam) (ad := ad) (S := S) (G.2.1 r (by omega))
  rw [fm_ct_obj h1 (by decide)] at he
  refine va_getN (Ts := u_ws (fm_R 8) (fm_T 8) (fm_N 8)) hx hb (fun w hw => hts w (fm_in (fm_uin 8 (by decide) w hw).1 (fm_uin 8 (by decide) w hw).2)) (fun w hw => hw) hown G.2.2.2.1 F.1 q0 he (fm_cls_at 8 (by decide)) 3 (by decide) (va_Nw.use rfl (N.1 (.fieldLinkNest "FrostBids" 239 "FrostBids$Rows" "came" "I" "FrostBids") (by decide))) (fun x h => h) ?_ hdg (kk _ rfl hf)
  rw [List.getElem?_map, List.getElem?_range (by decide)]
  rfl
theorem fm_rcast (Z : CallFix p m c cc nL s args fm_AW own) (G : fm_G D ids kap RL ad s A) (F : fm_F D ids kap lam RL ad S A s.heap H locs) {q idx : Nat} (hk : kap q = 9) (k1 : Cond.classLink own idx "FrostBids$Told" ∈ lw_tbl) (hdg : decode cc pc = .ok (.checkcast idx, 3))
    (k : W p l e R s m args below meth c H locs cells slots Q (F0 m (pc + 3) ls (.ref (ad q) :: rest))) : W p l e R s m args below meth c H locs cells slots Q (F0 m pc ls (.ref (ad q) :: rest)) := by
  have hr := fm_recv G F (q := q) (by rw [hk]; decide)
  rw [hk] at hr
  exact va_castS Z.1 Z.2.1 Z.2.2.2.1 (Z.2.2.2.2 _ (fm_in k1 rfl)) ((G.2.2.2.1).1 9 _ (fm_cls_at 9 (by decide))).2 hr hdg k
theorem fm_rins_y (Z : CallFix p m c cc nL s args fm_AW own) (G : fm_G D ids kap RL ad s A) (F : fm_F D ids kap lam RL ad S A s.heap H locs) {q idx c1 : Nat} {nm : String} (hk : kap q = c1) (hc : c1 < 13) (h : fm_R c1 = nm ∨ va_Nw (.castable (fm_R c1) nm) s) (k1 : Cond.classLink own idx nm ∈ lw_tbl) (hdg : decode cc pc = .ok (.instanceof idx, 3))
    (k : W p l e R s m args below meth c H locs cells slots Q (F0 m (pc + 3) ls (.int 1 :: rest))) : W p l e R s m args below meth c H locs cells slots Q (F0 m pc ls (.ref (ad q) :: rest)) := by
  have hr := fm_recv G F (q := q) (by rw [hk]; exact hc)
  rw [hk] at hr
  rcases h with h | h
  · subst h
    exact va_instS Z.1 Z.2.1 Z.2.2.2.1 (Z.2.2.2.2 _ (fm_in k1 rfl)) ((G.2.2.2.1).1 c1 _ (fm_cls_at c1 hc)).2 hr hdg k
  · exact va_instY Z.1 Z.2.1 Z.2.2.2.1 (Z.2.2.2.2 _ (fm_in k1 rfl)) h hr hdg k
theorem fm_rins_n (Z : CallFix p m c cc nL s args fm_AW own) (G : fm_G D ids kap RL ad s A) (F : fm_F D ids kap lam RL ad S A s.heap H locs) {q idx c1 : Nat} {nm : String} (hk : kap q = c1) (hc : c1 < 13) (h : va_Nc (fm_R c1) nm s) (k1 : Cond.classLink own idx nm ∈ lw_tbl) (hdg : decode cc pc = .ok (.instanceof idx, 3))
    (k : W p l e R s m args below meth c H locs cells slots Q (F0 m (pc + 3) ls (.int 0 :: rest))) : W p l e R s m args below meth c H locs cells slots Q (F0 m pc ls (.ref (ad q) :: rest)) := by
  have hr := fm_recv G F (q := q) (by rw [hk]; exact hc)
  rw [hk] at hr
  exact va_instNo Z.1 Z.2.1 Z.2.2.2.1 (Z.2.2.2.2 _ (fm_in k1 rfl)) h hr hdg k
theorem fm_rins (c0 : Nat) (nm : String) (hy : ∀ c1, fm_isC c1 5 = true → fm_isC c1 c0 = true → fm_R c1 = nm ∨ Cond.castable (fm_R c1) nm ∈ fm_nwl) (hn : ∀ c1, fm_isC c1 5 = true → fm_isC c1 c0 = false → (fm_R c1, nm) ∈ fm_ncl) (Z : CallFix p m c cc nL s args fm_AW own) (G : fm_G D ids kap RL ad s A) (F : fm_F D ids kap lam RL ad S A s.heap H locs) (N : fm_NW sk sv A s s.heap) {q idx : Nat} {K : Int32 → Option α} (hf : fm_ins kap c0 q K = some res) (k1 : Cond.classLink own idx nm ∈ lw_tbl) (hdg : decode cc pc = .ok (.instanceof idx, 3))
    (kk : ∀ x, x = (if fm_isC (kap q) c0 = true then 1 else 0) → K x = some res → W p l e R s m args below meth c H locs cells slots Q (F0 m (pc + 3) ls (.int x :: rest))) : W p l e R s m args below meth c H locs cells slots Q (F0 m pc ls (.ref (ad q) :: rest)) := by
  obtain ⟨h5, hf⟩ := fm_some hf
  have hc : kap q < 13 := by rcases fm_isC5 h5 with h | h | h | h | h | h | h <;> omega
  by_cases h0 : fm_isC (kap q) c0 = true
  · have hk := kk _ rfl hf
    rw [if_pos h0] at hk
    refine fm_rins_y Z G F rfl hc ?_ k1 hdg hk
    rcases hy _ h5 h0 with h | h
    · exact Or.inl h
    · exact Or.inr (N.1 _ h)
  · have hk := kk _ rfl hf
    rw [if_neg h0] at hk
    exact fm_rins_n Z G F rfl hc (N.2.1 _ (hn _ h5 (by simpa using h0))) k1 hdg hk
theorem fm_rcp (Z : CallFix p m c cc nL s args fm_AW own) (G : fm_G D ids kap RL ad s A) (F : fm_F D ids kap lam RL ad S A s.heap H locs) (hml : c.maxLocals = ls.size) {a b idx h0 : Nat} {sp dp n : Int32} {K : fm_M → Option α} (hf : fm_cp kap lam a sp b dp n S K = some res) (k1 : Cond.methodLink own idx arraycopyName ∈ lw_tbl) (k2 : Cond.native arraycopyName ∈ lw_tbl) (k3 : Cond.static arraycopyName ∈ lw_tbl) (k4 : Cond.initialized "java/lang/System" ∈ lw_tbl) (hh : 1 ≤ h0) (hdg : decode cc pc = .ok (.invokestatic idx, 3))
    (kk : ∀ S1 H1 locs1, S1 = fm_cpS S a b n.toNatClampNeg → fm_F D ids kap lam RL ad S1 A s.heap H1 locs1 → K S1 = some res → W p l e (fm_rm h0) s m args below meth c H1 locs1 cells slots Q (F0 m (pc + 3) ls [])) : W p l e (fm_rm h0) s m args below meth c H locs cells slots Q (F0 m pc ls [.int n, .int dp, .ref (ad b), .int sp, .ref (ad a)]) := by
  obtain ⟨⟨ha, hb', hsp, hdp, hn, hla, hlb⟩, hf2⟩ := fm_some hf
  subst hsp; subst hdp
  obtain ⟨hnd, hin, hinj, hK, hAr, hAs⟩ := G
  obtain ⟨q0, hq0, he0⟩ := fm_at (ids := ids) (kap := kap) (lam := lam) (ad := ad) (S := S) (hin a (by omega))
  obtain ⟨q1, hq1, he1⟩ := fm_at (ids := ids) (kap := kap) (lam := lam) (ad := ad) (S := S) (hin b (by omega))
  rw [fm_ct_int ha (by decide) (by decide)] at he0
  rw [fm_ct_int hb' (by decide) (by decide)] at he1
  have z0 : (0 : Int32).toNatClampNeg = 0 := rfl
  refine va_copyi (ty := .int) Z.1 Z.2.1 hml Z.2.2.2.1 (Z.2.2.2.2 _ (fm_in k1 rfl)) (Z.2.2.2.2 _ (fm_in k2 rfl)) (Z.2.2.2.2 _ (fm_in k3 rfl)) (Z.2.2.2.2 _ (fm_in k4 rfl)) hK F.1 (fm_D hnd hinj hAr) F.2 q0 q1 0 0 he0 he1 rfl rfl rfl (by decide) (by decide) hn (by rw [z0]; omega) (by rw [z0]; omega) (fun _ _ => rfl) hh ?_ hdg (fun H1 locs1 hP hD hS => kk _ H1 locs1 rfl ⟨?_, hS⟩ hf2)
  · show 0 + (nativeFrameWords "java/lang/System" "arraycopy" 5 + 11) ≤ 40 * h0
    have : nativeFrameWords "java/lang/System" "arraycopy" 5 + 11 ≤ 40 := by decide
    omega
  · have e0 : va_cpy (S.1 a) (S.1 b) (0 : Int32).toNatClampNeg (0 : Int32).toNatClampNeg n.toNatClampNeg = (fm_cpS S a b n.toNatClampNeg).1 b := by
      funext j
      simp [va_cpy, fm_cpS, z0]
    rw [e0, ← fm_ct_int (ids := ids) (kap := kap) (lam := lam) (ad := ad) (S := fm_cpS S a b n.toNatClampNeg) hb' (by decide) (by decide)] at hP
    have e2 := fm_setL (g := fun r => (ad r, fm_ct ids kap lam ad S r)) (g' := fun y => (ad y, fm_ct ids kap lam ad (fm_cpS S a b n.toNatClampNeg) y)) hnd hq1 (fun y hy => by
      have e3 : (fm_cpS S a b n.toNatClampNeg).1 y = S.1 y := by funext j; simp [fm_cpS, hy]
      have e4 : fm_fv ad (fm_cpS S a b n.toNatClampNeg) (kap y) y = fm_fv ad S (kap y) y := by funext j; simp [fm_fv, fm_cpS, hy]
      have e5 : fm_ct ids kap lam ad (fm_cpS S a b n.toNatClampNeg) y = fm_ct ids kap lam ad S y := by
        unfold fm_ct
        rw [e3, e4]
        rfl
      simp only [e5])
    unfold fm_w at hP ⊢
    rw [e2] at hP
    exact hP
end MORE
theorem fm_in5 {P : Nat → Prop} (h : ∀ c, c < 13 → fm_isC c 5 = true → P c) : ∀ c, fm_isC c 5 = true → P c := fun c hc => h c (by rcases fm_isC5 hc with h | h | h | h | h | h | h <;> omega) hc
theorem fm_iy0 : ∀ c1, fm_isC c1 5 = true → fm_isC c1 0 = true → fm_R c1 = "FrostBids$Church" ∨ Cond.castable (fm_R c1) "FrostBids$Church" ∈ fm_nwl := fm_in5 (by decide)
theorem fm_iy2 : ∀ c1, fm_isC c1 5 = true → fm_isC c1 2 = true → fm_R c1 = "FrostBids$Jail" ∨ Cond.castable (fm_R c1) "FrostBids$Jail" ∈ fm_nwl := fm_in5 (by decide)
theorem fm_iy3 : ∀ c1, fm_isC c1 5 = true → fm_isC c1 3 = true → fm_R c1 = "FrostBids$Kitchen" ∨ Cond.castable (fm_R c1) "FrostBids$Kitchen" ∈ fm_nwl := fm_in5 (by decide)
theorem fm_iy4 : ∀ c1, fm_isC c1 5 = true → fm_isC c1 4 = true → fm_R c1 = "FrostBids$Nursery" ∨ Cond.castable (fm_R c1) "FrostBids$Nursery" ∈ fm_nwl := fm_in5 (by decide)
theorem fm_iy7 : ∀ c1, fm_isC c1 5 = true → fm_isC c1 7 = true → fm_R c1 = "FrostBids$Rectory" ∨ Cond.castable (fm_R c1) "FrostBids$Rectory" ∈ fm_nwl := fm_in5 (by decide)
theorem fm_iy9 : ∀ c1, fm_isC c1 5 = true → fm_isC c1 9 = true → fm_R c1 = "FrostBids$Told" ∨ Cond.castable (fm_R c1) "FrostBids$Told" ∈ fm_nwl := fm_in5 (by decide)
theorem fm_ni0 : ∀ c1, fm_isC c1 5 = true → fm_isC c1 0 = false → (fm_R c1, "FrostBids$Church") ∈ fm_ncl := fun c1 h5 h => by rcases fm_isC5 h5 with e | e | e | e | e | e | e <;> subst e <;> first | exact absurd h (by decide) | simp [fm_ncl, fm_R, cR0, cR2, cR3, cR4, cR5, cR7, cR9]
theorem fm_ni2 : ∀ c1, fm_isC c1 5 = true → fm_isC c1 2 = false → (fm_R c1, "FrostBids$Jail") ∈ fm_ncl := fun c1 h5 h => by rcases fm_isC5 h5 with e | e | e | e | e | e | e <;> subst e <;> first | exact absurd h (by decide) | simp [fm_ncl, fm_R, cR0, cR2, cR3, cR4, cR5, cR7, cR9]
theorem fm_ni3 : ∀ c1, fm_isC c1 5 = true → fm_isC c1 3 = false → (fm_R c1, "FrostBids$Kitchen") ∈ fm_ncl := fun c1 h5 h => by rcases fm_isC5 h5 with e | e | e | e | e | e | e <;> subst e <;> first | exact absurd h (by decide) | simp [fm_ncl, fm_R, cR0, cR2, cR3, cR4, cR5, cR7, cR9]
theorem fm_ni4 : ∀ c1, fm_isC c1 5 = true → fm_isC c1 4 = false → (fm_R c1, "FrostBids$Nursery") ∈ fm_ncl := fun c1 h5 h => by rcases fm_isC5 h5 with e | e | e | e | e | e | e <;> subst e <;> first | exact absurd h (by decide) | simp [fm_ncl, fm_R, cR0, cR2, cR3, cR4, cR5, cR7, cR9]
theorem fm_ni7 : ∀ c1, fm_isC c1 5 = true → fm_isC c1 7 = false → (fm_R c1, "FrostBids$Rectory") ∈ fm_ncl := fun c1 h5 h => by rcases fm_isC5 h5 with e | e | e | e | e | e | e <;> subst e <;> first | exact absurd h (by decide) | simp [fm_ncl, fm_R, cR0, cR2, cR3, cR4, cR5, cR7, cR9]
theorem fm_ni9 : ∀ c1, fm_isC c1 5 = true → fm_isC c1 9 = false → (fm_R c1, "FrostBids$Told") ∈ fm_ncl := fun c1 h5 h => by rcases fm_isC5 h5 with e | e | e | e | e | e | e <;> subst e <;> first | exact absurd h (by decide) | simp [fm_ncl, fm_R, cR0, cR2, cR3, cR4, cR5, cR7, cR9]
theorem fm_lt13 {c c0 : Nat} (h0 : c0 < 13) (h : fm_isC c c0 = true) : c < 13 := by
  by_cases h5 : c0 = 5
  · subst h5; rcases fm_isC5 h with h | h | h | h | h | h | h <;> omega
  by_cases h7 : c0 = 7
  · subst h7; rcases fm_isC7 h with h | h <;> omega
  by_cases h4 : c0 = 4
  · subst h4; rcases fm_isC4 h with h | h <;> omega
  by_cases h3 : c0 = 3
  · subst h3; rcases fm_isC3 h with h | h <;> omega
  have : fm_isC c c0 = (c == c0) := by
    unfold fm_isC
    split <;> first | contradiction | rfl
  rw [this] at h
  rw [eq_of_beq h]
  exact h0
/-! super.m(..) where the class above inherits m from the one above it -/
theorem fm_subclass1 {vm : Vm} {a b : Nat} {k : Class} (hk : vm.classes[a]? = some k) (hs : k.super = some b) : vm.isSubclass a b = true := by
  have h1 : 0 < vm.classes.size := Nat.lt_of_le_of_lt (Nat.zero_le a) (Array.getElem?_eq_some_iff.mp hk).1
  obtain ⟨n, hn⟩ : ∃ n, vm.classes.size = n + 1 := ⟨vm.classes.size - 1, by omega⟩
  unfold Vm.isSubclass
  rw [hn]
  simp [Vm.isSubclassAux, hk, hs]
section SUPERI
variable {p : Program} {l : Launch} {e : Env} {R : Room} {s : State} {m : MethodId} {args : Array Value} {below : List Frame} {meth : Method} {c : Code}
theorem fm_callSI {T : State} {locs : List Loc} {cells slots : Nat} (X : Stand p l e R s m args below meth c T locs cells slots) (hexec : p.tables.exec = Jvm.exec) {own : String} {index : Nat} {x y : MethodName} {bytes : ByteArray} {maxL : Nat} {ret : Option FieldType} (hyx : y = ⟨y.cls, x.name, x.desc⟩)
    (hown : s.vm.findClass own = some m.cls) (hlink : (Cond.methodLink own index x).before args s = true) (hsame : (Cond.sameMethod x.cls y.cls x.name x.desc).before args s = true) (hsup : (Cond.superclass own x.cls).before args s = true) (hsup2 : (Cond.superclass x.cls y.cls).before args s = true)
    (hinst : (Cond.instanceMethod y).before args s = true) (hcode : (Cond.code y bytes maxL ret).before args s = true) (hno : x.name ≠ "<init>")
    {W : Nat} {Pre : Pt → Array Value → Prop} {Post : Pt → Array Value → Option Value → Pt → Prop} (hK : Back l R p e below s args y 3 W Pre Post)
    {b : Addr} {cellB : Cell} {kB : Class} (hcell : T.heap[b]? = some cellB) (hobj : cellB.vm.isStatics = false) (hkB : s.vm.classes[cellB.cls]? = some kB)
    {g : JFrame} (hg : g.method = m) (hsize : g.locals.size = c.maxLocals) {argsL rest : List Value} (hlen : ∀ sig, parseMethodDescriptor y.desc = some sig → argsL.length = sig.parameters.length)
    (hstack : g.stack = argsL.reverse ++ .ref b :: rest) (hW : 2 * g.monitorRoom + (rest.map fun v => v.category).sum ≤ W) (hdg : decode c.code g.pc = .ok (.invokespecial index, 3))
    (hpre : ∀ vm₁, s.WarmedH vm₁ → Pre ⟨T.setVm vm₁, locs, cells, slots⟩ (Value.ref b :: argsL).toArray) :
    ∃ (v : Option Value) (vm₁ : Vm) (B : Pt), s.WarmedH vm₁ ∧ Stand p l e R s m args below meth c B.U B.locs B.cells B.slots ∧ Post ⟨T.setVm vm₁, locs, cells, slots⟩ (Value.ref b :: argsL).toArray v B ∧
      ∀ target, Steps p.tables e below (B.U.setTop { g with pc := g.pc + 3, stack := v.toList ++ rest }) target → Steps p.tables e below (T.setTop g) target := by
  obtain ⟨mk, methM, hnamed, hmethM, hstM, habM⟩ := Cond.instanceMethod_spec hinst
  obtain ⟨methM', cM, hmethM', -, -, -, -, -, -, hsigM⟩ := Cond.code_spec hnamed hcode
  cases hmethM.symm.trans hmethM'
  obtain ⟨ps, dk, kp, hps, hdk, hkp, hsuper, -, -, hnid⟩ := Cond.superclass_spec hown hsup
  obtain ⟨ps2, dk2, kp2, hps2, hdk2, hkp2, hsuper2, -, -, hnid2⟩ := Cond.superclass_spec hps hsup2
  have hn : s.methodNamed? ⟨y.cls, x.name, x.desc⟩ = some mk := by rw [← hyx]; exact hnamed
  have hpm : ps2 = mk.cls := Option.some.inj (hps2.symm.trans (findClass_of_methodNamed hnamed))
  have hsub : s.vm.isSubclass ps mk.cls = true := by rw [← hpm]; exact fm_subclass1 hdk2 hsuper2
  obtain ⟨vm₁, X₁, hstep₁⟩ := X.invokespecialUp hexec hown hlink hsame hn hmethM hstM habM hno hdk hnid hps hsuper hsub (a := b) (cell := cellB) hcell
    (fun z h => by rw [h] at hobj; cases hobj) hkB (g := g) hg (argsL := argsL) (rest := rest) (hlen _ hsigM) hstack hdg
  obtain ⟨v, B, X', hpost, hsteps⟩ := hK m meth c ⟨T.setVm vm₁, locs, cells, slots⟩ { g with stack := rest } (.invokespecial index) mk (Value.ref b :: argsL).toArray X₁ hg hsize hdg hW (X₁.named hnamed) (hpre vm₁ X₁.warmed)
  exact ⟨v, vm₁, B, X₁.warmed, X', hpost, fun target h => hstep₁ _ (by rw [doInvoke_state]; exact hsteps.trans h)⟩
variable {H : Heap} {locs : List Loc} {cells slots : Nat} {cc : ByteArray} {pc nL : Nat} {ls : Array Slot} {rest : List Value} {own : String} {D : va_G} {ids kap lam : Nat → Nat} {RL : List Nat} {ad sk sv : Nat → Nat} {S : fm_M} {A : Nat → Prop}
variable {x y : MethodName} {b : ByteArray} {n h h0 idx k : Nat} {ret : Option FieldType} {As : List Value} {Qc : Array Value → State → Outcome → State → Prop}
theorem fm_runSI (Z : CallFix p m c cc nL s args fm_AW own) (G : fm_G D ids kap RL ad s A) (F : fm_F D ids kap lam RL ad S A s.heap H locs) (N : fm_NW sk sv A s s.heap) {q : Nat}
    (hM : Met l y (fm_ws y b n ret) (fm_rm h) (fm_Pre D ids kap lam RL ad sk sv S (.ref (ad q) :: As) H.size) Qc 0 0 (fm_A RL ad H.size)) (hc : kap q < 13) (hyx : y = ⟨y.cls, x.name, x.desc⟩)
    (k1 : Cond.methodLink own idx x ∈ lw_tbl) (k2 : Cond.instanceMethod y ∈ lw_tbl) (k3 : Cond.sameMethod x.cls y.cls x.name x.desc ∈ lw_tbl) (k6 : Cond.superclass own x.cls ∈ lw_tbl) (k7 : Cond.superclass x.cls y.cls ∈ lw_tbl) (k4 : Cond.initialized y.cls ∈ lw_tbl) (k5 : Cond.code y b n ret ∈ lw_tbl)
    (hd : x.name ≠ "<init>" ∧ (parseMethodDescriptor y.desc).map (fun d => d.parameters.length) = some k) (hk : As.length = k) (hn : n ≤ 21) (hh : h + 1 ≤ h0) (hl : ls.size = nL) (hW : (rest.map fun v => v.category).sum ≤ 8) (hdg : decode cc pc = .ok (.invokespecial idx, 3)) :
    cells ≤ 0 → slots ≤ 0 → va_Run p l e (fm_rm h0) s m args below meth c H locs cells slots 0 0 (F0 m pc ls (As.reverse ++ .ref (ad q) :: rest)) rest (Qc (Value.ref (ad q) :: As).toArray) (fm_A RL ad H.size) := by
  intro hc0 hs0
  obtain ⟨hx, hb, hml, hown, hts⟩ := Z
  have hR : (fm_rm h).frames + 1 ≤ (fm_rm h0).frames ∧ 8 + (n + 11) + (fm_rm h).locals ≤ (fm_rm h0).locals := ⟨hh, by show 8 + (n + 11) + 40 * h ≤ 40 * h0; omega⟩
  have hG : GoodIn fm_AW (fm_ws y b n ret) := by
    intro w hw
    rcases List.mem_cons.mp hw with h | h
    · subst h
      exact ⟨fm_in k5 rfl, Or.inl rfl⟩
    · exact ⟨h, good_of_word (fm_AW_good w h).2⟩
  have hcw : Cond.code y b n ret ∈ fm_ws y b n ret := List.mem_cons_self
  have hini := hts _ (fm_in k4 rfl)
  have hK : Back l (fm_rm h0) p e below s args y 3 8 (PreOf (fm_rm h0) 0 0 (fm_Pre D ids kap lam RL ad sk sv S (.ref (ad q) :: As) H.size)) (PostOf Qc 0 0 (fm_A RL ad H.size)) := back_of (bytes := b) (maxL := n) (ret := ret) hM fm_blind rfl rfl hR.1 hR.2 (pay_in hts hG) hcw (fun a' U hW => word_at hW (Or.inl (by first | rfl | simp [Cond.onTables, Cond.keeps, Cond.steady])) hini)
  obtain ⟨cellB, hcB, hoB, hclB⟩ := fm_recv G F hc
  obtain ⟨hfc, kB, hkB, -⟩ := ((G.2.2.2.1).1 _ _ (fm_cls_at _ hc)).2
  have hcc := Option.some.inj (hfc.symm.trans hclB)
  rw [hcc] at hkB
  intro T hT X
  obtain ⟨v, vm₁, ⟨U', l2, c2, s2⟩, hW₁, X', ⟨g', mk, t, L, e1, e2, hq, h1, hL, h2, h3⟩, st⟩ := fm_callSI X hx (bytes := b) (maxL := n) (ret := ret) hyx hown (hts _ (fm_in k1 rfl)) (hts _ (fm_in k3 rfl)) (hts _ (fm_in k6 rfl)) (hts _ (fm_in k7 rfl)) (hts _ (fm_in k2 rfl)) (hts _ (fm_in k5 rfl)) hd.1 hK (by rw [hT]; exact hcB) hoB hkB (g := F0 m pc ls (As.reverse ++ .ref (ad q) :: rest)) rfl (hl.trans hml.symm) (argsL := As) (rest := rest) (fun sig h => by
      have h2 := hd.2
      rw [h] at h2
      exact hk.trans (Option.some.inj h2).symm) rfl (lv_room hW) (by rw [hb]; exact hdg)
    (fun vm₁ hW₁ => ⟨by show cells + 0 ≤ 0; omega, by show slots + 0 ≤ 0; omega, fm_Pre_at G F N _ (T.setVm vm₁) hT hW₁⟩)
  dsimp only [Pt.U, Pt.locs, Pt.cells, Pt.slots] at X' e1 e2 h1 h2 h3 st
  subst h1; subst h2; subst h3
  exact ⟨v, (T.setVm vm₁).calling g' mk (Value.ref (ad q) :: As).toArray, t, U', L, hT, X', hL, e1, e2, hq, st⟩
end SUPERI
