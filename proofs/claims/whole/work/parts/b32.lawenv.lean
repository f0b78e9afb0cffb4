/-! LAW: what holds at its start (tool/law.py prints it) -/
theorem lw_inst : ∀ c, c < 13 → Cond.instantiable (fm_R c) (fm_N c) ∈ lw_tbl := fun c hc => match c, hc with
  | 0, _ => kw_447
  | 1, _ => kw_499
  | 2, _ => kw_430
  | 3, _ => kw_329
  | 4, _ => kw_396
  | 5, _ => kw_486
  | 6, _ => kw_106
  | 7, _ => kw_413
  | 8, _ => kw_80
  | 9, _ => kw_464
  | 10, _ => kw_34
  | 11, _ => kw_22
  | 12, _ => kw_931
  | c + 13, h => absurd h (by omega)
theorem lw_nwl : ∀ w ∈ fm_nwl, w ∈ lw_tbl := List.forall_mem_cons.mpr ⟨kw_1335, List.forall_mem_cons.mpr ⟨kw_1336, List.forall_mem_cons.mpr ⟨kw_1337, List.forall_mem_cons.mpr ⟨kw_803, List.forall_mem_cons.mpr ⟨kw_834, List.forall_mem_cons.mpr ⟨kw_848, List.forall_mem_cons.mpr ⟨kw_851, List.forall_mem_cons.mpr ⟨kw_892, List.forall_mem_cons.mpr ⟨kw_920, List.forall_mem_cons.mpr ⟨kw_92, List.forall_mem_cons.mpr ⟨kw_215, fun _ h => absurd h List.not_mem_nil⟩⟩⟩⟩⟩⟩⟩⟩⟩⟩⟩
theorem lw_nwt : ∀ w ∈ fm_nwl, w.onTables = true := by decide
theorem lw_pnc : ∀ w ∈ pnC, w ∈ lw_tbl := List.forall_mem_cons.mpr ⟨kw_1338, List.forall_mem_cons.mpr ⟨kw_1339, List.forall_mem_cons.mpr ⟨kw_1340, List.forall_mem_cons.mpr ⟨kw_1341, List.forall_mem_cons.mpr ⟨kw_1342, List.forall_mem_cons.mpr ⟨kw_1343, fun _ h => absurd h List.not_mem_nil⟩⟩⟩⟩⟩⟩
theorem lw_pnt : ∀ w ∈ pnC, w.onTables = true := by decide
theorem lw_srw : ∀ q ∈ fm_srl, Cond.stringRef q.1 q.2.1 q.2.2.1 ∈ lw_tbl := List.forall_mem_cons.mpr ⟨kw_228, List.forall_mem_cons.mpr ⟨kw_229, List.forall_mem_cons.mpr ⟨kw_230, List.forall_mem_cons.mpr ⟨kw_231, List.forall_mem_cons.mpr ⟨kw_1019, List.forall_mem_cons.mpr ⟨kw_1038, List.forall_mem_cons.mpr ⟨kw_1039, List.forall_mem_cons.mpr ⟨kw_1066, List.forall_mem_cons.mpr ⟨kw_1060, List.forall_mem_cons.mpr ⟨kw_1065, fun _ h => absurd h List.not_mem_nil⟩⟩⟩⟩⟩⟩⟩⟩⟩⟩
theorem lw_wRN : (Jvm.Cond.methodLinkNest "FrostBids" (52 : Nat) ({ cls := "FrostBids$Reader", name := "<init>", desc := "()V" } : Jvm.MethodName) "FrostBids") ∈ lw_tbl := kw_107
theorem lw_wCS : (Jvm.Cond.laysStatic "java/lang/String" "COMPACT_STRINGS" "Z") ∈ lw_tbl := kw_245
theorem lw_wPS : (Jvm.Cond.laysStatic "jdk/internal/util/Preconditions" "SIOOBE_FORMATTER" "Ljava/util/function/BiFunction;") ∈ lw_tbl := kw_261
theorem lw_wiS : (Jvm.Cond.initialized "java/lang/String") ∈ lw_tbl := kw_7
theorem lw_wiP : (Jvm.Cond.initialized "jdk/internal/util/Preconditions") ∈ lw_tbl := kw_9
theorem lw_wAI : (Jvm.Cond.arrayClass Jvm.ClassFile.FieldType.int) ∈ lw_tbl := kw_77
theorem lw_wAZ : (Jvm.Cond.arrayClass Jvm.ClassFile.FieldType.boolean) ∈ lw_tbl := kw_999
theorem lw_wOP : (Jvm.Cond.arrayOver (Jvm.ClassFile.FieldType.object "FrostBids$Pane")) ∈ lw_tbl := kw_30
theorem lw_wOC : (Jvm.Cond.arrayOver (Jvm.ClassFile.FieldType.object "FrostBids$Course")) ∈ lw_tbl := kw_32
theorem lw_wOT : (Jvm.Cond.arrayOver (Jvm.ClassFile.FieldType.object "FrostBids$Town")) ∈ lw_tbl := kw_78
theorem lw_wL1 : (Jvm.Cond.classLink "FrostBidsLaw" (7 : Nat) "FrostBids") ∈ lw_tbl := kw_21
theorem lw_wL2 : (Jvm.Cond.classLink "FrostBidsLaw" (10 : Nat) "FrostBidsModel") ∈ lw_tbl := kw_930
theorem lw_wM1 : (Jvm.Cond.methodLink "FrostBidsLaw" (9 : Nat) ({ cls := "FrostBids", name := "<init>", desc := "()V" } : Jvm.MethodName)) ∈ lw_tbl := kw_23
theorem lw_wM2 : (Jvm.Cond.methodLink "FrostBidsLaw" (12 : Nat) ({ cls := "FrostBidsModel", name := "<init>", desc := "()V" } : Jvm.MethodName)) ∈ lw_tbl := kw_932
theorem lw_wI1 : (Jvm.Cond.instanceMethod ({ cls := "FrostBids", name := "<init>", desc := "()V" } : Jvm.MethodName)) ∈ lw_tbl := kw_24
theorem lw_wI2 : (Jvm.Cond.instanceMethod ({ cls := "FrostBidsModel", name := "<init>", desc := "()V" } : Jvm.MethodName)) ∈ lw_tbl := kw_933
theorem lw_wF1 : (Jvm.Cond.initialized "FrostBids") ∈ lw_tbl := kw_1
theorem lw_wF2 : (Jvm.Cond.initialized "FrostBidsModel") ∈ lw_tbl := kw_6
theorem lw_wN1 : (Jvm.Cond.instantiable "FrostBids" (17 : Nat)) ∈ lw_tbl := kw_22
theorem lw_wN2 : (Jvm.Cond.instantiable "FrostBidsModel" (21 : Nat)) ∈ lw_tbl := kw_931
theorem lw_wC1 : (Jvm.Cond.code ({ cls := "FrostBids", name := "<init>", desc := "()V" } : Jvm.MethodName) prog_1_method_1_code (2 : Nat) (Option.none : Option Jvm.ClassFile.FieldType)) ∈ lw_tbl := kw_25
theorem lw_wC2 : (Jvm.Cond.code ({ cls := "FrostBidsModel", name := "<init>", desc := "()V" } : Jvm.MethodName) prog_14_method_1_code (1 : Nat) (Option.none : Option Jvm.ClassFile.FieldType)) ∈ lw_tbl := kw_934
theorem mn_11 : ∀ j, j < fm_N 11 → defaultValue (fm_ty 11 j) = vp_V [.null, .null, .int 0, .null, .null, .int 0, .null, .null, .int 0, .int 0, .int 0, .null, .null, .null, .null, .null, .null] j := fun j hj => match j, hj with
  | 0, _ => rfl
  | 1, _ => rfl
  | 2, _ => rfl
  | 3, _ => rfl
  | 4, _ => rfl
  | 5, _ => rfl
  | 6, _ => rfl
  | 7, _ => rfl
  | 8, _ => rfl
  | 9, _ => rfl
  | 10, _ => rfl
  | 11, _ => rfl
  | 12, _ => rfl
  | 13, _ => rfl
  | 14, _ => rfl
  | 15, _ => rfl
  | 16, _ => rfl
  | j + 17, h => absurd h (by show ¬ j + 17 < 17; omega)
theorem mn_12 : ∀ j, j < fm_N 12 → defaultValue (fm_ty 12 j) = vp_V [.int 0, .null, .null, .null, .int 0, .int 0, .int 0, .int 0, .int 0, .int 0, .null, .null, .null, .null, .null, .int 0, .null, .int 0, .int 0, .int 0, .int 0] j := fun j hj => match j, hj with
  | 0, _ => rfl
  | 1, _ => rfl
  | 2, _ => rfl
  | 3, _ => rfl
  | 4, _ => rfl
  | 5, _ => rfl
  | 6, _ => rfl
  | 7, _ => rfl
  | 8, _ => rfl
  | 9, _ => rfl
  | 10, _ => rfl
  | 11, _ => rfl
  | 12, _ => rfl
  | 13, _ => rfl
  | 14, _ => rfl
  | 15, _ => rfl
  | 16, _ => rfl
  | 17, _ => rfl
  | 18, _ => rfl
  | 19, _ => rfl
  | 20, _ => rfl
  | j + 21, h => absurd h (by show ¬ j + 21 < 21; omega)
/-- the classes, the arrays -/
theorem lw_arrI {s : State} {args : Array Value} {ty : FieldType} (h : (Cond.arrayClass ty).before args s = true) (hn : ∀ C, ty ≠ .object C) : ∃ cA : ClassId, ArrOfT s cA ty ∧ va_RA s cA ty := by
  obtain ⟨c, k, comp, h1, h2, h3⟩ := Cond.arrayClass_spec h
  refine ⟨c, fun n z => ⟨fun k h => (by cases h), k, h2, comp, h3⟩, ?_⟩
  cases ty with
  | object C => exact absurd rfl (hn C)
  | _ => exact h1
theorem lw_arrO {s : State} {args : Array Value} {C : String} (h : (Cond.arrayOver (.object C)).before args s = true) : ∃ cA : ClassId, ArrOfT s cA (.object C) ∧ va_RA s cA (.object C) := by
  obtain ⟨comp, c, k, h1, h2, h3, h4, h5⟩ := Cond.arrayOver_spec h
  exact ⟨c, fun n z => ⟨fun k h => (by cases h), k, h3, comp, h4⟩, k, comp, h3, h4, h1, h5⟩
theorem lw_K {s : State} {args : Array Value} (hts : ∀ w ∈ lw_tbl, w.before args s = true) : ∃ (D : va_G) (ids : Nat → Nat), va_K D fm_cls (fm_tys ids) s := by
  have h : ∀ c : Nat, ∃ q : ClassId × (Nat → Nat), c < 13 → u_Kn s (fm_R c) (fm_T c) (fm_N c) q.1 q.2 := by
    intro c
    by_cases hc : c < 13
    · obtain ⟨a, b, h⟩ := u_known (C := fm_R c) (T := fm_T c) (N := fm_N c) (n := fm_N c) hts (fun w hw => (fm_uin c hc w hw).1) (hts _ (lw_inst c hc))
      exact ⟨(a, b), fun _ => h⟩
    · exact ⟨(0, fun _ => 0), fun x => absurd x hc⟩
  obtain ⟨F, hF⟩ := Classical.axiomOfChoice h
  obtain ⟨c13, q13⟩ := lw_arrI (hts _ lw_wAI) (fun C x => by cases x)
  obtain ⟨c14, q14⟩ := lw_arrI (hts _ lw_wAZ) (fun C x => by cases x)
  obtain ⟨c15, q15⟩ := lw_arrO (hts _ lw_wOC)
  obtain ⟨c16, q16⟩ := lw_arrO (hts _ lw_wOP)
  obtain ⟨c17, q17⟩ := lw_arrO (hts _ lw_wOT)
  refine ⟨(fun c => (F c).1, fun c => (F c).2), fun i => if i = 13 then c13 else if i = 14 then c14 else if i = 15 then c15 else if i = 16 then c16 else c17, fun c q hq => ?_, fun k q hq => ?_⟩
  · by_cases hc : c < 13
    · rw [fm_cls_at c hc] at hq
      cases hq
      exact hF c hc
    · rw [List.getElem?_eq_none (by show 13 ≤ c; omega)] at hq
      cases hq
  · match k, hq with
    | 0, hq => cases hq; exact q13
    | 1, hq => cases hq; exact q14
    | 2, hq => cases hq; exact q15
    | 3, hq => cases hq; exact q16
    | 4, hq => cases hq; exact q17
    | k + 5, hq => cases hq
/-! the String constants -/
def lw_tm (i : Nat) : Term := match i with
  | 0 => .string "FrostBids$Reader" 79
  | 1 => .string "FrostBids$Reader" 81
  | 2 => .string "FrostBids$Reader" 83
  | 3 => .string "FrostBids$Reader" 85
  | 4 => .string "FrostBidsModel" 90
  | _ => .string "FrostBidsModel" 96
def lw_fl : List Cond := flatC (Jvm.Cond.and given_1 narrow_1)
theorem lw_n1 : ∀ q ∈ fm_ncl, Cond.not (.castable q.1 q.2) ∈ lw_fl := by decide +kernel
theorem lw_n2 : ∀ i, i < 6 → Cond.exactly (lw_tm i) "java/lang/String" ∈ lw_fl := by decide +kernel
theorem lw_n3 : ∀ i, i < 6 → Cond.eq (.field (lw_tm i) "java/lang/String" "coder" "B") (.int 0) ∈ lw_fl := by decide +kernel
theorem lw_n4 : ∀ i, i < 6 → Cond.arrayOf (.field (lw_tm i) "java/lang/String" "value" "[B") .byte ∈ lw_fl := by decide +kernel
theorem lw_n5 : ∀ i, i < 6 → Cond.eq (.length (.field (lw_tm i) "java/lang/String" "value" "[B")) (.int (Int32.ofNat (fm_slen.getD i 0))) ∈ lw_fl := by decide +kernel
theorem lw_n6 : ∀ i, i < 6 → ∀ j, j < fm_slen.getD i 0 → Cond.eq (.elem (.field (lw_tm i) "java/lang/String" "value" "[B") (.int (Int32.ofNat j))) (.int ((fm_sbyt.getD i []).getD j 0)) ∈ lw_fl := by decide +kernel
theorem lw_n7 : ∀ i, i < 6 → ∀ j, j < 6 → i ≠ j → Cond.not (Cond.eq (lw_tm i) (lw_tm j)) ∈ lw_fl ∨ Cond.not (Cond.eq (lw_tm j) (lw_tm i)) ∈ lw_fl := by decide +kernel
theorem lw_n8 : ∀ q ∈ fm_srl, (Term.string q.1 q.2.1 = lw_tm q.2.2.2 ∨ Cond.eq (lw_tm q.2.2.2) (.string q.1 q.2.1) ∈ lw_fl) ∧ q.2.2.2 < 6 := by decide +kernel
theorem lw_n9 : Cond.eq (.static "java/lang/String" "COMPACT_STRINGS" "Z") (.int 1) ∈ lw_fl ∧ Cond.isRef (.static "jdk/internal/util/Preconditions" "SIOOBE_FORMATTER" "Ljava/util/function/BiFunction;") ∈ lw_fl := by decide +kernel
theorem lw_n0 : ∀ i, i < 6 → fm_slen.getD i 0 < 2 ^ 31 := by decide
theorem lw_NW {s : State} {args : Array Value} (hts : ∀ w ∈ lw_tbl, w.before args s = true) (hg : (Jvm.Cond.and given_1 narrow_1).before args s = true) : ∃ sk sv : Nat → Nat, fm_NW sk sv (fun q => s.heap.size ≤ q) s s.heap := by
  have hs : ∀ w ∈ lw_fl, w.before args s = true := flat_of_before _ hg
  have hA : ∀ a : Nat, a < s.heap.size → ¬ (fun q => s.heap.size ≤ q) a := fun a h => Nat.not_le.2 h
  obtain ⟨sk, sv, h1, h2⟩ := vk_Sof (args := args) (s := s) (N := 6) (tm := lw_tm) (len := fm_slen) (byt := fm_sbyt) (A := fun q => s.heap.size ≤ q) lw_n0 (fun i hi => hs _ (lw_n2 i hi)) (fun i hi => hs _ (lw_n3 i hi)) (fun i hi => hs _ (lw_n4 i hi)) (fun i hi => hs _ (lw_n5 i hi)) (fun i hi j hj => hs _ (lw_n6 i hi j hj))
    (fun i j hi hj hij => (lw_n7 i hi j hj hij).elim (fun h => Or.inl (hs _ h)) (fun h => Or.inr (hs _ h))) hA
  refine ⟨sk, sv, fun w hw => va_Nw.of (lw_nwt w hw) (hts w (lw_nwl w hw)), fun q hq => va_Nc.of (hs _ (lw_n1 q hq)), fun q hq => ?_, h1, va_Zof (hts _ lw_wCS) (hts _ lw_wiS) (va_eqi (hs _ lw_n9.1)) hA, va_Zqof (hts _ lw_wPS) (hts _ lw_wiP) (hs _ lw_n9.2) hA⟩
  obtain ⟨h3, h4⟩ := lw_n8 q hq
  refine vk_R.of (hts _ (lw_srw q hq)) ?_
  rcases h3 with h3 | h3
  · rw [h3]
    exact h2 _ h4
  · exact va_eqR (hs _ h3) (h2 _ h4)

