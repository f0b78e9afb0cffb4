/-! models and contracts (tool/gen.py prints them) -/
theorem d_X1_frozenBeside_0 : decode prog_3_method_4_code 0 = .ok (.aload_n 0, 1) := by decide +kernel
theorem d_X1_frozenBeside_1 : decode prog_3_method_4_code 1 = .ok (.getfield 24, 3) := by decide +kernel
theorem d_X1_frozenBeside_4 : decode prog_3_method_4_code 4 = .ok (.iconst 1, 1) := by decide +kernel
theorem d_X1_frozenBeside_5 : decode prog_3_method_4_code 5 = .ok (.ishl, 1) := by decide +kernel
theorem d_X1_frozenBeside_6 : decode prog_3_method_4_code 6 = .ok (.iload_n 1, 1) := by decide +kernel
theorem d_X1_frozenBeside_7 : decode prog_3_method_4_code 7 = .ok (.ishr, 1) := by decide +kernel
theorem d_X1_frozenBeside_8 : decode prog_3_method_4_code 8 = .ok (.iconst 1, 1) := by decide +kernel
theorem d_X1_frozenBeside_9 : decode prog_3_method_4_code 9 = .ok (.iand, 1) := by decide +kernel
theorem d_X1_frozenBeside_10 : decode prog_3_method_4_code 10 = .ok (.aload_n 0, 1) := by decide +kernel
theorem d_X1_frozenBeside_11 : decode prog_3_method_4_code 11 = .ok (.getfield 24, 3) := by decide +kernel
theorem d_X1_frozenBeside_14 : decode prog_3_method_4_code 14 = .ok (.iconst 1, 1) := by decide +kernel
theorem d_X1_frozenBeside_15 : decode prog_3_method_4_code 15 = .ok (.ishr, 1) := by decide +kernel
theorem d_X1_frozenBeside_16 : decode prog_3_method_4_code 16 = .ok (.iload_n 1, 1) := by decide +kernel
theorem d_X1_frozenBeside_17 : decode prog_3_method_4_code 17 = .ok (.ishr, 1) := by decide +kernel
theorem d_X1_frozenBeside_18 : decode prog_3_method_4_code 18 = .ok (.iconst 1, 1) := by decide +kernel
theorem d_X1_frozenBeside_19 : decode prog_3_method_4_code 19 = .ok (.iand, 1) := by decide +kernel
theorem d_X1_frozenBeside_20 : decode prog_3_method_4_code 20 = .ok (.iadd, 1) := by decide +kernel
theorem d_X1_frozenBeside_21 : decode prog_3_method_4_code 21 = .ok (.ireturn, 1) := by decide +kernel
def m_X1_frozenBeside (kap lam : Nat → Nat) (r0 : Nat) (a1 : Int32) (S : fm_M) : Option Int32 :=
  fm_gi kap 1 r0 6 S fun x1 =>
  fm_gi kap 1 r0 6 S fun x11 =>
  some ((((x1 <<< ((1 : Int32) &&& 31)) >>> (a1 &&& 31)) &&& 1) + (((x11 >>> ((1 : Int32) &&& 31)) >>> (a1 &&& 31)) &&& 1))
set_option maxHeartbeats 4000000 in
set_option maxRecDepth 100000 in
theorem c_X1_frozenBeside {l : Launch} {D : va_G} {ids kap lam : Nat → Nat} {RL : List Nat} {ad sk sv : Nat → Nat} {S : fm_M} {r0 : Nat} {a1 : Int32} {r : Int32} (hE : fm_E kap RL ad) (hf : m_X1_frozenBeside kap lam r0 a1 S = some r) (sz : Nat) : fm_MI l y_X1_frozenBeside prog_3_method_4_code 2 (Option.some Jvm.ClassFile.FieldType.int) 0 D ids kap lam RL ad sk sv S [.ref (ad r0), .int a1] sz r S := by
  refine fm_open rfl hE (Nat.le_of_ble_eq_true rfl) (fun p e s m args below meth c ls Z hr hlk G F N hl hsz => ?_)
  subst hsz
  obtain ⟨hx, hb, hml, hown, hts⟩ := id Z
  have hl : lv_has ls 2 [(0, .ref (ad r0)), (1, .int a1)] := hl
  unfold m_X1_frozenBeside at hf
  refine lv_aload_n hx hb d_X1_frozenBeside_0 rfl (lv_at hl 0 rfl) ?_
  refine fm_rgi Z G F hf fr_X1_24 d_X1_frozenBeside_1 (fun x1 _ hf => ?_)
  refine lv_iconst (v := 1) hx hb d_X1_frozenBeside_4 (by decide) ?_
  refine lv_ishl hx hb d_X1_frozenBeside_5 ?_
  refine lv_iload_n hx hb d_X1_frozenBeside_6 rfl (lv_at hl 1 rfl) ?_
  refine lv_ishr hx hb d_X1_frozenBeside_7 ?_
  refine lv_iconst (v := 1) hx hb d_X1_frozenBeside_8 (by decide) ?_
  refine lv_iand hx hb d_X1_frozenBeside_9 ?_
  refine lv_aload_n hx hb d_X1_frozenBeside_10 rfl (lv_at hl 0 rfl) ?_
  refine fm_rgi Z G F hf fr_X1_24 d_X1_frozenBeside_11 (fun x11 _ hf => ?_)
  refine lv_iconst (v := 1) hx hb d_X1_frozenBeside_14 (by decide) ?_
  refine lv_ishr hx hb d_X1_frozenBeside_15 ?_
  refine lv_iload_n hx hb d_X1_frozenBeside_16 rfl (lv_at hl 1 rfl) ?_
  refine lv_ishr hx hb d_X1_frozenBeside_17 ?_
  refine lv_iconst (v := 1) hx hb d_X1_frozenBeside_18 (by decide) ?_
  refine lv_iand hx hb d_X1_frozenBeside_19 ?_
  refine lv_iadd hx hb d_X1_frozenBeside_20 ?_
  exact fm_reti Z hr hlk F d_X1_frozenBeside_21 (Option.some.inj hf) rfl
theorem d_X5_growth_0 : decode prog_7_method_2_code 0 = .ok (.aload_n 1, 1) := by decide +kernel
theorem d_X5_growth_1 : decode prog_7_method_2_code 1 = .ok (.getfield 42, 3) := by decide +kernel
theorem d_X5_growth_4 : decode prog_7_method_2_code 4 = .ok (.iload_n 2, 1) := by decide +kernel
theorem d_X5_growth_5 : decode prog_7_method_2_code 5 = .ok (.iaload, 1) := by decide +kernel
theorem d_X5_growth_6 : decode prog_7_method_2_code 6 = .ok (.ireturn, 1) := by decide +kernel
def m_X5_growth (kap lam : Nat → Nat) (r0 : Nat) (r1 : Nat) (a2 : Int32) (S : fm_M) : Option Int32 :=
  fm_gr kap 1 r1 8 S fun q1 =>
  fm_ld kap lam 13 q1 a2 S fun x5 =>
  some x5
set_option maxHeartbeats 4000000 in
set_option maxRecDepth 100000 in
theorem c_X5_growth {l : Launch} {D : va_G} {ids kap lam : Nat → Nat} {RL : List Nat} {ad sk sv : Nat → Nat} {S : fm_M} {r0 : Nat} {r1 : Nat} {a2 : Int32} {r : Int32} (hE : fm_E kap RL ad) (hf : m_X5_growth kap lam r0 r1 a2 S = some r) (sz : Nat) : fm_MI l y_X5_growth prog_7_method_2_code 3 (Option.some Jvm.ClassFile.FieldType.int) 0 D ids kap lam RL ad sk sv S [.ref (ad r0), .ref (ad r1), .int a2] sz r S := by
  refine fm_open rfl hE (Nat.le_of_ble_eq_true rfl) (fun p e s m args below meth c ls Z hr hlk G F N hl hsz => ?_)
  subst hsz
  obtain ⟨hx, hb, hml, hown, hts⟩ := id Z
  have hl : lv_has ls 3 [(0, .ref (ad r0)), (1, .ref (ad r1)), (2, .int a2)] := hl
  unfold m_X5_growth at hf
  refine lv_aload_n hx hb d_X5_growth_0 rfl (lv_at hl 1 rfl) ?_
  refine fm_rgr Z G F hf fr_X5_42 d_X5_growth_1 (fun q1 _ hf => ?_)
  refine lv_iload_n hx hb d_X5_growth_4 rfl (lv_at hl 2 rfl) ?_
  refine fm_rld Z G F hf d_X5_growth_5 (fun x5 _ hf => ?_)
  exact fm_reti Z hr hlk F d_X5_growth_6 (Option.some.inj hf) rfl
theorem d_X3_growth_0 : decode prog_5_method_2_code 0 = .ok (.aload_n 1, 1) := by decide +kernel
theorem d_X3_growth_1 : decode prog_5_method_2_code 1 = .ok (.getfield 7, 3) := by decide +kernel
theorem d_X3_growth_4 : decode prog_5_method_2_code 4 = .ok (.iconst 4, 1) := by decide +kernel
theorem d_X3_growth_5 : decode prog_5_method_2_code 5 = .ok (.irem, 1) := by decide +kernel
theorem d_X3_growth_6 : decode prog_5_method_2_code 6 = .ok (.ifCond .ne 10, 3) := by decide +kernel
theorem d_X3_growth_9 : decode prog_5_method_2_code 9 = .ok (.aload_n 1, 1) := by decide +kernel
theorem d_X3_growth_10 : decode prog_5_method_2_code 10 = .ok (.getfield 13, 3) := by decide +kernel
theorem d_X3_growth_13 : decode prog_5_method_2_code 13 = .ok (.goto 4, 3) := by decide +kernel
theorem d_X3_growth_16 : decode prog_5_method_2_code 16 = .ok (.iconst 0, 1) := by decide +kernel
theorem d_X3_growth_17 : decode prog_5_method_2_code 17 = .ok (.istore_n 3, 1) := by decide +kernel
theorem d_X3_growth_18 : decode prog_5_method_2_code 18 = .ok (.aload_n 0, 1) := by decide +kernel
theorem d_X3_growth_19 : decode prog_5_method_2_code 19 = .ok (.aload_n 1, 1) := by decide +kernel
theorem d_X3_growth_20 : decode prog_5_method_2_code 20 = .ok (.iload_n 2, 1) := by decide +kernel
theorem d_X3_growth_21 : decode prog_5_method_2_code 21 = .ok (.invokespecial 16, 3) := by decide +kernel
theorem d_X3_growth_24 : decode prog_5_method_2_code 24 = .ok (.iload_n 3, 1) := by decide +kernel
theorem d_X3_growth_25 : decode prog_5_method_2_code 25 = .ok (.isub, 1) := by decide +kernel
theorem d_X3_growth_26 : decode prog_5_method_2_code 26 = .ok (.ireturn, 1) := by decide +kernel
def m_X3_growth (kap lam : Nat → Nat) (r0 : Nat) (r1 : Nat) (a2 : Int32) (S : fm_M) : Option Int32 :=
  fm_gi kap 1 r1 5 S fun x1 =>
  if (x1 - x1 / 4 * 4) = 0 then (
   fm_gi kap 1 r1 4 S fun x10 =>
   fm_ck (fm_isC (kap r0) 3) <|
   fm_b1 (m_X5_growth kap lam r0 r1 a2 S) fun x21 =>
   some (x21 - x10)
  ) else (
   fm_let (0 : Int32) fun x17 =>
   fm_ck (fm_isC (kap r0) 3) <|
   fm_b1 (m_X5_growth kap lam r0 r1 a2 S) fun x21 =>
   some (x21 - x17)
  )
set_option maxHeartbeats 4000000 in
set_option maxRecDepth 100000 in
theorem c_X3_growth {l : Launch} {D : va_G} {ids kap lam : Nat → Nat} {RL : List Nat} {ad sk sv : Nat → Nat} {S : fm_M} {r0 : Nat} {r1 : Nat} {a2 : Int32} {r : Int32} (hE : fm_E kap RL ad) (hf : m_X3_growth kap lam r0 r1 a2 S = some r) (sz : Nat) : fm_MI l y_X3_growth prog_5_method_2_code 4 (Option.some Jvm.ClassFile.FieldType.int) 1 D ids kap lam RL ad sk sv S [.ref (ad r0), .ref (ad r1), .int a2] sz r S := by
  refine fm_open rfl hE (Nat.le_of_ble_eq_true rfl) (fun p e s m args below meth c ls Z hr hlk G F N hl hsz => ?_)
  subst hsz
  obtain ⟨hx, hb, hml, hown, hts⟩ := id Z
  have hl : lv_has ls 4 [(0, .ref (ad r0)), (1, .ref (ad r1)), (2, .int a2)] := hl
  unfold m_X3_growth at hf
  refine lv_aload_n hx hb d_X3_growth_0 rfl (lv_at hl 1 rfl) ?_
  refine fm_rgi Z G F hf fr_X3_7 d_X3_growth_1 (fun x1 _ hf => ?_)
  refine lv_iconst (v := 4) hx hb d_X3_growth_4 (by decide) ?_
  refine lv_irem hx hb d_X3_growth_5 (by decide) ?_
  refine lv_if_ne (tgt := 16) hx hb d_X3_growth_6 (by decide) (fun c6 => ?_) (fun c6 => ?_)
  · have hf := fm_ig c6 hf
    refine lv_iconst (v := 0) hx hb d_X3_growth_16 (by decide) ?_
    refine lv_topi (fun x17 ex17 => ?_)
    have hf := fm_let_at ex17 hf
    refine lv_istore_n (lv' := [(3, .int x17), (0, .ref (ad r0)), (1, .ref (ad r1)), (2, .int a2)]) hx hb d_X3_growth_17 rfl hl (by decide) rfl (fun ls hl => ?_)
    refine lv_aload_n hx hb d_X3_growth_18 rfl (lv_at hl 1 rfl) ?_
    refine lv_aload_n hx hb d_X3_growth_19 rfl (lv_at hl 2 rfl) ?_
    refine lv_iload_n hx hb d_X3_growth_20 rfl (lv_at hl 3 rfl) ?_
    obtain ⟨hk21, hf⟩ := fm_some hf
    refine fm_rcr G F hf (fun r ho => fm_runSU (k := 2) Z G F N (As := [.ref (ad r1), .int a2]) (rest := []) (c_X5_growth hE ho _) (fm_lt13 (by decide) hk21) kw_612 kw_596 kw_598 kw_394 kw_11 kw_627 ⟨by decide +kernel, yd_X5_growth.2.2⟩ rfl (by decide) (by decide) hl.1 (Nat.le_of_ble_eq_true rfl) d_X3_growth_21 (Nat.le_refl 0) (Nat.le_refl 0)) (fun x21 H locs _ F hf => ?_)
    refine lv_iload_n hx hb d_X3_growth_24 rfl (lv_at hl 0 rfl) ?_
    refine lv_isub hx hb d_X3_growth_25 ?_
    exact fm_reti Z hr hlk F d_X3_growth_26 (Option.some.inj hf) rfl
  · have hf := fm_ip c6 hf
    refine lv_aload_n hx hb d_X3_growth_9 rfl (lv_at hl 1 rfl) ?_
    refine fm_rgi Z G F hf fr_X3_13 d_X3_growth_10 (fun x10 _ hf => ?_)
    refine lv_goto (tgt := 17) hx hb d_X3_growth_13 (by decide) ?_
    refine lv_istore_n (lv' := [(3, .int x10), (0, .ref (ad r0)), (1, .ref (ad r1)), (2, .int a2)]) hx hb d_X3_growth_17 rfl hl (by decide) rfl (fun ls hl => ?_)
    refine lv_aload_n hx hb d_X3_growth_18 rfl (lv_at hl 1 rfl) ?_
    refine lv_aload_n hx hb d_X3_growth_19 rfl (lv_at hl 2 rfl) ?_
    refine lv_iload_n hx hb d_X3_growth_20 rfl (lv_at hl 3 rfl) ?_
    obtain ⟨hk21, hf⟩ := fm_some hf
    refine fm_rcr G F hf (fun r ho => fm_runSU (k := 2) Z G F N (As := [.ref (ad r1), .int a2]) (rest := []) (c_X5_growth hE ho _) (fm_lt13 (by decide) hk21) kw_612 kw_596 kw_598 kw_394 kw_11 kw_627 ⟨by decide +kernel, yd_X5_growth.2.2⟩ rfl (by decide) (by decide) hl.1 (Nat.le_of_ble_eq_true rfl) d_X3_growth_21 (Nat.le_refl 0) (Nat.le_refl 0)) (fun x21 H locs _ F hf => ?_)
    refine lv_iload_n hx hb d_X3_growth_24 rfl (lv_at hl 0 rfl) ?_
    refine lv_isub hx hb d_X3_growth_25 ?_
    exact fm_reti Z hr hlk F d_X3_growth_26 (Option.some.inj hf) rfl
theorem d_X4_growth_0 : decode prog_6_method_2_code 0 = .ok (.aload_n 0, 1) := by decide +kernel
theorem d_X4_growth_1 : decode prog_6_method_2_code 1 = .ok (.aload_n 1, 1) := by decide +kernel
theorem d_X4_growth_2 : decode prog_6_method_2_code 2 = .ok (.iload_n 2, 1) := by decide +kernel
theorem d_X4_growth_3 : decode prog_6_method_2_code 3 = .ok (.invokespecial 7, 3) := by decide +kernel
theorem d_X4_growth_6 : decode prog_6_method_2_code 6 = .ok (.iconst 2, 1) := by decide +kernel
theorem d_X4_growth_7 : decode prog_6_method_2_code 7 = .ok (.idiv, 1) := by decide +kernel
theorem d_X4_growth_8 : decode prog_6_method_2_code 8 = .ok (.ireturn, 1) := by decide +kernel
def m_X4_growth (kap lam : Nat → Nat) (r0 : Nat) (r1 : Nat) (a2 : Int32) (S : fm_M) : Option Int32 :=
  fm_ck (fm_isC (kap r0) 4) <|
  fm_b1 (m_X5_growth kap lam r0 r1 a2 S) fun x3 =>
  some (x3 / 2)
set_option maxHeartbeats 4000000 in
set_option maxRecDepth 100000 in
theorem c_X4_growth {l : Launch} {D : va_G} {ids kap lam : Nat → Nat} {RL : List Nat} {ad sk sv : Nat → Nat} {S : fm_M} {r0 : Nat} {r1 : Nat} {a2 : Int32} {r : Int32} (hE : fm_E kap RL ad) (hf : m_X4_growth kap lam r0 r1 a2 S = some r) (sz : Nat) : fm_MI l y_X4_growth prog_6_method_2_code 3 (Option.some Jvm.ClassFile.FieldType.int) 1 D ids kap lam RL ad sk sv S [.ref (ad r0), .ref (ad r1), .int a2] sz r S := by
  refine fm_open rfl hE (Nat.le_of_ble_eq_true rfl) (fun p e s m args below meth c ls Z hr hlk G F N hl hsz => ?_)
  subst hsz
  obtain ⟨hx, hb, hml, hown, hts⟩ := id Z
  have hl : lv_has ls 3 [(0, .ref (ad r0)), (1, .ref (ad r1)), (2, .int a2)] := hl
  unfold m_X4_growth at hf
  refine lv_aload_n hx hb d_X4_growth_0 rfl (lv_at hl 0 rfl) ?_
  refine lv_aload_n hx hb d_X4_growth_1 rfl (lv_at hl 1 rfl) ?_
  refine lv_iload_n hx hb d_X4_growth_2 rfl (lv_at hl 2 rfl) ?_
  obtain ⟨hk3, hf⟩ := fm_some hf
  refine fm_rcr G F hf (fun r ho => fm_runSU (k := 2) Z G F N (As := [.ref (ad r1), .int a2]) (rest := []) (c_X5_growth hE ho _) (fm_lt13 (by decide) hk3) kw_605 kw_596 kw_598 kw_411 kw_11 kw_627 ⟨by decide +kernel, yd_X5_growth.2.2⟩ rfl (by decide) (by decide) hl.1 (Nat.le_of_ble_eq_true rfl) d_X4_growth_3 (Nat.le_refl 0) (Nat.le_refl 0)) (fun x3 H locs _ F hf => ?_)
  refine lv_iconst (v := 2) hx hb d_X4_growth_6 (by decide) ?_
  refine lv_idiv hx hb d_X4_growth_7 (by decide) ?_
  exact fm_reti Z hr hlk F d_X4_growth_8 (Option.some.inj hf) rfl
theorem d_X7_growth_0 : decode prog_9_method_2_code 0 = .ok (.aload_n 0, 1) := by decide +kernel
theorem d_X7_growth_1 : decode prog_9_method_2_code 1 = .ok (.aload_n 1, 1) := by decide +kernel
theorem d_X7_growth_2 : decode prog_9_method_2_code 2 = .ok (.iload_n 2, 1) := by decide +kernel
theorem d_X7_growth_3 : decode prog_9_method_2_code 3 = .ok (.invokespecial 7, 3) := by decide +kernel
theorem d_X7_growth_6 : decode prog_9_method_2_code 6 = .ok (.iconst 2, 1) := by decide +kernel
theorem d_X7_growth_7 : decode prog_9_method_2_code 7 = .ok (.aload_n 1, 1) := by decide +kernel
theorem d_X7_growth_8 : decode prog_9_method_2_code 8 = .ok (.iload_n 2, 1) := by decide +kernel
theorem d_X7_growth_9 : decode prog_9_method_2_code 9 = .ok (.invokevirtual 11, 3) := by decide +kernel
theorem d_X7_growth_12 : decode prog_9_method_2_code 12 = .ok (.imul, 1) := by decide +kernel
theorem d_X7_growth_13 : decode prog_9_method_2_code 13 = .ok (.iadd, 1) := by decide +kernel
theorem d_X7_growth_14 : decode prog_9_method_2_code 14 = .ok (.ireturn, 1) := by decide +kernel
def m_X7_growth (kap lam : Nat → Nat) (r0 : Nat) (r1 : Nat) (a2 : Int32) (S : fm_M) : Option Int32 :=
  fm_ck (fm_isC (kap r0) 7) <|
  fm_b1 (m_X5_growth kap lam r0 r1 a2 S) fun x3 =>
  fm_ck (kap r1 == 1) <|
  fm_b1 (m_X1_frozenBeside kap lam r1 a2 S) fun x9 =>
  some (x3 + (2 * x9))
set_option maxHeartbeats 4000000 in
set_option maxRecDepth 100000 in
theorem c_X7_growth {l : Launch} {D : va_G} {ids kap lam : Nat → Nat} {RL : List Nat} {ad sk sv : Nat → Nat} {S : fm_M} {r0 : Nat} {r1 : Nat} {a2 : Int32} {r : Int32} (hE : fm_E kap RL ad) (hf : m_X7_growth kap lam r0 r1 a2 S = some r) (sz : Nat) : fm_MI l y_X7_growth prog_9_method_2_code 3 (Option.some Jvm.ClassFile.FieldType.int) 1 D ids kap lam RL ad sk sv S [.ref (ad r0), .ref (ad r1), .int a2] sz r S := by
  refine fm_open rfl hE (Nat.le_of_ble_eq_true rfl) (fun p e s m args below meth c ls Z hr hlk G F N hl hsz => ?_)
  subst hsz
  obtain ⟨hx, hb, hml, hown, hts⟩ := id Z
  have hl : lv_has ls 3 [(0, .ref (ad r0)), (1, .ref (ad r1)), (2, .int a2)] := hl
  unfold m_X7_growth at hf
  refine lv_aload_n hx hb d_X7_growth_0 rfl (lv_at hl 0 rfl) ?_
  refine lv_aload_n hx hb d_X7_growth_1 rfl (lv_at hl 1 rfl) ?_
  refine lv_iload_n hx hb d_X7_growth_2 rfl (lv_at hl 2 rfl) ?_
  obtain ⟨hk3, hf⟩ := fm_some hf
  refine fm_rcr G F hf (fun r ho => fm_runSU (k := 2) Z G F N (As := [.ref (ad r1), .int a2]) (rest := []) (c_X5_growth hE ho _) (fm_lt13 (by decide) hk3) kw_618 kw_596 kw_598 kw_428 kw_11 kw_627 ⟨by decide +kernel, yd_X5_growth.2.2⟩ rfl (by decide) (by decide) hl.1 (Nat.le_of_ble_eq_true rfl) d_X7_growth_3 (Nat.le_refl 0) (Nat.le_refl 0)) (fun x3 H locs _ F hf => ?_)
  refine lv_iconst (v := 2) hx hb d_X7_growth_6 (by decide) ?_
  refine lv_aload_n hx hb d_X7_growth_7 rfl (lv_at hl 1 rfl) ?_
  refine lv_iload_n hx hb d_X7_growth_8 rfl (lv_at hl 2 rfl) ?_
  obtain ⟨hk9, hf⟩ := fm_some hf
  refine fm_rcr G F hf (fun r ho => fm_runV (k := 1) Z G F N (As := [.int a2]) (rest := [.int 2, .int x3]) (c_X1_frozenBeside hE ho _) (by rw [eq_of_beq hk9]; decide) (by rw [eq_of_beq hk9]; rfl) kw_619 kw_620 kw_621 kw_18 kw_622 yd_X1_frozenBeside rfl (by decide) (by decide) hl.1 (Nat.le_of_ble_eq_true rfl) d_X7_growth_9 (Nat.le_refl 0) (Nat.le_refl 0)) (fun x9 H locs _ F hf => ?_)
  refine lv_imul hx hb d_X7_growth_12 ?_
  refine lv_iadd hx hb d_X7_growth_13 ?_
  exact fm_reti Z hr hlk F d_X7_growth_14 (Option.some.inj hf) rfl
theorem d_X2_growth_0 : decode prog_4_method_2_code 0 = .ok (.iload_n 2, 1) := by decide +kernel
theorem d_X2_growth_1 : decode prog_4_method_2_code 1 = .ok (.iconst 3, 1) := by decide +kernel
theorem d_X2_growth_2 : decode prog_4_method_2_code 2 = .ok (.irem, 1) := by decide +kernel
theorem d_X2_growth_3 : decode prog_4_method_2_code 3 = .ok (.iconst 2, 1) := by decide +kernel
theorem d_X2_growth_4 : decode prog_4_method_2_code 4 = .ok (.if_icmp .ne 7, 3) := by decide +kernel
theorem d_X2_growth_7 : decode prog_4_method_2_code 7 = .ok (.iconst 0, 1) := by decide +kernel
theorem d_X2_growth_8 : decode prog_4_method_2_code 8 = .ok (.goto 9, 3) := by decide +kernel
theorem d_X2_growth_11 : decode prog_4_method_2_code 11 = .ok (.aload_n 0, 1) := by decide +kernel
theorem d_X2_growth_12 : decode prog_4_method_2_code 12 = .ok (.aload_n 1, 1) := by decide +kernel
theorem d_X2_growth_13 : decode prog_4_method_2_code 13 = .ok (.iload_n 2, 1) := by decide +kernel
theorem d_X2_growth_14 : decode prog_4_method_2_code 14 = .ok (.invokespecial 7, 3) := by decide +kernel
theorem d_X2_growth_17 : decode prog_4_method_2_code 17 = .ok (.ireturn, 1) := by decide +kernel
def m_X2_growth (kap lam : Nat → Nat) (r0 : Nat) (r1 : Nat) (a2 : Int32) (S : fm_M) : Option Int32 :=
  if (a2 - a2 / 3 * 3) = 2 then (
   some 0
  ) else (
   fm_ck (fm_isC (kap r0) 2) <|
   fm_b1 (m_X3_growth kap lam r0 r1 a2 S) fun x14 =>
   some x14
  )
set_option maxHeartbeats 4000000 in
set_option maxRecDepth 100000 in
theorem c_X2_growth {l : Launch} {D : va_G} {ids kap lam : Nat → Nat} {RL : List Nat} {ad sk sv : Nat → Nat} {S : fm_M} {r0 : Nat} {r1 : Nat} {a2 : Int32} {r : Int32} (hE : fm_E kap RL ad) (hf : m_X2_growth kap lam r0 r1 a2 S = some r) (sz : Nat) : fm_MI l y_X2_growth prog_4_method_2_code 3 (Option.some Jvm.ClassFile.FieldType.int) 2 D ids kap lam RL ad sk sv S [.ref (ad r0), .ref (ad r1), .int a2] sz r S := by
  refine fm_open rfl hE (Nat.le_of_ble_eq_true rfl) (fun p e s m args below meth c ls Z hr hlk G F N hl hsz => ?_)
  subst hsz
  obtain ⟨hx, hb, hml, hown, hts⟩ := id Z
  have hl : lv_has ls 3 [(0, .ref (ad r0)), (1, .ref (ad r1)), (2, .int a2)] := hl
  unfold m_X2_growth at hf
  refine lv_iload_n hx hb d_X2_growth_0 rfl (lv_at hl 2 rfl) ?_
  refine lv_iconst (v := 3) hx hb d_X2_growth_1 (by decide) ?_
  refine lv_irem hx hb d_X2_growth_2 (by decide) ?_
  refine lv_iconst (v := 2) hx hb d_X2_growth_3 (by decide) ?_
  refine lv_icmp_ne (tgt := 11) hx hb d_X2_growth_4 (by decide) (fun c4 => ?_) (fun c4 => ?_)
  · have hf := fm_ig c4 hf
    refine lv_aload_n hx hb d_X2_growth_11 rfl (lv_at hl 0 rfl) ?_
    refine lv_aload_n hx hb d_X2_growth_12 rfl (lv_at hl 1 rfl) ?_
    refine lv_iload_n hx hb d_X2_growth_13 rfl (lv_at hl 2 rfl) ?_
    obtain ⟨hk14, hf⟩ := fm_some hf
    refine fm_rcr G F hf (fun r ho => fm_runSU (k := 2) Z G F N (As := [.ref (ad r1), .int a2]) (rest := []) (c_X3_growth hE ho _) (fm_lt13 (by decide) hk14) kw_609 kw_610 kw_1333 kw_445 kw_12 kw_611 ⟨by decide +kernel, yd_X3_growth.2.2⟩ rfl (by decide) (by decide) hl.1 (Nat.le_of_ble_eq_true rfl) d_X2_growth_14 (Nat.le_refl 0) (Nat.le_refl 0)) (fun x14 H locs _ F hf => ?_)
    exact fm_reti Z hr hlk F d_X2_growth_17 (Option.some.inj hf) rfl
  · have hf := fm_ip c4 hf
    refine lv_iconst (v := 0) hx hb d_X2_growth_7 (by decide) ?_
    refine lv_goto (tgt := 17) hx hb d_X2_growth_8 (by decide) ?_
    exact fm_reti Z hr hlk F d_X2_growth_17 (Option.some.inj hf) rfl
theorem d_X0_growth_0 : decode prog_2_method_2_code 0 = .ok (.aload_n 0, 1) := by decide +kernel
theorem d_X0_growth_1 : decode prog_2_method_2_code 1 = .ok (.aload_n 1, 1) := by decide +kernel
theorem d_X0_growth_2 : decode prog_2_method_2_code 2 = .ok (.iload_n 2, 1) := by decide +kernel
theorem d_X0_growth_3 : decode prog_2_method_2_code 3 = .ok (.invokespecial 7, 3) := by decide +kernel
theorem d_X0_growth_6 : decode prog_2_method_2_code 6 = .ok (.aload_n 1, 1) := by decide +kernel
theorem d_X0_growth_7 : decode prog_2_method_2_code 7 = .ok (.getfield 11, 3) := by decide +kernel
theorem d_X0_growth_10 : decode prog_2_method_2_code 10 = .ok (.iadd, 1) := by decide +kernel
theorem d_X0_growth_11 : decode prog_2_method_2_code 11 = .ok (.ireturn, 1) := by decide +kernel
def m_X0_growth (kap lam : Nat → Nat) (r0 : Nat) (r1 : Nat) (a2 : Int32) (S : fm_M) : Option Int32 :=
  fm_ck (fm_isC (kap r0) 0) <|
  fm_b1 (m_X4_growth kap lam r0 r1 a2 S) fun x3 =>
  fm_gi kap 1 r1 4 S fun x7 =>
  some (x3 + x7)
set_option maxHeartbeats 4000000 in
set_option maxRecDepth 100000 in
theorem c_X0_growth {l : Launch} {D : va_G} {ids kap lam : Nat → Nat} {RL : List Nat} {ad sk sv : Nat → Nat} {S : fm_M} {r0 : Nat} {r1 : Nat} {a2 : Int32} {r : Int32} (hE : fm_E kap RL ad) (hf : m_X0_growth kap lam r0 r1 a2 S = some r) (sz : Nat) : fm_MI l y_X0_growth prog_2_method_2_code 3 (Option.some Jvm.ClassFile.FieldType.int) 2 D ids kap lam RL ad sk sv S [.ref (ad r0), .ref (ad r1), .int a2] sz r S := by
  refine fm_open rfl hE (Nat.le_of_ble_eq_true rfl) (fun p e s m args below meth c ls Z hr hlk G F N hl hsz => ?_)
  subst hsz
  obtain ⟨hx, hb, hml, hown, hts⟩ := id Z
  have hl : lv_has ls 3 [(0, .ref (ad r0)), (1, .ref (ad r1)), (2, .int a2)] := hl
  unfold m_X0_growth at hf
  refine lv_aload_n hx hb d_X0_growth_0 rfl (lv_at hl 0 rfl) ?_
  refine lv_aload_n hx hb d_X0_growth_1 rfl (lv_at hl 1 rfl) ?_
  refine lv_iload_n hx hb d_X0_growth_2 rfl (lv_at hl 2 rfl) ?_
  obtain ⟨hk3, hf⟩ := fm_some hf
  refine fm_rcr G F hf (fun r ho => fm_runSU (k := 2) Z G F N (As := [.ref (ad r1), .int a2]) (rest := []) (c_X4_growth hE ho _) (fm_lt13 (by decide) hk3) kw_602 kw_603 kw_1332 kw_462 kw_13 kw_604 ⟨by decide +kernel, yd_X4_growth.2.2⟩ rfl (by decide) (by decide) hl.1 (Nat.le_of_ble_eq_true rfl) d_X0_growth_3 (Nat.le_refl 0) (Nat.le_refl 0)) (fun x3 H locs _ F hf => ?_)
  refine lv_aload_n hx hb d_X0_growth_6 rfl (lv_at hl 1 rfl) ?_
  refine fm_rgi Z G F hf fr_X0_11 d_X0_growth_7 (fun x7 _ hf => ?_)
  refine lv_iadd hx hb d_X0_growth_10 ?_
  exact fm_reti Z hr hlk F d_X0_growth_11 (Option.some.inj hf) rfl
theorem d_X9_growth_0 : decode prog_11_method_3_code 0 = .ok (.aload_n 0, 1) := by decide +kernel
theorem d_X9_growth_1 : decode prog_11_method_3_code 1 = .ok (.aload_n 1, 1) := by decide +kernel
theorem d_X9_growth_2 : decode prog_11_method_3_code 2 = .ok (.iload_n 2, 1) := by decide +kernel
theorem d_X9_growth_3 : decode prog_11_method_3_code 3 = .ok (.invokespecial 16, 3) := by decide +kernel
theorem d_X9_growth_6 : decode prog_11_method_3_code 6 = .ok (.aload_n 0, 1) := by decide +kernel
theorem d_X9_growth_7 : decode prog_11_method_3_code 7 = .ok (.getfield 9, 3) := by decide +kernel
theorem d_X9_growth_10 : decode prog_11_method_3_code 10 = .ok (.iload_n 2, 1) := by decide +kernel
theorem d_X9_growth_11 : decode prog_11_method_3_code 11 = .ok (.iconst 4, 1) := by decide +kernel
theorem d_X9_growth_12 : decode prog_11_method_3_code 12 = .ok (.irem, 1) := by decide +kernel
theorem d_X9_growth_13 : decode prog_11_method_3_code 13 = .ok (.iaload, 1) := by decide +kernel
theorem d_X9_growth_14 : decode prog_11_method_3_code 14 = .ok (.iadd, 1) := by decide +kernel
theorem d_X9_growth_15 : decode prog_11_method_3_code 15 = .ok (.iconst 4, 1) := by decide +kernel
theorem d_X9_growth_16 : decode prog_11_method_3_code 16 = .ok (.isub, 1) := by decide +kernel
theorem d_X9_growth_17 : decode prog_11_method_3_code 17 = .ok (.ireturn, 1) := by decide +kernel
def m_X9_growth (kap lam : Nat → Nat) (r0 : Nat) (r1 : Nat) (a2 : Int32) (S : fm_M) : Option Int32 :=
  fm_ck (fm_isC (kap r0) 9) <|
  fm_b1 (m_X7_growth kap lam r0 r1 a2 S) fun x3 =>
  fm_gr kap 9 r0 10 S fun q7 =>
  fm_ld kap lam 13 q7 (a2 - a2 / 4 * 4) S fun x13 =>
  some ((x3 + x13) - 4)
set_option maxHeartbeats 4000000 in
set_option maxRecDepth 100000 in
theorem c_X9_growth {l : Launch} {D : va_G} {ids kap lam : Nat → Nat} {RL : List Nat} {ad sk sv : Nat → Nat} {S : fm_M} {r0 : Nat} {r1 : Nat} {a2 : Int32} {r : Int32} (hE : fm_E kap RL ad) (hf : m_X9_growth kap lam r0 r1 a2 S = some r) (sz : Nat) : fm_MI l y_X9_growth prog_11_method_3_code 3 (Option.some Jvm.ClassFile.FieldType.int) 2 D ids kap lam RL ad sk sv S [.ref (ad r0), .ref (ad r1), .int a2] sz r S := by
  refine fm_open rfl hE (Nat.le_of_ble_eq_true rfl) (fun p e s m args below meth c ls Z hr hlk G F N hl hsz => ?_)
  subst hsz
  obtain ⟨hx, hb, hml, hown, hts⟩ := id Z
  have hl : lv_has ls 3 [(0, .ref (ad r0)), (1, .ref (ad r1)), (2, .int a2)] := hl
  unfold m_X9_growth at hf
  refine lv_aload_n hx hb d_X9_growth_0 rfl (lv_at hl 0 rfl) ?_
  refine lv_aload_n hx hb d_X9_growth_1 rfl (lv_at hl 1 rfl) ?_
  refine lv_iload_n hx hb d_X9_growth_2 rfl (lv_at hl 2 rfl) ?_
  obtain ⟨hk3, hf⟩ := fm_some hf
  refine fm_rcr G F hf (fun r ho => fm_runSU (k := 2) Z G F N (As := [.ref (ad r1), .int a2]) (rest := []) (c_X7_growth hE ho _) (fm_lt13 (by decide) hk3) kw_626 kw_616 kw_1334 kw_485 kw_14 kw_617 ⟨by decide +kernel, yd_X7_growth.2.2⟩ rfl (by decide) (by decide) hl.1 (Nat.le_of_ble_eq_true rfl) d_X9_growth_3 (Nat.le_refl 0) (Nat.le_refl 0)) (fun x3 H locs _ F hf => ?_)
  refine lv_aload_n hx hb d_X9_growth_6 rfl (lv_at hl 0 rfl) ?_
  refine fm_rgr Z G F hf fr_X9_9 d_X9_growth_7 (fun q7 _ hf => ?_)
  refine lv_iload_n hx hb d_X9_growth_10 rfl (lv_at hl 2 rfl) ?_
  refine lv_iconst (v := 4) hx hb d_X9_growth_11 (by decide) ?_
  refine lv_irem hx hb d_X9_growth_12 (by decide) ?_
  refine fm_rld Z G F hf d_X9_growth_13 (fun x13 _ hf => ?_)
  refine lv_iadd hx hb d_X9_growth_14 ?_
  refine lv_iconst (v := 4) hx hb d_X9_growth_15 (by decide) ?_
  refine lv_isub hx hb d_X9_growth_16 ?_
  exact fm_reti Z hr hlk F d_X9_growth_17 (Option.some.inj hf) rfl
def v_growth (kap lam : Nat → Nat) (r0 : Nat) (r1 : Nat) (a2 : Int32) (S : fm_M) : Option Int32 :=
  if kap r0 = 0 then m_X0_growth kap lam r0 r1 a2 S else
  if kap r0 = 2 then m_X2_growth kap lam r0 r1 a2 S else
  if kap r0 = 3 then m_X3_growth kap lam r0 r1 a2 S else
  if kap r0 = 4 then m_X4_growth kap lam r0 r1 a2 S else
  if kap r0 = 5 then m_X5_growth kap lam r0 r1 a2 S else
  if kap r0 = 7 then m_X7_growth kap lam r0 r1 a2 S else
  if kap r0 = 9 then m_X9_growth kap lam r0 r1 a2 S else
  none
theorem d_X5_drips_0 : decode prog_7_method_3_code 0 = .ok (.aload_n 0, 1) := by decide +kernel
theorem d_X5_drips_1 : decode prog_7_method_3_code 1 = .ok (.getfield 38, 3) := by decide +kernel
theorem d_X5_drips_4 : decode prog_7_method_3_code 4 = .ok (.iconst 1, 1) := by decide +kernel
theorem d_X5_drips_5 : decode prog_7_method_3_code 5 = .ok (.iconst 0, 1) := by decide +kernel
theorem d_X5_drips_6 : decode prog_7_method_3_code 6 = .ok (.iconst 0, 1) := by decide +kernel
theorem d_X5_drips_7 : decode prog_7_method_3_code 7 = .ok (.invokevirtual 48, 3) := by decide +kernel
theorem d_X5_drips_10 : decode prog_7_method_3_code 10 = .ok (.pop, 1) := by decide +kernel
theorem d_X5_drips_11 : decode prog_7_method_3_code 11 = .ok (.iload_n 1, 1) := by decide +kernel
theorem d_X5_drips_12 : decode prog_7_method_3_code 12 = .ok (.aload_n 0, 1) := by decide +kernel
theorem d_X5_drips_13 : decode prog_7_method_3_code 13 = .ok (.getfield 29, 3) := by decide +kernel
theorem d_X5_drips_16 : decode prog_7_method_3_code 16 = .ok (.iadd, 1) := by decide +kernel
theorem d_X5_drips_17 : decode prog_7_method_3_code 17 = .ok (.ireturn, 1) := by decide +kernel
def m_X5_drips (kap lam : Nat → Nat) (r0 : Nat) (a1 : Int32) (S : fm_M) : Option (Int32 × fm_M) :=
  fm_gr kap 5 r0 9 S fun q1 =>
  fm_ck (kap q1 == 8) <|
  fm_bi (m_X8_add kap lam q1 1 0 0 S) fun x7 S7 =>
  fm_gi kap 5 r0 1 S7 fun x13 =>
  some (a1 + x13, S7)
set_option maxHeartbeats 4000000 in
set_option maxRecDepth 100000 in
theorem c_X5_drips {l : Launch} {D : va_G} {ids kap lam : Nat → Nat} {RL : List Nat} {ad sk sv : Nat → Nat} {S : fm_M} {r0 : Nat} {a1 : Int32} {r : Int32} {u : fm_M} (hE : fm_E kap RL ad) (hf : m_X5_drips kap lam r0 a1 S = some (r, u)) (sz : Nat) : fm_MI l y_X5_drips prog_7_method_3_code 2 (Option.some Jvm.ClassFile.FieldType.int) 1 D ids kap lam RL ad sk sv S [.ref (ad r0), .int a1] sz r u := by
  refine fm_open rfl hE (Nat.le_of_ble_eq_true rfl) (fun p e s m args below meth c ls Z hr hlk G F N hl hsz => ?_)
  subst hsz
  obtain ⟨hx, hb, hml, hown, hts⟩ := id Z
  have hl : lv_has ls 2 [(0, .ref (ad r0)), (1, .int a1)] := hl
  unfold m_X5_drips at hf
  refine lv_aload_n hx hb d_X5_drips_0 rfl (lv_at hl 0 rfl) ?_
  refine fm_rgr Z G F hf fr_X5_38 d_X5_drips_1 (fun q1 _ hf => ?_)
  refine lv_iconst (v := 1) hx hb d_X5_drips_4 (by decide) ?_
  refine lv_iconst (v := 0) hx hb d_X5_drips_5 (by decide) ?_
  refine lv_iconst (v := 0) hx hb d_X5_drips_6 (by decide) ?_
  obtain ⟨hk7, hf⟩ := fm_some hf
  refine fm_rci G F hf (fun r u ho => fm_runV (k := 3) Z G F N (As := [.int 1, .int 0, .int 0]) (rest := []) (c_X8_add hE ho _) (by rw [eq_of_beq hk7]; decide) (by rw [eq_of_beq hk7]; rfl) kw_814 kw_190 kw_191 kw_3 kw_192 yd_X8_add rfl (by decide) (by decide) hl.1 (Nat.le_of_ble_eq_true rfl) d_X5_drips_7 (Nat.le_refl 0) (Nat.le_refl 0)) (fun x7 S7 H locs _ F hf => ?_)
  refine lv_pop hx hb d_X5_drips_10 rfl ?_
  refine lv_iload_n hx hb d_X5_drips_11 rfl (lv_at hl 1 rfl) ?_
  refine lv_aload_n hx hb d_X5_drips_12 rfl (lv_at hl 0 rfl) ?_
  refine fm_rgi Z G F hf fr_X5_29 d_X5_drips_13 (fun x13 _ hf => ?_)
  refine lv_iadd hx hb d_X5_drips_16 ?_
  exact fm_reti Z hr hlk F d_X5_drips_17 (Prod.mk.inj (Option.some.inj hf)).1 (Prod.mk.inj (Option.some.inj hf)).2
theorem d_X3_drips_0 : decode prog_5_method_3_code 0 = .ok (.aload_n 0, 1) := by decide +kernel
theorem d_X3_drips_1 : decode prog_5_method_3_code 1 = .ok (.getfield 20, 3) := by decide +kernel
theorem d_X3_drips_4 : decode prog_5_method_3_code 4 = .ok (.bipush 11, 2) := by decide +kernel
theorem d_X3_drips_6 : decode prog_5_method_3_code 6 = .ok (.iconst 0, 1) := by decide +kernel
theorem d_X3_drips_7 : decode prog_5_method_3_code 7 = .ok (.iconst 0, 1) := by decide +kernel
theorem d_X3_drips_8 : decode prog_5_method_3_code 8 = .ok (.invokevirtual 26, 3) := by decide +kernel
theorem d_X3_drips_11 : decode prog_5_method_3_code 11 = .ok (.pop, 1) := by decide +kernel
theorem d_X3_drips_12 : decode prog_5_method_3_code 12 = .ok (.aload_n 0, 1) := by decide +kernel
theorem d_X3_drips_13 : decode prog_5_method_3_code 13 = .ok (.iload_n 1, 1) := by decide +kernel
theorem d_X3_drips_14 : decode prog_5_method_3_code 14 = .ok (.iconst 3, 1) := by decide +kernel
theorem d_X3_drips_15 : decode prog_5_method_3_code 15 = .ok (.imul, 1) := by decide +kernel
theorem d_X3_drips_16 : decode prog_5_method_3_code 16 = .ok (.invokespecial 32, 3) := by decide +kernel
theorem d_X3_drips_19 : decode prog_5_method_3_code 19 = .ok (.ireturn, 1) := by decide +kernel
def m_X3_drips (kap lam : Nat → Nat) (r0 : Nat) (a1 : Int32) (S : fm_M) : Option (Int32 × fm_M) :=
  fm_gr kap 3 r0 9 S fun q1 =>
  fm_ck (kap q1 == 8) <|
  fm_bi (m_X8_add kap lam q1 11 0 0 S) fun x8 S8 =>
  fm_ck (fm_isC (kap r0) 3) <|
  fm_bi (m_X5_drips kap lam r0 (a1 * 3) S8) fun x16 S16 =>
  some (x16, S16)
set_option maxHeartbeats 4000000 in
set_option maxRecDepth 100000 in
theorem c_X3_drips {l : Launch} {D : va_G} {ids kap lam : Nat → Nat} {RL : List Nat} {ad sk sv : Nat → Nat} {S : fm_M} {r0 : Nat} {a1 : Int32} {r : Int32} {u : fm_M} (hE : fm_E kap RL ad) (hf : m_X3_drips kap lam r0 a1 S = some (r, u)) (sz : Nat) : fm_MI l y_X3_drips prog_5_method_3_code 2 (Option.some Jvm.ClassFile.FieldType.int) 2 D ids kap lam RL ad sk sv S [.ref (ad r0), .int a1] sz r u := by
  refine fm_open rfl hE (Nat.le_of_ble_eq_true rfl) (fun p e s m args below meth c ls Z hr hlk G F N hl hsz => ?_)
  subst hsz
  obtain ⟨hx, hb, hml, hown, hts⟩ := id Z
  have hl : lv_has ls 2 [(0, .ref (ad r0)), (1, .int a1)] := hl
  unfold m_X3_drips at hf
  refine lv_aload_n hx hb d_X3_drips_0 rfl (lv_at hl 0 rfl) ?_
  refine fm_rgr Z G F hf fr_X3_20 d_X3_drips_1 (fun q1 _ hf => ?_)
  refine lv_bipush (v := 11) hx hb d_X3_drips_4 (by decide) ?_
  refine lv_iconst (v := 0) hx hb d_X3_drips_6 (by decide) ?_
  refine lv_iconst (v := 0) hx hb d_X3_drips_7 (by decide) ?_
  obtain ⟨hk8, hf⟩ := fm_some hf
  refine fm_rci G F hf (fun r u ho => fm_runV (k := 3) Z G F N (As := [.int 11, .int 0, .int 0]) (rest := []) (c_X8_add hE ho _) (by rw [eq_of_beq hk8]; decide) (by rw [eq_of_beq hk8]; rfl) kw_807 kw_190 kw_191 kw_3 kw_192 yd_X8_add rfl (by decide) (by decide) hl.1 (Nat.le_of_ble_eq_true rfl) d_X3_drips_8 (Nat.le_refl 0) (Nat.le_refl 0)) (fun x8 S8 H locs _ F hf => ?_)
  refine lv_pop hx hb d_X3_drips_11 rfl ?_
  refine lv_aload_n hx hb d_X3_drips_12 rfl (lv_at hl 0 rfl) ?_
  refine lv_iload_n hx hb d_X3_drips_13 rfl (lv_at hl 1 rfl) ?_
  refine lv_iconst (v := 3) hx hb d_X3_drips_14 (by decide) ?_
  refine lv_imul hx hb d_X3_drips_15 ?_
  obtain ⟨hk16, hf⟩ := fm_some hf
  refine fm_rci G F hf (fun r u ho => fm_runSU (k := 1) Z G F N (As := [.int (a1 * 3)]) (rest := []) (c_X5_drips hE ho _) (fm_lt13 (by decide) hk16) kw_808 kw_794 kw_796 kw_394 kw_11 kw_813 ⟨by decide +kernel, yd_X5_drips.2.2⟩ rfl (by decide) (by decide) hl.1 (Nat.le_of_ble_eq_true rfl) d_X3_drips_16 (Nat.le_refl 0) (Nat.le_refl 0)) (fun x16 S16 H locs _ F hf => ?_)
  exact fm_reti Z hr hlk F d_X3_drips_19 (Prod.mk.inj (Option.some.inj hf)).1 (Prod.mk.inj (Option.some.inj hf)).2
theorem d_X0_drips_0 : decode prog_2_method_3_code 0 = .ok (.aload_n 0, 1) := by decide +kernel
theorem d_X0_drips_1 : decode prog_2_method_3_code 1 = .ok (.getfield 17, 3) := by decide +kernel
theorem d_X0_drips_4 : decode prog_2_method_3_code 4 = .ok (.bipush 51, 2) := by decide +kernel
theorem d_X0_drips_6 : decode prog_2_method_3_code 6 = .ok (.iconst 0, 1) := by decide +kernel
theorem d_X0_drips_7 : decode prog_2_method_3_code 7 = .ok (.iconst 0, 1) := by decide +kernel
theorem d_X0_drips_8 : decode prog_2_method_3_code 8 = .ok (.invokevirtual 23, 3) := by decide +kernel
theorem d_X0_drips_11 : decode prog_2_method_3_code 11 = .ok (.pop, 1) := by decide +kernel
theorem d_X0_drips_12 : decode prog_2_method_3_code 12 = .ok (.aload_n 0, 1) := by decide +kernel
theorem d_X0_drips_13 : decode prog_2_method_3_code 13 = .ok (.iload_n 1, 1) := by decide +kernel
theorem d_X0_drips_14 : decode prog_2_method_3_code 14 = .ok (.invokespecial 29, 3) := by decide +kernel
theorem d_X0_drips_17 : decode prog_2_method_3_code 17 = .ok (.aload_n 0, 1) := by decide +kernel
theorem d_X0_drips_18 : decode prog_2_method_3_code 18 = .ok (.getfield 33, 3) := by decide +kernel
theorem d_X0_drips_21 : decode prog_2_method_3_code 21 = .ok (.ixor, 1) := by decide +kernel
theorem d_X0_drips_22 : decode prog_2_method_3_code 22 = .ok (.ireturn, 1) := by decide +kernel
def m_X0_drips (kap lam : Nat → Nat) (r0 : Nat) (a1 : Int32) (S : fm_M) : Option (Int32 × fm_M) :=
  fm_gr kap 0 r0 9 S fun q1 =>
  fm_ck (kap q1 == 8) <|
  fm_bi (m_X8_add kap lam q1 51 0 0 S) fun x8 S8 =>
  fm_ck (fm_isC (kap r0) 0) <|
  fm_bi (m_X5_drips kap lam r0 a1 S8) fun x14 S14 =>
  fm_gi kap 0 r0 1 S14 fun x18 =>
  some (x14 ^^^ x18, S14)
set_option maxHeartbeats 4000000 in
set_option maxRecDepth 100000 in
theorem c_X0_drips {l : Launch} {D : va_G} {ids kap lam : Nat → Nat} {RL : List Nat} {ad sk sv : Nat → Nat} {S : fm_M} {r0 : Nat} {a1 : Int32} {r : Int32} {u : fm_M} (hE : fm_E kap RL ad) (hf : m_X0_drips kap lam r0 a1 S = some (r, u)) (sz : Nat) : fm_MI l y_X0_drips prog_2_method_3_code 2 (Option.some Jvm.ClassFile.FieldType.int) 2 D ids kap lam RL ad sk sv S [.ref (ad r0), .int a1] sz r u := by
  refine fm_open rfl hE (Nat.le_of_ble_eq_true rfl) (fun p e s m args below meth c ls Z hr hlk G F N hl hsz => ?_)
  subst hsz
  obtain ⟨hx, hb, hml, hown, hts⟩ := id Z
  have hl : lv_has ls 2 [(0, .ref (ad r0)), (1, .int a1)] := hl
  unfold m_X0_drips at hf
  refine lv_aload_n hx hb d_X0_drips_0 rfl (lv_at hl 0 rfl) ?_
  refine fm_rgr Z G F hf fr_X0_17 d_X0_drips_1 (fun q1 _ hf => ?_)
  refine lv_bipush (v := 51) hx hb d_X0_drips_4 (by decide) ?_
  refine lv_iconst (v := 0) hx hb d_X0_drips_6 (by decide) ?_
  refine lv_iconst (v := 0) hx hb d_X0_drips_7 (by decide) ?_
  obtain ⟨hk8, hf⟩ := fm_some hf
  refine fm_rci G F hf (fun r u ho => fm_runV (k := 3) Z G F N (As := [.int 51, .int 0, .int 0]) (rest := []) (c_X8_add hE ho _) (by rw [eq_of_beq hk8]; decide) (by rw [eq_of_beq hk8]; rfl) kw_800 kw_190 kw_191 kw_3 kw_192 yd_X8_add rfl (by decide) (by decide) hl.1 (Nat.le_of_ble_eq_true rfl) d_X0_drips_8 (Nat.le_refl 0) (Nat.le_refl 0)) (fun x8 S8 H locs _ F hf => ?_)
  refine lv_pop hx hb d_X0_drips_11 rfl ?_
  refine lv_aload_n hx hb d_X0_drips_12 rfl (lv_at hl 0 rfl) ?_
  refine lv_iload_n hx hb d_X0_drips_13 rfl (lv_at hl 1 rfl) ?_
  obtain ⟨hk14, hf⟩ := fm_some hf
  refine fm_rci G F hf (fun r u ho => fm_runSI (k := 1) Z G F N (As := [.int a1]) (rest := []) (x := (⟨"FrostBids$Nursery", "drips", "(I)I"⟩ : MethodName)) (c_X5_drips hE ho _) (fm_lt13 (by decide) hk14) rfl kw_801 kw_794 kw_802 kw_462 kw_411 kw_11 kw_813 ⟨by decide +kernel, yd_X5_drips.2.2⟩ rfl (by decide) (by decide) hl.1 (Nat.le_of_ble_eq_true rfl) d_X0_drips_14 (Nat.le_refl 0) (Nat.le_refl 0)) (fun x14 S14 H locs _ F hf => ?_)
  refine lv_aload_n hx hb d_X0_drips_17 rfl (lv_at hl 0 rfl) ?_
  refine fm_rgi Z G F hf fr_X0_33 d_X0_drips_18 (fun x18 _ hf => ?_)
  refine lv_ixor hx hb d_X0_drips_21 ?_
  exact fm_reti Z hr hlk F d_X0_drips_22 (Prod.mk.inj (Option.some.inj hf)).1 (Prod.mk.inj (Option.some.inj hf)).2
def v_drips (kap lam : Nat → Nat) (r0 : Nat) (a1 : Int32) (S : fm_M) : Option (Int32 × fm_M) :=
  if kap r0 = 0 then m_X0_drips kap lam r0 a1 S else
  if kap r0 = 2 then m_X3_drips kap lam r0 a1 S else
  if kap r0 = 3 then m_X3_drips kap lam r0 a1 S else
  if kap r0 = 4 then m_X5_drips kap lam r0 a1 S else
  if kap r0 = 5 then m_X5_drips kap lam r0 a1 S else
  if kap r0 = 7 then m_X5_drips kap lam r0 a1 S else
  if kap r0 = 9 then m_X5_drips kap lam r0 a1 S else
  none
theorem d_X5_creaks_0 : decode prog_7_method_4_code 0 = .ok (.aload_n 0, 1) := by decide +kernel
theorem d_X5_creaks_1 : decode prog_7_method_4_code 1 = .ok (.getfield 38, 3) := by decide +kernel
theorem d_X5_creaks_4 : decode prog_7_method_4_code 4 = .ok (.iconst 2, 1) := by decide +kernel
theorem d_X5_creaks_5 : decode prog_7_method_4_code 5 = .ok (.iconst 0, 1) := by decide +kernel
theorem d_X5_creaks_6 : decode prog_7_method_4_code 6 = .ok (.iconst 0, 1) := by decide +kernel
theorem d_X5_creaks_7 : decode prog_7_method_4_code 7 = .ok (.invokevirtual 48, 3) := by decide +kernel
theorem d_X5_creaks_10 : decode prog_7_method_4_code 10 = .ok (.pop, 1) := by decide +kernel
theorem d_X5_creaks_11 : decode prog_7_method_4_code 11 = .ok (.aload_n 0, 1) := by decide +kernel
theorem d_X5_creaks_12 : decode prog_7_method_4_code 12 = .ok (.iload_n 1, 1) := by decide +kernel
theorem d_X5_creaks_13 : decode prog_7_method_4_code 13 = .ok (.invokevirtual 54, 3) := by decide +kernel
theorem d_X5_creaks_16 : decode prog_7_method_4_code 16 = .ok (.aload_n 0, 1) := by decide +kernel
theorem d_X5_creaks_17 : decode prog_7_method_4_code 17 = .ok (.getfield 32, 3) := by decide +kernel
theorem d_X5_creaks_20 : decode prog_7_method_4_code 20 = .ok (.isub, 1) := by decide +kernel
theorem d_X5_creaks_21 : decode prog_7_method_4_code 21 = .ok (.ireturn, 1) := by decide +kernel
def m_X5_creaks (kap lam : Nat → Nat) (r0 : Nat) (a1 : Int32) (S : fm_M) : Option (Int32 × fm_M) :=
  fm_gr kap 5 r0 9 S fun q1 =>
  fm_ck (kap q1 == 8) <|
  fm_bi (m_X8_add kap lam q1 2 0 0 S) fun x7 S7 =>
  fm_bi (v_drips kap lam r0 a1 S7) fun x13 S13 =>
  fm_gi kap 5 r0 2 S13 fun x17 =>
  some (x13 - x17, S13)
set_option maxHeartbeats 4000000 in
set_option maxRecDepth 100000 in
theorem c_X5_creaks {l : Launch} {D : va_G} {ids kap lam : Nat → Nat} {RL : List Nat} {ad sk sv : Nat → Nat} {S : fm_M} {r0 : Nat} {a1 : Int32} {r : Int32} {u : fm_M} (hE : fm_E kap RL ad) (hf : m_X5_creaks kap lam r0 a1 S = some (r, u)) (sz : Nat) : fm_MI l y_X5_creaks prog_7_method_4_code 2 (Option.some Jvm.ClassFile.FieldType.int) 3 D ids kap lam RL ad sk sv S [.ref (ad r0), .int a1] sz r u := by
  refine fm_open rfl hE (Nat.le_of_ble_eq_true rfl) (fun p e s m args below meth c ls Z hr hlk G F N hl hsz => ?_)
  subst hsz
  obtain ⟨hx, hb, hml, hown, hts⟩ := id Z
  have hl : lv_has ls 2 [(0, .ref (ad r0)), (1, .int a1)] := hl
  unfold m_X5_creaks at hf
  refine lv_aload_n hx hb d_X5_creaks_0 rfl (lv_at hl 0 rfl) ?_
  refine fm_rgr Z G F hf fr_X5_38 d_X5_creaks_1 (fun q1 _ hf => ?_)
  refine lv_iconst (v := 2) hx hb d_X5_creaks_4 (by decide) ?_
  refine lv_iconst (v := 0) hx hb d_X5_creaks_5 (by decide) ?_
  refine lv_iconst (v := 0) hx hb d_X5_creaks_6 (by decide) ?_
  obtain ⟨hk7, hf⟩ := fm_some hf
  refine fm_rci G F hf (fun r u ho => fm_runV (k := 3) Z G F N (As := [.int 2, .int 0, .int 0]) (rest := []) (c_X8_add hE ho _) (by rw [eq_of_beq hk7]; decide) (by rw [eq_of_beq hk7]; rfl) kw_814 kw_190 kw_191 kw_3 kw_192 yd_X8_add rfl (by decide) (by decide) hl.1 (Nat.le_of_ble_eq_true rfl) d_X5_creaks_7 (Nat.le_refl 0) (Nat.le_refl 0)) (fun x7 S7 H locs _ F hf => ?_)
  refine lv_pop hx hb d_X5_creaks_10 rfl ?_
  refine lv_aload_n hx hb d_X5_creaks_11 rfl (lv_at hl 0 rfl) ?_
  refine lv_iload_n hx hb d_X5_creaks_12 rfl (lv_at hl 1 rfl) ?_
  refine fm_rci (rest := []) (a := (Value.ref (ad r0) :: [.int a1]).toArray) G F hf (fun r u ho => ?_) (fun x13 S13 H locs _ F hf => ?_)
  · unfold v_drips at ho
    by_cases hv13_0 : kap r0 = 0
    · rw [if_pos hv13_0] at ho
      exact fm_runU (k := 1) Z G F N (As := [.int a1]) (rest := []) (x := (⟨"FrostBids$Pane", "drips", "(I)I"⟩ : MethodName)) (C := "FrostBids$Church") (owner := "FrostBids$Pane") (c_X0_drips hE ho _) (by rw [hv13_0]; decide) (by rw [hv13_0]; rfl) kw_836 kw_796 kw_794 kw_813 kw_797 kw_798 kw_16 kw_799 ⟨by decide +kernel, by decide +kernel, by decide +kernel⟩ rfl (by decide) (by decide) hl.1 (Nat.le_of_ble_eq_true rfl) d_X5_creaks_13 (Nat.le_refl 0) (Nat.le_refl 0)
    rw [if_neg hv13_0] at ho
    by_cases hv13_2 : kap r0 = 2
    · rw [if_pos hv13_2] at ho
      exact fm_runU (k := 1) Z G F N (As := [.int a1]) (rest := []) (x := (⟨"FrostBids$Pane", "drips", "(I)I"⟩ : MethodName)) (C := "FrostBids$Jail") (owner := "FrostBids$Pane") (c_X3_drips hE ho _) (by rw [hv13_2]; decide) (by rw [hv13_2]; rfl) kw_836 kw_796 kw_794 kw_813 kw_804 kw_805 kw_12 kw_806 ⟨by decide +kernel, by decide +kernel, by decide +kernel⟩ rfl (by decide) (by decide) hl.1 (Nat.le_of_ble_eq_true rfl) d_X5_creaks_13 (Nat.le_refl 0) (Nat.le_refl 0)
    rw [if_neg hv13_2] at ho
    by_cases hv13_3 : kap r0 = 3
    · rw [if_pos hv13_3] at ho
      exact fm_runU (k := 1) Z G F N (As := [.int a1]) (rest := []) (x := (⟨"FrostBids$Pane", "drips", "(I)I"⟩ : MethodName)) (C := "FrostBids$Kitchen") (owner := "FrostBids$Pane") (c_X3_drips hE ho _) (by rw [hv13_3]; decide) (by rw [hv13_3]; rfl) kw_836 kw_796 kw_794 kw_813 kw_809 kw_805 kw_12 kw_806 ⟨by decide +kernel, by decide +kernel, by decide +kernel⟩ rfl (by decide) (by decide) hl.1 (Nat.le_of_ble_eq_true rfl) d_X5_creaks_13 (Nat.le_refl 0) (Nat.le_refl 0)
    rw [if_neg hv13_3] at ho
    by_cases hv13_4 : kap r0 = 4
    · rw [if_pos hv13_4] at ho
      exact fm_runU (k := 1) Z G F N (As := [.int a1]) (rest := []) (x := (⟨"FrostBids$Pane", "drips", "(I)I"⟩ : MethodName)) (C := "FrostBids$Nursery") (owner := "FrostBids$Pane") (c_X5_drips hE ho _) (by rw [hv13_4]; decide) (by rw [hv13_4]; rfl) kw_836 kw_796 kw_794 kw_813 kw_810 kw_794 kw_11 kw_813 ⟨by decide +kernel, by decide +kernel, by decide +kernel⟩ rfl (by decide) (by decide) hl.1 (Nat.le_of_ble_eq_true rfl) d_X5_creaks_13 (Nat.le_refl 0) (Nat.le_refl 0)
    rw [if_neg hv13_4] at ho
    by_cases hv13_5 : kap r0 = 5
    · rw [if_pos hv13_5] at ho
      exact fm_runU (k := 1) Z G F N (As := [.int a1]) (rest := []) (x := (⟨"FrostBids$Pane", "drips", "(I)I"⟩ : MethodName)) (C := "FrostBids$Pane") (owner := "FrostBids$Pane") (c_X5_drips hE ho _) (by rw [hv13_5]; decide) (by rw [hv13_5]; rfl) kw_836 kw_796 kw_794 kw_813 kw_795 kw_794 kw_11 kw_813 ⟨by decide +kernel, by decide +kernel, by decide +kernel⟩ rfl (by decide) (by decide) hl.1 (Nat.le_of_ble_eq_true rfl) d_X5_creaks_13 (Nat.le_refl 0) (Nat.le_refl 0)
    rw [if_neg hv13_5] at ho
    by_cases hv13_7 : kap r0 = 7
    · rw [if_pos hv13_7] at ho
      exact fm_runU (k := 1) Z G F N (As := [.int a1]) (rest := []) (x := (⟨"FrostBids$Pane", "drips", "(I)I"⟩ : MethodName)) (C := "FrostBids$Rectory") (owner := "FrostBids$Pane") (c_X5_drips hE ho _) (by rw [hv13_7]; decide) (by rw [hv13_7]; rfl) kw_836 kw_796 kw_794 kw_813 kw_811 kw_794 kw_11 kw_813 ⟨by decide +kernel, by decide +kernel, by decide +kernel⟩ rfl (by decide) (by decide) hl.1 (Nat.le_of_ble_eq_true rfl) d_X5_creaks_13 (Nat.le_refl 0) (Nat.le_refl 0)
    rw [if_neg hv13_7] at ho
    by_cases hv13_9 : kap r0 = 9
    · rw [if_pos hv13_9] at ho
      exact fm_runU (k := 1) Z G F N (As := [.int a1]) (rest := []) (x := (⟨"FrostBids$Pane", "drips", "(I)I"⟩ : MethodName)) (C := "FrostBids$Told") (owner := "FrostBids$Pane") (c_X5_drips hE ho _) (by rw [hv13_9]; decide) (by rw [hv13_9]; rfl) kw_836 kw_796 kw_794 kw_813 kw_812 kw_794 kw_11 kw_813 ⟨by decide +kernel, by decide +kernel, by decide +kernel⟩ rfl (by decide) (by decide) hl.1 (Nat.le_of_ble_eq_true rfl) d_X5_creaks_13 (Nat.le_refl 0) (Nat.le_refl 0)
    rw [if_neg hv13_9] at ho
    cases ho
  refine lv_aload_n hx hb d_X5_creaks_16 rfl (lv_at hl 0 rfl) ?_
  refine fm_rgi Z G F hf fr_X5_32 d_X5_creaks_17 (fun x17 _ hf => ?_)
  refine lv_isub hx hb d_X5_creaks_20 ?_
  exact fm_reti Z hr hlk F d_X5_creaks_21 (Prod.mk.inj (Option.some.inj hf)).1 (Prod.mk.inj (Option.some.inj hf)).2
theorem d_X4_creaks_0 : decode prog_6_method_3_code 0 = .ok (.aload_n 0, 1) := by decide +kernel
theorem d_X4_creaks_1 : decode prog_6_method_3_code 1 = .ok (.getfield 11, 3) := by decide +kernel
theorem d_X4_creaks_4 : decode prog_6_method_3_code 4 = .ok (.bipush 21, 2) := by decide +kernel
theorem d_X4_creaks_6 : decode prog_6_method_3_code 6 = .ok (.iconst 0, 1) := by decide +kernel
theorem d_X4_creaks_7 : decode prog_6_method_3_code 7 = .ok (.iconst 0, 1) := by decide +kernel
theorem d_X4_creaks_8 : decode prog_6_method_3_code 8 = .ok (.invokevirtual 17, 3) := by decide +kernel
theorem d_X4_creaks_11 : decode prog_6_method_3_code 11 = .ok (.pop, 1) := by decide +kernel
theorem d_X4_creaks_12 : decode prog_6_method_3_code 12 = .ok (.aload_n 0, 1) := by decide +kernel
theorem d_X4_creaks_13 : decode prog_6_method_3_code 13 = .ok (.iload_n 1, 1) := by decide +kernel
theorem d_X4_creaks_14 : decode prog_6_method_3_code 14 = .ok (.invokespecial 23, 3) := by decide +kernel
theorem d_X4_creaks_17 : decode prog_6_method_3_code 17 = .ok (.ineg, 1) := by decide +kernel
theorem d_X4_creaks_18 : decode prog_6_method_3_code 18 = .ok (.ireturn, 1) := by decide +kernel
def m_X4_creaks (kap lam : Nat → Nat) (r0 : Nat) (a1 : Int32) (S : fm_M) : Option (Int32 × fm_M) :=
  fm_gr kap 4 r0 9 S fun q1 =>
  fm_ck (kap q1 == 8) <|
  fm_bi (m_X8_add kap lam q1 21 0 0 S) fun x8 S8 =>
  fm_ck (fm_isC (kap r0) 4) <|
  fm_bi (m_X5_creaks kap lam r0 a1 S8) fun x14 S14 =>
  some (-x14, S14)
set_option maxHeartbeats 4000000 in
set_option maxRecDepth 100000 in
theorem c_X4_creaks {l : Launch} {D : va_G} {ids kap lam : Nat → Nat} {RL : List Nat} {ad sk sv : Nat → Nat} {S : fm_M} {r0 : Nat} {a1 : Int32} {r : Int32} {u : fm_M} (hE : fm_E kap RL ad) (hf : m_X4_creaks kap lam r0 a1 S = some (r, u)) (sz : Nat) : fm_MI l y_X4_creaks prog_6_method_3_code 2 (Option.some Jvm.ClassFile.FieldType.int) 4 D ids kap lam RL ad sk sv S [.ref (ad r0), .int a1] sz r u := by
  refine fm_open rfl hE (Nat.le_of_ble_eq_true rfl) (fun p e s m args below meth c ls Z hr hlk G F N hl hsz => ?_)
  subst hsz
  obtain ⟨hx, hb, hml, hown, hts⟩ := id Z
  have hl : lv_has ls 2 [(0, .ref (ad r0)), (1, .int a1)] := hl
  unfold m_X4_creaks at hf
  refine lv_aload_n hx hb d_X4_creaks_0 rfl (lv_at hl 0 rfl) ?_
  refine fm_rgr Z G F hf fr_X4_11 d_X4_creaks_1 (fun q1 _ hf => ?_)
  refine lv_bipush (v := 21) hx hb d_X4_creaks_4 (by decide) ?_
  refine lv_iconst (v := 0) hx hb d_X4_creaks_6 (by decide) ?_
  refine lv_iconst (v := 0) hx hb d_X4_creaks_7 (by decide) ?_
  obtain ⟨hk8, hf⟩ := fm_some hf
  refine fm_rci G F hf (fun r u ho => fm_runV (k := 3) Z G F N (As := [.int 21, .int 0, .int 0]) (rest := []) (c_X8_add hE ho _) (by rw [eq_of_beq hk8]; decide) (by rw [eq_of_beq hk8]; rfl) kw_822 kw_190 kw_191 kw_3 kw_192 yd_X8_add rfl (by decide) (by decide) hl.1 (Nat.le_of_ble_eq_true rfl) d_X4_creaks_8 (Nat.le_refl 0) (Nat.le_refl 0)) (fun x8 S8 H locs _ F hf => ?_)
  refine lv_pop hx hb d_X4_creaks_11 rfl ?_
  refine lv_aload_n hx hb d_X4_creaks_12 rfl (lv_at hl 0 rfl) ?_
  refine lv_iload_n hx hb d_X4_creaks_13 rfl (lv_at hl 1 rfl) ?_
  obtain ⟨hk14, hf⟩ := fm_some hf
  refine fm_rci G F hf (fun r u ho => fm_runSU (k := 1) Z G F N (As := [.int a1]) (rest := []) (c_X5_creaks hE ho _) (fm_lt13 (by decide) hk14) kw_823 kw_816 kw_818 kw_411 kw_11 kw_835 ⟨by decide +kernel, yd_X5_creaks.2.2⟩ rfl (by decide) (by decide) hl.1 (Nat.le_of_ble_eq_true rfl) d_X4_creaks_14 (Nat.le_refl 0) (Nat.le_refl 0)) (fun x14 S14 H locs _ F hf => ?_)
  refine lv_ineg hx hb d_X4_creaks_17 ?_
  exact fm_reti Z hr hlk F d_X4_creaks_18 (Prod.mk.inj (Option.some.inj hf)).1 (Prod.mk.inj (Option.some.inj hf)).2
theorem d_X9_creaks_0 : decode prog_11_method_4_code 0 = .ok (.aload_n 0, 1) := by decide +kernel
theorem d_X9_creaks_1 : decode prog_11_method_4_code 1 = .ok (.getfield 20, 3) := by decide +kernel
theorem d_X9_creaks_4 : decode prog_11_method_4_code 4 = .ok (.bipush 61, 2) := by decide +kernel
theorem d_X9_creaks_6 : decode prog_11_method_4_code 6 = .ok (.iconst 0, 1) := by decide +kernel
theorem d_X9_creaks_7 : decode prog_11_method_4_code 7 = .ok (.iconst 0, 1) := by decide +kernel
theorem d_X9_creaks_8 : decode prog_11_method_4_code 8 = .ok (.invokevirtual 24, 3) := by decide +kernel
theorem d_X9_creaks_11 : decode prog_11_method_4_code 11 = .ok (.pop, 1) := by decide +kernel
theorem d_X9_creaks_12 : decode prog_11_method_4_code 12 = .ok (.aload_n 0, 1) := by decide +kernel
theorem d_X9_creaks_13 : decode prog_11_method_4_code 13 = .ok (.iload_n 1, 1) := by decide +kernel
theorem d_X9_creaks_14 : decode prog_11_method_4_code 14 = .ok (.invokespecial 30, 3) := by decide +kernel
theorem d_X9_creaks_17 : decode prog_11_method_4_code 17 = .ok (.aload_n 0, 1) := by decide +kernel
theorem d_X9_creaks_18 : decode prog_11_method_4_code 18 = .ok (.getfield 34, 3) := by decide +kernel
theorem d_X9_creaks_21 : decode prog_11_method_4_code 21 = .ok (.iadd, 1) := by decide +kernel
theorem d_X9_creaks_22 : decode prog_11_method_4_code 22 = .ok (.ireturn, 1) := by decide +kernel
def m_X9_creaks (kap lam : Nat → Nat) (r0 : Nat) (a1 : Int32) (S : fm_M) : Option (Int32 × fm_M) :=
  fm_gr kap 9 r0 9 S fun q1 =>
  fm_ck (kap q1 == 8) <|
  fm_bi (m_X8_add kap lam q1 61 0 0 S) fun x8 S8 =>
  fm_ck (fm_isC (kap r0) 9) <|
  fm_bi (m_X5_creaks kap lam r0 a1 S8) fun x14 S14 =>
  fm_gi kap 9 r0 2 S14 fun x18 =>
  some (x14 + x18, S14)
set_option maxHeartbeats 4000000 in
set_option maxRecDepth 100000 in
theorem c_X9_creaks {l : Launch} {D : va_G} {ids kap lam : Nat → Nat} {RL : List Nat} {ad sk sv : Nat → Nat} {S : fm_M} {r0 : Nat} {a1 : Int32} {r : Int32} {u : fm_M} (hE : fm_E kap RL ad) (hf : m_X9_creaks kap lam r0 a1 S = some (r, u)) (sz : Nat) : fm_MI l y_X9_creaks prog_11_method_4_code 2 (Option.some Jvm.ClassFile.FieldType.int) 4 D ids kap lam RL ad sk sv S [.ref (ad r0), .int a1] sz r u := by
  refine fm_open rfl hE (Nat.le_of_ble_eq_true rfl) (fun p e s m args below meth c ls Z hr hlk G F N hl hsz => ?_)
  subst hsz
  obtain ⟨hx, hb, hml, hown, hts⟩ := id Z
  have hl : lv_has ls 2 [(0, .ref (ad r0)), (1, .int a1)] := hl
  unfold m_X9_creaks at hf
  refine lv_aload_n hx hb d_X9_creaks_0 rfl (lv_at hl 0 rfl) ?_
  refine fm_rgr Z G F hf fr_X9_20 d_X9_creaks_1 (fun q1 _ hf => ?_)
  refine lv_bipush (v := 61) hx hb d_X9_creaks_4 (by decide) ?_
  refine lv_iconst (v := 0) hx hb d_X9_creaks_6 (by decide) ?_
  refine lv_iconst (v := 0) hx hb d_X9_creaks_7 (by decide) ?_
  obtain ⟨hk8, hf⟩ := fm_some hf
  refine fm_rci G F hf (fun r u ho => fm_runV (k := 3) Z G F N (As := [.int 61, .int 0, .int 0]) (rest := []) (c_X8_add hE ho _) (by rw [eq_of_beq hk8]; decide) (by rw [eq_of_beq hk8]; rfl) kw_831 kw_190 kw_191 kw_3 kw_192 yd_X8_add rfl (by decide) (by decide) hl.1 (Nat.le_of_ble_eq_true rfl) d_X9_creaks_8 (Nat.le_refl 0) (Nat.le_refl 0)) (fun x8 S8 H locs _ F hf => ?_)
  refine lv_pop hx hb d_X9_creaks_11 rfl ?_
  refine lv_aload_n hx hb d_X9_creaks_12 rfl (lv_at hl 0 rfl) ?_
  refine lv_iload_n hx hb d_X9_creaks_13 rfl (lv_at hl 1 rfl) ?_
  obtain ⟨hk14, hf⟩ := fm_some hf
  refine fm_rci G F hf (fun r u ho => fm_runSI (k := 1) Z G F N (As := [.int a1]) (rest := []) (x := (⟨"FrostBids$Rectory", "creaks", "(I)I"⟩ : MethodName)) (c_X5_creaks hE ho _) (fm_lt13 (by decide) hk14) rfl kw_832 kw_816 kw_833 kw_485 kw_428 kw_11 kw_835 ⟨by decide +kernel, yd_X5_creaks.2.2⟩ rfl (by decide) (by decide) hl.1 (Nat.le_of_ble_eq_true rfl) d_X9_creaks_14 (Nat.le_refl 0) (Nat.le_refl 0)) (fun x14 S14 H locs _ F hf => ?_)
  refine lv_aload_n hx hb d_X9_creaks_17 rfl (lv_at hl 0 rfl) ?_
  refine fm_rgi Z G F hf fr_X9_34 d_X9_creaks_18 (fun x18 _ hf => ?_)
  refine lv_iadd hx hb d_X9_creaks_21 ?_
  exact fm_reti Z hr hlk F d_X9_creaks_22 (Prod.mk.inj (Option.some.inj hf)).1 (Prod.mk.inj (Option.some.inj hf)).2
def v_creaks (kap lam : Nat → Nat) (r0 : Nat) (a1 : Int32) (S : fm_M) : Option (Int32 × fm_M) :=
  if kap r0 = 0 then m_X4_creaks kap lam r0 a1 S else
  if kap r0 = 2 then m_X5_creaks kap lam r0 a1 S else
  if kap r0 = 3 then m_X5_creaks kap lam r0 a1 S else
  if kap r0 = 4 then m_X4_creaks kap lam r0 a1 S else
  if kap r0 = 5 then m_X5_creaks kap lam r0 a1 S else
  if kap r0 = 7 then m_X5_creaks kap lam r0 a1 S else
  if kap r0 = 9 then m_X9_creaks kap lam r0 a1 S else
  none
theorem d_X5_shines_0 : decode prog_7_method_5_code 0 = .ok (.aload_n 0, 1) := by decide +kernel
theorem d_X5_shines_1 : decode prog_7_method_5_code 1 = .ok (.getfield 38, 3) := by decide +kernel
theorem d_X5_shines_4 : decode prog_7_method_5_code 4 = .ok (.iconst 3, 1) := by decide +kernel
theorem d_X5_shines_5 : decode prog_7_method_5_code 5 = .ok (.iconst 0, 1) := by decide +kernel
theorem d_X5_shines_6 : decode prog_7_method_5_code 6 = .ok (.iconst 0, 1) := by decide +kernel
theorem d_X5_shines_7 : decode prog_7_method_5_code 7 = .ok (.invokevirtual 48, 3) := by decide +kernel
theorem d_X5_shines_10 : decode prog_7_method_5_code 10 = .ok (.pop, 1) := by decide +kernel
theorem d_X5_shines_11 : decode prog_7_method_5_code 11 = .ok (.aload_n 0, 1) := by decide +kernel
theorem d_X5_shines_12 : decode prog_7_method_5_code 12 = .ok (.iload_n 1, 1) := by decide +kernel
theorem d_X5_shines_13 : decode prog_7_method_5_code 13 = .ok (.invokevirtual 58, 3) := by decide +kernel
theorem d_X5_shines_16 : decode prog_7_method_5_code 16 = .ok (.iconst 2, 1) := by decide +kernel
theorem d_X5_shines_17 : decode prog_7_method_5_code 17 = .ok (.imul, 1) := by decide +kernel
theorem d_X5_shines_18 : decode prog_7_method_5_code 18 = .ok (.ireturn, 1) := by decide +kernel
def m_X5_shines (kap lam : Nat → Nat) (r0 : Nat) (a1 : Int32) (S : fm_M) : Option (Int32 × fm_M) :=
  fm_gr kap 5 r0 9 S fun q1 =>
  fm_ck (kap q1 == 8) <|
  fm_bi (m_X8_add kap lam q1 3 0 0 S) fun x7 S7 =>
  fm_bi (v_creaks kap lam r0 a1 S7) fun x13 S13 =>
  some (x13 * 2, S13)
set_option maxHeartbeats 4000000 in
set_option maxRecDepth 100000 in
theorem c_X5_shines {l : Launch} {D : va_G} {ids kap lam : Nat → Nat} {RL : List Nat} {ad sk sv : Nat → Nat} {S : fm_M} {r0 : Nat} {a1 : Int32} {r : Int32} {u : fm_M} (hE : fm_E kap RL ad) (hf : m_X5_shines kap lam r0 a1 S = some (r, u)) (sz : Nat) : fm_MI l y_X5_shines prog_7_method_5_code 2 (Option.some Jvm.ClassFile.FieldType.int) 5 D ids kap lam RL ad sk sv S [.ref (ad r0), .int a1] sz r u := by
  refine fm_open rfl hE (Nat.le_of_ble_eq_true rfl) (fun p e s m args below meth c ls Z hr hlk G F N hl hsz => ?_)
  subst hsz
  obtain ⟨hx, hb, hml, hown, hts⟩ := id Z
  have hl : lv_has ls 2 [(0, .ref (ad r0)), (1, .int a1)] := hl
  unfold m_X5_shines at hf
  refine lv_aload_n hx hb d_X5_shines_0 rfl (lv_at hl 0 rfl) ?_
  refine fm_rgr Z G F hf fr_X5_38 d_X5_shines_1 (fun q1 _ hf => ?_)
  refine lv_iconst (v := 3) hx hb d_X5_shines_4 (by decide) ?_
  refine lv_iconst (v := 0) hx hb d_X5_shines_5 (by decide) ?_
  refine lv_iconst (v := 0) hx hb d_X5_shines_6 (by decide) ?_
  obtain ⟨hk7, hf⟩ := fm_some hf
  refine fm_rci G F hf (fun r u ho => fm_runV (k := 3) Z G F N (As := [.int 3, .int 0, .int 0]) (rest := []) (c_X8_add hE ho _) (by rw [eq_of_beq hk7]; decide) (by rw [eq_of_beq hk7]; rfl) kw_814 kw_190 kw_191 kw_3 kw_192 yd_X8_add rfl (by decide) (by decide) hl.1 (Nat.le_of_ble_eq_true rfl) d_X5_shines_7 (Nat.le_refl 0) (Nat.le_refl 0)) (fun x7 S7 H locs _ F hf => ?_)
  refine lv_pop hx hb d_X5_shines_10 rfl ?_
  refine lv_aload_n hx hb d_X5_shines_11 rfl (lv_at hl 0 rfl) ?_
  refine lv_iload_n hx hb d_X5_shines_12 rfl (lv_at hl 1 rfl) ?_
  refine fm_rci (rest := []) (a := (Value.ref (ad r0) :: [.int a1]).toArray) G F hf (fun r u ho => ?_) (fun x13 S13 H locs _ F hf => ?_)
  · unfold v_creaks at ho
    by_cases hv13_0 : kap r0 = 0
    · rw [if_pos hv13_0] at ho
      exact fm_runU (k := 1) Z G F N (As := [.int a1]) (rest := []) (x := (⟨"FrostBids$Pane", "creaks", "(I)I"⟩ : MethodName)) (C := "FrostBids$Church") (owner := "FrostBids$Pane") (c_X4_creaks hE ho _) (by rw [hv13_0]; decide) (by rw [hv13_0]; rfl) kw_862 kw_818 kw_816 kw_835 kw_819 kw_820 kw_13 kw_821 ⟨by decide +kernel, by decide +kernel, by decide +kernel⟩ rfl (by decide) (by decide) hl.1 (Nat.le_of_ble_eq_true rfl) d_X5_shines_13 (Nat.le_refl 0) (Nat.le_refl 0)
    rw [if_neg hv13_0] at ho
    by_cases hv13_2 : kap r0 = 2
    · rw [if_pos hv13_2] at ho
      exact fm_runU (k := 1) Z G F N (As := [.int a1]) (rest := []) (x := (⟨"FrostBids$Pane", "creaks", "(I)I"⟩ : MethodName)) (C := "FrostBids$Jail") (owner := "FrostBids$Pane") (c_X5_creaks hE ho _) (by rw [hv13_2]; decide) (by rw [hv13_2]; rfl) kw_862 kw_818 kw_816 kw_835 kw_824 kw_816 kw_11 kw_835 ⟨by decide +kernel, by decide +kernel, by decide +kernel⟩ rfl (by decide) (by decide) hl.1 (Nat.le_of_ble_eq_true rfl) d_X5_shines_13 (Nat.le_refl 0) (Nat.le_refl 0)
    rw [if_neg hv13_2] at ho
    by_cases hv13_3 : kap r0 = 3
    · rw [if_pos hv13_3] at ho
      exact fm_runU (k := 1) Z G F N (As := [.int a1]) (rest := []) (x := (⟨"FrostBids$Pane", "creaks", "(I)I"⟩ : MethodName)) (C := "FrostBids$Kitchen") (owner := "FrostBids$Pane") (c_X5_creaks hE ho _) (by rw [hv13_3]; decide) (by rw [hv13_3]; rfl) kw_862 kw_818 kw_816 kw_835 kw_825 kw_816 kw_11 kw_835 ⟨by decide +kernel, by decide +kernel, by decide +kernel⟩ rfl (by decide) (by decide) hl.1 (Nat.le_of_ble_eq_true rfl) d_X5_shines_13 (Nat.le_refl 0) (Nat.le_refl 0)
    rw [if_neg hv13_3] at ho
    by_cases hv13_4 : kap r0 = 4
    · rw [if_pos hv13_4] at ho
      exact fm_runU (k := 1) Z G F N (As := [.int a1]) (rest := []) (x := (⟨"FrostBids$Pane", "creaks", "(I)I"⟩ : MethodName)) (C := "FrostBids$Nursery") (owner := "FrostBids$Pane") (c_X4_creaks hE ho _) (by rw [hv13_4]; decide) (by rw [hv13_4]; rfl) kw_862 kw_818 kw_816 kw_835 kw_826 kw_820 kw_13 kw_821 ⟨by decide +kernel, by decide +kernel, by decide +kernel⟩ rfl (by decide) (by decide) hl.1 (Nat.le_of_ble_eq_true rfl) d_X5_shines_13 (Nat.le_refl 0) (Nat.le_refl 0)
    rw [if_neg hv13_4] at ho
    by_cases hv13_5 : kap r0 = 5
    · rw [if_pos hv13_5] at ho
      exact fm_runU (k := 1) Z G F N (As := [.int a1]) (rest := []) (x := (⟨"FrostBids$Pane", "creaks", "(I)I"⟩ : MethodName)) (C := "FrostBids$Pane") (owner := "FrostBids$Pane") (c_X5_creaks hE ho _) (by rw [hv13_5]; decide) (by rw [hv13_5]; rfl) kw_862 kw_818 kw_816 kw_835 kw_817 kw_816 kw_11 kw_835 ⟨by decide +kernel, by decide +kernel, by decide +kernel⟩ rfl (by decide) (by decide) hl.1 (Nat.le_of_ble_eq_true rfl) d_X5_shines_13 (Nat.le_refl 0) (Nat.le_refl 0)
    rw [if_neg hv13_5] at ho
    by_cases hv13_7 : kap r0 = 7
    · rw [if_pos hv13_7] at ho
      exact fm_runU (k := 1) Z G F N (As := [.int a1]) (rest := []) (x := (⟨"FrostBids$Pane", "creaks", "(I)I"⟩ : MethodName)) (C := "FrostBids$Rectory") (owner := "FrostBids$Pane") (c_X5_creaks hE ho _) (by rw [hv13_7]; decide) (by rw [hv13_7]; rfl) kw_862 kw_818 kw_816 kw_835 kw_827 kw_816 kw_11 kw_835 ⟨by decide +kernel, by decide +kernel, by decide +kernel⟩ rfl (by decide) (by decide) hl.1 (Nat.le_of_ble_eq_true rfl) d_X5_shines_13 (Nat.le_refl 0) (Nat.le_refl 0)
    rw [if_neg hv13_7] at ho
    by_cases hv13_9 : kap r0 = 9
    · rw [if_pos hv13_9] at ho
      exact fm_runU (k := 1) Z G F N (As := [.int a1]) (rest := []) (x := (⟨"FrostBids$Pane", "creaks", "(I)I"⟩ : MethodName)) (C := "FrostBids$Told") (owner := "FrostBids$Pane") (c_X9_creaks hE ho _) (by rw [hv13_9]; decide) (by rw [hv13_9]; rfl) kw_862 kw_818 kw_816 kw_835 kw_828 kw_829 kw_17 kw_830 ⟨by decide +kernel, by decide +kernel, by decide +kernel⟩ rfl (by decide) (by decide) hl.1 (Nat.le_of_ble_eq_true rfl) d_X5_shines_13 (Nat.le_refl 0) (Nat.le_refl 0)
    rw [if_neg hv13_9] at ho
    cases ho
  refine lv_iconst (v := 2) hx hb d_X5_shines_16 (by decide) ?_
  refine lv_imul hx hb d_X5_shines_17 ?_
  exact fm_reti Z hr hlk F d_X5_shines_18 (Prod.mk.inj (Option.some.inj hf)).1 (Prod.mk.inj (Option.some.inj hf)).2
theorem d_X7_shines_0 : decode prog_9_method_3_code 0 = .ok (.aload_n 0, 1) := by decide +kernel
theorem d_X7_shines_1 : decode prog_9_method_3_code 1 = .ok (.getfield 17, 3) := by decide +kernel
theorem d_X7_shines_4 : decode prog_9_method_3_code 4 = .ok (.bipush 31, 2) := by decide +kernel
theorem d_X7_shines_6 : decode prog_9_method_3_code 6 = .ok (.iconst 0, 1) := by decide +kernel
theorem d_X7_shines_7 : decode prog_9_method_3_code 7 = .ok (.iconst 0, 1) := by decide +kernel
theorem d_X7_shines_8 : decode prog_9_method_3_code 8 = .ok (.invokevirtual 23, 3) := by decide +kernel
theorem d_X7_shines_11 : decode prog_9_method_3_code 11 = .ok (.pop, 1) := by decide +kernel
theorem d_X7_shines_12 : decode prog_9_method_3_code 12 = .ok (.aload_n 0, 1) := by decide +kernel
theorem d_X7_shines_13 : decode prog_9_method_3_code 13 = .ok (.iload_n 1, 1) := by decide +kernel
theorem d_X7_shines_14 : decode prog_9_method_3_code 14 = .ok (.invokespecial 29, 3) := by decide +kernel
theorem d_X7_shines_17 : decode prog_9_method_3_code 17 = .ok (.bipush 7, 2) := by decide +kernel
theorem d_X7_shines_19 : decode prog_9_method_3_code 19 = .ok (.ixor, 1) := by decide +kernel
theorem d_X7_shines_20 : decode prog_9_method_3_code 20 = .ok (.ireturn, 1) := by decide +kernel
def m_X7_shines (kap lam : Nat → Nat) (r0 : Nat) (a1 : Int32) (S : fm_M) : Option (Int32 × fm_M) :=
  fm_gr kap 7 r0 9 S fun q1 =>
  fm_ck (kap q1 == 8) <|
  fm_bi (m_X8_add kap lam q1 31 0 0 S) fun x8 S8 =>
  fm_ck (fm_isC (kap r0) 7) <|
  fm_bi (m_X5_shines kap lam r0 a1 S8) fun x14 S14 =>
  some (x14 ^^^ 7, S14)
set_option maxHeartbeats 4000000 in
set_option maxRecDepth 100000 in
theorem c_X7_shines {l : Launch} {D : va_G} {ids kap lam : Nat → Nat} {RL : List Nat} {ad sk sv : Nat → Nat} {S : fm_M} {r0 : Nat} {a1 : Int32} {r : Int32} {u : fm_M} (hE : fm_E kap RL ad) (hf : m_X7_shines kap lam r0 a1 S = some (r, u)) (sz : Nat) : fm_MI l y_X7_shines prog_9_method_3_code 2 (Option.some Jvm.ClassFile.FieldType.int) 6 D ids kap lam RL ad sk sv S [.ref (ad r0), .int a1] sz r u := by
  refine fm_open rfl hE (Nat.le_of_ble_eq_true rfl) (fun p e s m args below meth c ls Z hr hlk G F N hl hsz => ?_)
  subst hsz
  obtain ⟨hx, hb, hml, hown, hts⟩ := id Z
  have hl : lv_has ls 2 [(0, .ref (ad r0)), (1, .int a1)] := hl
  unfold m_X7_shines at hf
  refine lv_aload_n hx hb d_X7_shines_0 rfl (lv_at hl 0 rfl) ?_
  refine fm_rgr Z G F hf fr_X7_17 d_X7_shines_1 (fun q1 _ hf => ?_)
  refine lv_bipush (v := 31) hx hb d_X7_shines_4 (by decide) ?_
  refine lv_iconst (v := 0) hx hb d_X7_shines_6 (by decide) ?_
  refine lv_iconst (v := 0) hx hb d_X7_shines_7 (by decide) ?_
  obtain ⟨hk8, hf⟩ := fm_some hf
  refine fm_rci G F hf (fun r u ho => fm_runV (k := 3) Z G F N (As := [.int 31, .int 0, .int 0]) (rest := []) (c_X8_add hE ho _) (by rw [eq_of_beq hk8]; decide) (by rw [eq_of_beq hk8]; rfl) kw_858 kw_190 kw_191 kw_3 kw_192 yd_X8_add rfl (by decide) (by decide) hl.1 (Nat.le_of_ble_eq_true rfl) d_X7_shines_8 (Nat.le_refl 0) (Nat.le_refl 0)) (fun x8 S8 H locs _ F hf => ?_)
  refine lv_pop hx hb d_X7_shines_11 rfl ?_
  refine lv_aload_n hx hb d_X7_shines_12 rfl (lv_at hl 0 rfl) ?_
  refine lv_iload_n hx hb d_X7_shines_13 rfl (lv_at hl 1 rfl) ?_
  obtain ⟨hk14, hf⟩ := fm_some hf
  refine fm_rci G F hf (fun r u ho => fm_runSU (k := 1) Z G F N (As := [.int a1]) (rest := []) (c_X5_shines hE ho _) (fm_lt13 (by decide) hk14) kw_859 kw_838 kw_840 kw_428 kw_11 kw_861 ⟨by decide +kernel, yd_X5_shines.2.2⟩ rfl (by decide) (by decide) hl.1 (Nat.le_of_ble_eq_true rfl) d_X7_shines_14 (Nat.le_refl 0) (Nat.le_refl 0)) (fun x14 S14 H locs _ F hf => ?_)
  refine lv_bipush (v := 7) hx hb d_X7_shines_17 (by decide) ?_
  refine lv_ixor hx hb d_X7_shines_19 ?_
  exact fm_reti Z hr hlk F d_X7_shines_20 (Prod.mk.inj (Option.some.inj hf)).1 (Prod.mk.inj (Option.some.inj hf)).2
theorem d_X2_shines_0 : decode prog_4_method_3_code 0 = .ok (.aload_n 0, 1) := by decide +kernel
theorem d_X2_shines_1 : decode prog_4_method_3_code 1 = .ok (.getfield 11, 3) := by decide +kernel
theorem d_X2_shines_4 : decode prog_4_method_3_code 4 = .ok (.bipush 41, 2) := by decide +kernel
theorem d_X2_shines_6 : decode prog_4_method_3_code 6 = .ok (.iconst 0, 1) := by decide +kernel
theorem d_X2_shines_7 : decode prog_4_method_3_code 7 = .ok (.iconst 0, 1) := by decide +kernel
theorem d_X2_shines_8 : decode prog_4_method_3_code 8 = .ok (.invokevirtual 17, 3) := by decide +kernel
theorem d_X2_shines_11 : decode prog_4_method_3_code 11 = .ok (.pop, 1) := by decide +kernel
theorem d_X2_shines_12 : decode prog_4_method_3_code 12 = .ok (.aload_n 0, 1) := by decide +kernel
theorem d_X2_shines_13 : decode prog_4_method_3_code 13 = .ok (.iload_n 1, 1) := by decide +kernel
theorem d_X2_shines_14 : decode prog_4_method_3_code 14 = .ok (.iconst 1, 1) := by decide +kernel
theorem d_X2_shines_15 : decode prog_4_method_3_code 15 = .ok (.isub, 1) := by decide +kernel
theorem d_X2_shines_16 : decode prog_4_method_3_code 16 = .ok (.invokespecial 23, 3) := by decide +kernel
theorem d_X2_shines_19 : decode prog_4_method_3_code 19 = .ok (.aload_n 0, 1) := by decide +kernel
theorem d_X2_shines_20 : decode prog_4_method_3_code 20 = .ok (.iconst 2, 1) := by decide +kernel
theorem d_X2_shines_21 : decode prog_4_method_3_code 21 = .ok (.invokevirtual 27, 3) := by decide +kernel
theorem d_X2_shines_24 : decode prog_4_method_3_code 24 = .ok (.iadd, 1) := by decide +kernel
theorem d_X2_shines_25 : decode prog_4_method_3_code 25 = .ok (.ireturn, 1) := by decide +kernel
def m_X2_shines (kap lam : Nat → Nat) (r0 : Nat) (a1 : Int32) (S : fm_M) : Option (Int32 × fm_M) :=
  fm_gr kap 2 r0 9 S fun q1 =>
  fm_ck (kap q1 == 8) <|
  fm_bi (m_X8_add kap lam q1 41 0 0 S) fun x8 S8 =>
  fm_ck (fm_isC (kap r0) 2) <|
  fm_bi (m_X5_shines kap lam r0 (a1 - 1) S8) fun x16 S16 =>
  fm_ck (fm_isC (kap r0) 2) <|
  fm_bi (v_drips kap lam r0 2 S16) fun x21 S21 =>
  some (x16 + x21, S21)
set_option maxHeartbeats 4000000 in
set_option maxRecDepth 100000 in
theorem c_X2_shines {l : Launch} {D : va_G} {ids kap lam : Nat → Nat} {RL : List Nat} {ad sk sv : Nat → Nat} {S : fm_M} {r0 : Nat} {a1 : Int32} {r : Int32} {u : fm_M} (hE : fm_E kap RL ad) (hf : m_X2_shines kap lam r0 a1 S = some (r, u)) (sz : Nat) : fm_MI l y_X2_shines prog_4_method_3_code 2 (Option.some Jvm.ClassFile.FieldType.int) 6 D ids kap lam RL ad sk sv S [.ref (ad r0), .int a1] sz r u := by
  refine fm_open rfl hE (Nat.le_of_ble_eq_true rfl) (fun p e s m args below meth c ls Z hr hlk G F N hl hsz => ?_)
  subst hsz
  obtain ⟨hx, hb, hml, hown, hts⟩ := id Z
  have hl : lv_has ls 2 [(0, .ref (ad r0)), (1, .int a1)] := hl
  unfold m_X2_shines at hf
  refine lv_aload_n hx hb d_X2_shines_0 rfl (lv_at hl 0 rfl) ?_
  refine fm_rgr Z G F hf fr_X2_11 d_X2_shines_1 (fun q1 _ hf => ?_)
  refine lv_bipush (v := 41) hx hb d_X2_shines_4 (by decide) ?_
  refine lv_iconst (v := 0) hx hb d_X2_shines_6 (by decide) ?_
  refine lv_iconst (v := 0) hx hb d_X2_shines_7 (by decide) ?_
  obtain ⟨hk8, hf⟩ := fm_some hf
  refine fm_rci G F hf (fun r u ho => fm_runV (k := 3) Z G F N (As := [.int 41, .int 0, .int 0]) (rest := []) (c_X8_add hE ho _) (by rw [eq_of_beq hk8]; decide) (by rw [eq_of_beq hk8]; rfl) kw_845 kw_190 kw_191 kw_3 kw_192 yd_X8_add rfl (by decide) (by decide) hl.1 (Nat.le_of_ble_eq_true rfl) d_X2_shines_8 (Nat.le_refl 0) (Nat.le_refl 0)) (fun x8 S8 H locs _ F hf => ?_)
  refine lv_pop hx hb d_X2_shines_11 rfl ?_
  refine lv_aload_n hx hb d_X2_shines_12 rfl (lv_at hl 0 rfl) ?_
  refine lv_iload_n hx hb d_X2_shines_13 rfl (lv_at hl 1 rfl) ?_
  refine lv_iconst (v := 1) hx hb d_X2_shines_14 (by decide) ?_
  refine lv_isub hx hb d_X2_shines_15 ?_
  obtain ⟨hk16, hf⟩ := fm_some hf
  refine fm_rci G F hf (fun r u ho => fm_runSI (k := 1) Z G F N (As := [.int (a1 - 1)]) (rest := []) (x := (⟨"FrostBids$Kitchen", "shines", "(I)I"⟩ : MethodName)) (c_X5_shines hE ho _) (fm_lt13 (by decide) hk16) rfl kw_846 kw_838 kw_847 kw_445 kw_394 kw_11 kw_861 ⟨by decide +kernel, yd_X5_shines.2.2⟩ rfl (by decide) (by decide) hl.1 (Nat.le_of_ble_eq_true rfl) d_X2_shines_16 (Nat.le_refl 0) (Nat.le_refl 0)) (fun x16 S16 H locs _ F hf => ?_)
  refine lv_aload_n hx hb d_X2_shines_19 rfl (lv_at hl 0 rfl) ?_
  refine lv_iconst (v := 2) hx hb d_X2_shines_20 (by decide) ?_
  obtain ⟨hk21, hf⟩ := fm_some hf
  refine fm_rci (rest := [.int x16]) (a := (Value.ref (ad r0) :: [.int 2]).toArray) G F hf (fun r u ho => ?_) (fun x21 S21 H locs _ F hf => ?_)
  · unfold v_drips at ho
    by_cases hv21_0 : kap r0 = 0
    · exact absurd hk21 (by rw [hv21_0]; decide)
    rw [if_neg hv21_0] at ho
    by_cases hv21_2 : kap r0 = 2
    · rw [if_pos hv21_2] at ho
      exact fm_runU (k := 1) Z G F N (As := [.int 2]) (rest := [.int x16]) (x := (⟨"FrostBids$Jail", "drips", "(I)I"⟩ : MethodName)) (C := "FrostBids$Jail") (owner := "FrostBids$Kitchen") (c_X3_drips hE ho _) (by rw [hv21_2]; decide) (by rw [hv21_2]; rfl) kw_849 kw_850 kw_805 kw_806 kw_852 kw_805 kw_12 kw_806 ⟨by decide +kernel, by decide +kernel, by decide +kernel⟩ rfl (by decide) (by decide) hl.1 (Nat.le_of_ble_eq_true rfl) d_X2_shines_21 (Nat.le_refl 0) (Nat.le_refl 0)
    rw [if_neg hv21_2] at ho
    by_cases hv21_3 : kap r0 = 3
    · exact absurd hk21 (by rw [hv21_3]; decide)
    rw [if_neg hv21_3] at ho
    by_cases hv21_4 : kap r0 = 4
    · exact absurd hk21 (by rw [hv21_4]; decide)
    rw [if_neg hv21_4] at ho
    by_cases hv21_5 : kap r0 = 5
    · exact absurd hk21 (by rw [hv21_5]; decide)
    rw [if_neg hv21_5] at ho
    by_cases hv21_7 : kap r0 = 7
    · exact absurd hk21 (by rw [hv21_7]; decide)
    rw [if_neg hv21_7] at ho
    by_cases hv21_9 : kap r0 = 9
    · exact absurd hk21 (by rw [hv21_9]; decide)
    rw [if_neg hv21_9] at ho
    cases ho
  refine lv_iadd hx hb d_X2_shines_24 ?_
  exact fm_reti Z hr hlk F d_X2_shines_25 (Prod.mk.inj (Option.some.inj hf)).1 (Prod.mk.inj (Option.some.inj hf)).2
def v_shines (kap lam : Nat → Nat) (r0 : Nat) (a1 : Int32) (S : fm_M) : Option (Int32 × fm_M) :=
  if kap r0 = 0 then m_X5_shines kap lam r0 a1 S else
  if kap r0 = 2 then m_X2_shines kap lam r0 a1 S else
  if kap r0 = 3 then m_X5_shines kap lam r0 a1 S else
  if kap r0 = 4 then m_X5_shines kap lam r0 a1 S else
  if kap r0 = 5 then m_X5_shines kap lam r0 a1 S else
  if kap r0 = 7 then m_X7_shines kap lam r0 a1 S else
  if kap r0 = 9 then m_X7_shines kap lam r0 a1 S else
  none
theorem d_X5_keep_0 : decode prog_7_method_6_code 0 = .ok (.aload_n 0, 1) := by decide +kernel
theorem d_X5_keep_1 : decode prog_7_method_6_code 1 = .ok (.aload_n 0, 1) := by decide +kernel
theorem d_X5_keep_2 : decode prog_7_method_6_code 2 = .ok (.getfield 35, 3) := by decide +kernel
theorem d_X5_keep_5 : decode prog_7_method_6_code 5 = .ok (.putfield 17, 3) := by decide +kernel
theorem d_X5_keep_8 : decode prog_7_method_6_code 8 = .ok (.aload_n 0, 1) := by decide +kernel
theorem d_X5_keep_9 : decode prog_7_method_6_code 9 = .ok (.aload_n 0, 1) := by decide +kernel
theorem d_X5_keep_10 : decode prog_7_method_6_code 10 = .ok (.getfield 7, 3) := by decide +kernel
theorem d_X5_keep_13 : decode prog_7_method_6_code 13 = .ok (.putfield 20, 3) := by decide +kernel
theorem d_X5_keep_16 : decode prog_7_method_6_code 16 = .ok (.aload_n 0, 1) := by decide +kernel
theorem d_X5_keep_17 : decode prog_7_method_6_code 17 = .ok (.aload_n 0, 1) := by decide +kernel
theorem d_X5_keep_18 : decode prog_7_method_6_code 18 = .ok (.getfield 13, 3) := by decide +kernel
theorem d_X5_keep_21 : decode prog_7_method_6_code 21 = .ok (.putfield 23, 3) := by decide +kernel
theorem d_X5_keep_24 : decode prog_7_method_6_code 24 = .ok (.return_, 1) := by decide +kernel
def m_X5_keep (kap lam : Nat → Nat) (r0 : Nat) (S : fm_M) : Option fm_M :=
  fm_gi kap 5 r0 3 S fun x2 =>
  fm_pi kap 5 r0 6 S x2 fun S5 =>
  fm_gi kap 5 r0 4 S5 fun x10 =>
  fm_pi kap 5 r0 7 S5 x10 fun S13 =>
  fm_gi kap 5 r0 5 S13 fun x18 =>
  fm_pz kap 5 r0 8 S13 x18 fun S21 =>
  some S21
set_option maxHeartbeats 4000000 in
set_option maxRecDepth 100000 in
theorem c_X5_keep {l : Launch} {D : va_G} {ids kap lam : Nat → Nat} {RL : List Nat} {ad sk sv : Nat → Nat} {S : fm_M} {r0 : Nat} {u : fm_M} (hE : fm_E kap RL ad) (hf : m_X5_keep kap lam r0 S = some u) (sz : Nat) : fm_MV l y_X5_keep prog_7_method_6_code 1 (Option.none : Option Jvm.ClassFile.FieldType) 0 D ids kap lam RL ad sk sv S [.ref (ad r0)] sz u := by
  refine fm_open rfl hE (Nat.le_of_ble_eq_true rfl) (fun p e s m args below meth c ls Z hr hlk G F N hl hsz => ?_)
  subst hsz
  obtain ⟨hx, hb, hml, hown, hts⟩ := id Z
  have hl : lv_has ls 1 [(0, .ref (ad r0))] := hl
  unfold m_X5_keep at hf
  refine lv_aload_n hx hb d_X5_keep_0 rfl (lv_at hl 0 rfl) ?_
  refine lv_aload_n hx hb d_X5_keep_1 rfl (lv_at hl 0 rfl) ?_
  refine fm_rgi Z G F hf fr_X5_35 d_X5_keep_2 (fun x2 _ hf => ?_)
  refine fm_rpi Z G F hf fs_X5_17 d_X5_keep_5 (fun c h => by rcases fm_isC5 h with h | h | h | h | h | h | h <;> subst h <;> rfl) (fun S5 H locs _ F hf => ?_)
  refine lv_aload_n hx hb d_X5_keep_8 rfl (lv_at hl 0 rfl) ?_
  refine lv_aload_n hx hb d_X5_keep_9 rfl (lv_at hl 0 rfl) ?_
  refine fm_rgi Z G F hf fr_X5_7 d_X5_keep_10 (fun x10 _ hf => ?_)
  refine fm_rpi Z G F hf fs_X5_20 d_X5_keep_13 (fun c h => by rcases fm_isC5 h with h | h | h | h | h | h | h <;> subst h <;> rfl) (fun S13 H locs _ F hf => ?_)
  refine lv_aload_n hx hb d_X5_keep_16 rfl (lv_at hl 0 rfl) ?_
  refine lv_aload_n hx hb d_X5_keep_17 rfl (lv_at hl 0 rfl) ?_
  refine fm_rgi Z G F hf fr_X5_13 d_X5_keep_18 (fun x18 _ hf => ?_)
  refine fm_rpz Z G F hf fs_X5_23 d_X5_keep_21 (fun c h => by rcases fm_isC5 h with h | h | h | h | h | h | h <;> subst h <;> rfl) (fun S21 H locs _ F hf => ?_)
  exact fm_retv Z hr hlk F d_X5_keep_24 (Option.some.inj hf)
theorem d_X9_keep_0 : decode prog_11_method_5_code 0 = .ok (.aload_n 0, 1) := by decide +kernel
theorem d_X9_keep_1 : decode prog_11_method_5_code 1 = .ok (.invokespecial 38, 3) := by decide +kernel
theorem d_X9_keep_4 : decode prog_11_method_5_code 4 = .ok (.aload_n 0, 1) := by decide +kernel
theorem d_X9_keep_5 : decode prog_11_method_5_code 5 = .ok (.getfield 9, 3) := by decide +kernel
theorem d_X9_keep_8 : decode prog_11_method_5_code 8 = .ok (.iconst 0, 1) := by decide +kernel
theorem d_X9_keep_9 : decode prog_11_method_5_code 9 = .ok (.aload_n 0, 1) := by decide +kernel
theorem d_X9_keep_10 : decode prog_11_method_5_code 10 = .ok (.getfield 13, 3) := by decide +kernel
theorem d_X9_keep_13 : decode prog_11_method_5_code 13 = .ok (.iconst 0, 1) := by decide +kernel
theorem d_X9_keep_14 : decode prog_11_method_5_code 14 = .ok (.aload_n 0, 1) := by decide +kernel
theorem d_X9_keep_15 : decode prog_11_method_5_code 15 = .ok (.getfield 9, 3) := by decide +kernel
theorem d_X9_keep_18 : decode prog_11_method_5_code 18 = .ok (.arraylength, 1) := by decide +kernel
theorem d_X9_keep_19 : decode prog_11_method_5_code 19 = .ok (.invokestatic 42, 3) := by decide +kernel
theorem d_X9_keep_22 : decode prog_11_method_5_code 22 = .ok (.return_, 1) := by decide +kernel
def m_X9_keep (kap lam : Nat → Nat) (r0 : Nat) (S : fm_M) : Option fm_M :=
  fm_ck (fm_isC (kap r0) 9) <|
  fm_b1 (m_X5_keep kap lam r0 S) fun S1 =>
  fm_gr kap 9 r0 10 S1 fun q5 =>
  fm_gr kap 9 r0 11 S1 fun q10 =>
  fm_gr kap 9 r0 10 S1 fun q15 =>
  fm_ln kap lam 13 q15 fun x18 =>
  fm_cp kap lam q5 0 q10 0 x18 S1 fun S19 =>
  some S19
set_option maxHeartbeats 4000000 in
set_option maxRecDepth 100000 in
theorem c_X9_keep {l : Launch} {D : va_G} {ids kap lam : Nat → Nat} {RL : List Nat} {ad sk sv : Nat → Nat} {S : fm_M} {r0 : Nat} {u : fm_M} (hE : fm_E kap RL ad) (hf : m_X9_keep kap lam r0 S = some u) (sz : Nat) : fm_MV l y_X9_keep prog_11_method_5_code 1 (Option.none : Option Jvm.ClassFile.FieldType) 1 D ids kap lam RL ad sk sv S [.ref (ad r0)] sz u := by
  refine fm_open rfl hE (Nat.le_of_ble_eq_true rfl) (fun p e s m args below meth c ls Z hr hlk G F N hl hsz => ?_)
  subst hsz
  obtain ⟨hx, hb, hml, hown, hts⟩ := id Z
  have hl : lv_has ls 1 [(0, .ref (ad r0))] := hl
  unfold m_X9_keep at hf
  refine lv_aload_n hx hb d_X9_keep_0 rfl (lv_at hl 0 rfl) ?_
  obtain ⟨hk1, hf⟩ := fm_some hf
  refine fm_rcv G F hf (fun u ho => fm_runSI (k := 0) Z G F N (As := []) (rest := []) (x := (⟨"FrostBids$Rectory", "keep", "()V"⟩ : MethodName)) (c_X5_keep hE ho _) (fm_lt13 (by decide) hk1) rfl kw_890 kw_879 kw_891 kw_485 kw_428 kw_11 kw_896 ⟨by decide +kernel, yd_X5_keep.2.2⟩ rfl (by decide) (by decide) hl.1 (Nat.le_of_ble_eq_true rfl) d_X9_keep_1 (Nat.le_refl 0) (Nat.le_refl 0)) (fun S1 H locs _ F hf => ?_)
  refine lv_aload_n hx hb d_X9_keep_4 rfl (lv_at hl 0 rfl) ?_
  refine fm_rgr Z G F hf fr_X9_9 d_X9_keep_5 (fun q5 _ hf => ?_)
  refine lv_iconst (v := 0) hx hb d_X9_keep_8 (by decide) ?_
  refine lv_aload_n hx hb d_X9_keep_9 rfl (lv_at hl 0 rfl) ?_
  refine fm_rgr Z G F hf fr_X9_13 d_X9_keep_10 (fun q10 _ hf => ?_)
  refine lv_iconst (v := 0) hx hb d_X9_keep_13 (by decide) ?_
  refine lv_aload_n hx hb d_X9_keep_14 rfl (lv_at hl 0 rfl) ?_
  refine fm_rgr Z G F hf fr_X9_9 d_X9_keep_15 (fun q15 _ hf => ?_)
  refine fm_rln Z G F hf d_X9_keep_18 (fun x18 _ hf => ?_)
  refine fm_rcp Z G F (hml.trans hl.1.symm) hf kw_893 kw_895 kw_894 kw_20 (by decide) d_X9_keep_19 (fun S19 H locs _ F hf => ?_)
  exact fm_retv Z hr hlk F d_X9_keep_22 (Option.some.inj hf)
def v_keep (kap lam : Nat → Nat) (r0 : Nat) (S : fm_M) : Option fm_M :=
  if kap r0 = 0 then m_X5_keep kap lam r0 S else
  if kap r0 = 2 then m_X5_keep kap lam r0 S else
  if kap r0 = 3 then m_X5_keep kap lam r0 S else
  if kap r0 = 4 then m_X5_keep kap lam r0 S else
  if kap r0 = 5 then m_X5_keep kap lam r0 S else
  if kap r0 = 7 then m_X5_keep kap lam r0 S else
  if kap r0 = 9 then m_X9_keep kap lam r0 S else
  none
theorem d_X5_takeBack_0 : decode prog_7_method_7_code 0 = .ok (.aload_n 0, 1) := by decide +kernel
theorem d_X5_takeBack_1 : decode prog_7_method_7_code 1 = .ok (.aload_n 0, 1) := by decide +kernel
theorem d_X5_takeBack_2 : decode prog_7_method_7_code 2 = .ok (.getfield 17, 3) := by decide +kernel
theorem d_X5_takeBack_5 : decode prog_7_method_7_code 5 = .ok (.putfield 35, 3) := by decide +kernel
theorem d_X5_takeBack_8 : decode prog_7_method_7_code 8 = .ok (.aload_n 0, 1) := by decide +kernel
theorem d_X5_takeBack_9 : decode prog_7_method_7_code 9 = .ok (.aload_n 0, 1) := by decide +kernel
theorem d_X5_takeBack_10 : decode prog_7_method_7_code 10 = .ok (.getfield 20, 3) := by decide +kernel
theorem d_X5_takeBack_13 : decode prog_7_method_7_code 13 = .ok (.putfield 7, 3) := by decide +kernel
theorem d_X5_takeBack_16 : decode prog_7_method_7_code 16 = .ok (.aload_n 0, 1) := by decide +kernel
theorem d_X5_takeBack_17 : decode prog_7_method_7_code 17 = .ok (.aload_n 0, 1) := by decide +kernel
theorem d_X5_takeBack_18 : decode prog_7_method_7_code 18 = .ok (.getfield 23, 3) := by decide +kernel
theorem d_X5_takeBack_21 : decode prog_7_method_7_code 21 = .ok (.putfield 13, 3) := by decide +kernel
theorem d_X5_takeBack_24 : decode prog_7_method_7_code 24 = .ok (.return_, 1) := by decide +kernel
def m_X5_takeBack (kap lam : Nat → Nat) (r0 : Nat) (S : fm_M) : Option fm_M :=
  fm_gi kap 5 r0 6 S fun x2 =>
  fm_pi kap 5 r0 3 S x2 fun S5 =>
  fm_gi kap 5 r0 7 S5 fun x10 =>
  fm_pi kap 5 r0 4 S5 x10 fun S13 =>
  fm_gi kap 5 r0 8 S13 fun x18 =>
  fm_pz kap 5 r0 5 S13 x18 fun S21 =>
  some S21
set_option maxHeartbeats 4000000 in
set_option maxRecDepth 100000 in
theorem c_X5_takeBack {l : Launch} {D : va_G} {ids kap lam : Nat → Nat} {RL : List Nat} {ad sk sv : Nat → Nat} {S : fm_M} {r0 : Nat} {u : fm_M} (hE : fm_E kap RL ad) (hf : m_X5_takeBack kap lam r0 S = some u) (sz : Nat) : fm_MV l y_X5_takeBack prog_7_method_7_code 1 (Option.none : Option Jvm.ClassFile.FieldType) 0 D ids kap lam RL ad sk sv S [.ref (ad r0)] sz u := by
  refine fm_open rfl hE (Nat.le_of_ble_eq_true rfl) (fun p e s m args below meth c ls Z hr hlk G F N hl hsz => ?_)
  subst hsz
  obtain ⟨hx, hb, hml, hown, hts⟩ := id Z
  have hl : lv_has ls 1 [(0, .ref (ad r0))] := hl
  unfold m_X5_takeBack at hf
  refine lv_aload_n hx hb d_X5_takeBack_0 rfl (lv_at hl 0 rfl) ?_
  refine lv_aload_n hx hb d_X5_takeBack_1 rfl (lv_at hl 0 rfl) ?_
  refine fm_rgi Z G F hf fr_X5_17 d_X5_takeBack_2 (fun x2 _ hf => ?_)
  refine fm_rpi Z G F hf fs_X5_35 d_X5_takeBack_5 (fun c h => by rcases fm_isC5 h with h | h | h | h | h | h | h <;> subst h <;> rfl) (fun S5 H locs _ F hf => ?_)
  refine lv_aload_n hx hb d_X5_takeBack_8 rfl (lv_at hl 0 rfl) ?_
  refine lv_aload_n hx hb d_X5_takeBack_9 rfl (lv_at hl 0 rfl) ?_
  refine fm_rgi Z G F hf fr_X5_20 d_X5_takeBack_10 (fun x10 _ hf => ?_)
  refine fm_rpi Z G F hf fs_X5_7 d_X5_takeBack_13 (fun c h => by rcases fm_isC5 h with h | h | h | h | h | h | h <;> subst h <;> rfl) (fun S13 H locs _ F hf => ?_)
  refine lv_aload_n hx hb d_X5_takeBack_16 rfl (lv_at hl 0 rfl) ?_
  refine lv_aload_n hx hb d_X5_takeBack_17 rfl (lv_at hl 0 rfl) ?_
  refine fm_rgi Z G F hf fr_X5_23 d_X5_takeBack_18 (fun x18 _ hf => ?_)
  refine fm_rpz Z G F hf fs_X5_13 d_X5_takeBack_21 (fun c h => by rcases fm_isC5 h with h | h | h | h | h | h | h <;> subst h <;> rfl) (fun S21 H locs _ F hf => ?_)
  exact fm_retv Z hr hlk F d_X5_takeBack_24 (Option.some.inj hf)
theorem d_X9_takeBack_0 : decode prog_11_method_6_code 0 = .ok (.aload_n 0, 1) := by decide +kernel
theorem d_X9_takeBack_1 : decode prog_11_method_6_code 1 = .ok (.invokespecial 48, 3) := by decide +kernel
theorem d_X9_takeBack_4 : decode prog_11_method_6_code 4 = .ok (.aload_n 0, 1) := by decide +kernel
theorem d_X9_takeBack_5 : decode prog_11_method_6_code 5 = .ok (.getfield 13, 3) := by decide +kernel
theorem d_X9_takeBack_8 : decode prog_11_method_6_code 8 = .ok (.iconst 0, 1) := by decide +kernel
theorem d_X9_takeBack_9 : decode prog_11_method_6_code 9 = .ok (.aload_n 0, 1) := by decide +kernel
theorem d_X9_takeBack_10 : decode prog_11_method_6_code 10 = .ok (.getfield 9, 3) := by decide +kernel
theorem d_X9_takeBack_13 : decode prog_11_method_6_code 13 = .ok (.iconst 0, 1) := by decide +kernel
theorem d_X9_takeBack_14 : decode prog_11_method_6_code 14 = .ok (.aload_n 0, 1) := by decide +kernel
theorem d_X9_takeBack_15 : decode prog_11_method_6_code 15 = .ok (.getfield 9, 3) := by decide +kernel
theorem d_X9_takeBack_18 : decode prog_11_method_6_code 18 = .ok (.arraylength, 1) := by decide +kernel
theorem d_X9_takeBack_19 : decode prog_11_method_6_code 19 = .ok (.invokestatic 42, 3) := by decide +kernel
theorem d_X9_takeBack_22 : decode prog_11_method_6_code 22 = .ok (.return_, 1) := by decide +kernel
def m_X9_takeBack (kap lam : Nat → Nat) (r0 : Nat) (S : fm_M) : Option fm_M :=
  fm_ck (fm_isC (kap r0) 9) <|
  fm_b1 (m_X5_takeBack kap lam r0 S) fun S1 =>
  fm_gr kap 9 r0 11 S1 fun q5 =>
  fm_gr kap 9 r0 10 S1 fun q10 =>
  fm_gr kap 9 r0 10 S1 fun q15 =>
  fm_ln kap lam 13 q15 fun x18 =>
  fm_cp kap lam q5 0 q10 0 x18 S1 fun S19 =>
  some S19
set_option maxHeartbeats 4000000 in
set_option maxRecDepth 100000 in
theorem c_X9_takeBack {l : Launch} {D : va_G} {ids kap lam : Nat → Nat} {RL : List Nat} {ad sk sv : Nat → Nat} {S : fm_M} {r0 : Nat} {u : fm_M} (hE : fm_E kap RL ad) (hf : m_X9_takeBack kap lam r0 S = some u) (sz : Nat) : fm_MV l y_X9_takeBack prog_11_method_6_code 1 (Option.none : Option Jvm.ClassFile.FieldType) 1 D ids kap lam RL ad sk sv S [.ref (ad r0)] sz u := by
  refine fm_open rfl hE (Nat.le_of_ble_eq_true rfl) (fun p e s m args below meth c ls Z hr hlk G F N hl hsz => ?_)
  subst hsz
  obtain ⟨hx, hb, hml, hown, hts⟩ := id Z
  have hl : lv_has ls 1 [(0, .ref (ad r0))] := hl
  unfold m_X9_takeBack at hf
  refine lv_aload_n hx hb d_X9_takeBack_0 rfl (lv_at hl 0 rfl) ?_
  obtain ⟨hk1, hf⟩ := fm_some hf
  refine fm_rcv G F hf (fun u ho => fm_runSI (k := 0) Z G F N (As := []) (rest := []) (x := (⟨"FrostBids$Rectory", "takeBack", "()V"⟩ : MethodName)) (c_X5_takeBack hE ho _) (fm_lt13 (by decide) hk1) rfl kw_918 kw_907 kw_919 kw_485 kw_428 kw_11 kw_921 ⟨by decide +kernel, yd_X5_takeBack.2.2⟩ rfl (by decide) (by decide) hl.1 (Nat.le_of_ble_eq_true rfl) d_X9_takeBack_1 (Nat.le_refl 0) (Nat.le_refl 0)) (fun S1 H locs _ F hf => ?_)
  refine lv_aload_n hx hb d_X9_takeBack_4 rfl (lv_at hl 0 rfl) ?_
  refine fm_rgr Z G F hf fr_X9_13 d_X9_takeBack_5 (fun q5 _ hf => ?_)
  refine lv_iconst (v := 0) hx hb d_X9_takeBack_8 (by decide) ?_
  refine lv_aload_n hx hb d_X9_takeBack_9 rfl (lv_at hl 0 rfl) ?_
  refine fm_rgr Z G F hf fr_X9_9 d_X9_takeBack_10 (fun q10 _ hf => ?_)
  refine lv_iconst (v := 0) hx hb d_X9_takeBack_13 (by decide) ?_
  refine lv_aload_n hx hb d_X9_takeBack_14 rfl (lv_at hl 0 rfl) ?_
  refine fm_rgr Z G F hf fr_X9_9 d_X9_takeBack_15 (fun q15 _ hf => ?_)
  refine fm_rln Z G F hf d_X9_takeBack_18 (fun x18 _ hf => ?_)
  refine fm_rcp Z G F (hml.trans hl.1.symm) hf kw_893 kw_895 kw_894 kw_20 (by decide) d_X9_takeBack_19 (fun S19 H locs _ F hf => ?_)
  exact fm_retv Z hr hlk F d_X9_takeBack_22 (Option.some.inj hf)
def v_takeBack (kap lam : Nat → Nat) (r0 : Nat) (S : fm_M) : Option fm_M :=
  if kap r0 = 0 then m_X5_takeBack kap lam r0 S else
  if kap r0 = 2 then m_X5_takeBack kap lam r0 S else
  if kap r0 = 3 then m_X5_takeBack kap lam r0 S else
  if kap r0 = 4 then m_X5_takeBack kap lam r0 S else
  if kap r0 = 5 then m_X5_takeBack kap lam r0 S else
  if kap r0 = 7 then m_X5_takeBack kap lam r0 S else
  if kap r0 = 9 then m_X9_takeBack kap lam r0 S else
  none
theorem d_X9_change_0 : decode prog_11_method_2_code 0 = .ok (.aload_n 0, 1) := by decide +kernel
theorem d_X9_change_1 : decode prog_11_method_2_code 1 = .ok (.getfield 9, 3) := by decide +kernel
theorem d_X9_change_4 : decode prog_11_method_2_code 4 = .ok (.iload_n 1, 1) := by decide +kernel
theorem d_X9_change_5 : decode prog_11_method_2_code 5 = .ok (.iaload, 1) := by decide +kernel
theorem d_X9_change_6 : decode prog_11_method_2_code 6 = .ok (.istore_n 3, 1) := by decide +kernel
theorem d_X9_change_7 : decode prog_11_method_2_code 7 = .ok (.aload_n 0, 1) := by decide +kernel
theorem d_X9_change_8 : decode prog_11_method_2_code 8 = .ok (.getfield 9, 3) := by decide +kernel
theorem d_X9_change_11 : decode prog_11_method_2_code 11 = .ok (.iload_n 1, 1) := by decide +kernel
theorem d_X9_change_12 : decode prog_11_method_2_code 12 = .ok (.iload_n 2, 1) := by decide +kernel
theorem d_X9_change_13 : decode prog_11_method_2_code 13 = .ok (.iastore, 1) := by decide +kernel
theorem d_X9_change_14 : decode prog_11_method_2_code 14 = .ok (.iload_n 3, 1) := by decide +kernel
theorem d_X9_change_15 : decode prog_11_method_2_code 15 = .ok (.ireturn, 1) := by decide +kernel
def m_X9_change (kap lam : Nat → Nat) (r0 : Nat) (a1 : Int32) (a2 : Int32) (S : fm_M) : Option (Int32 × fm_M) :=
  fm_gr kap 9 r0 10 S fun q1 =>
  fm_ld kap lam 13 q1 a1 S fun x5 =>
  fm_gr kap 9 r0 10 S fun q8 =>
  fm_st kap lam q8 a1 a2 S fun S13 =>
  some (x5, S13)
set_option maxHeartbeats 4000000 in
set_option maxRecDepth 100000 in
theorem c_X9_change {l : Launch} {D : va_G} {ids kap lam : Nat → Nat} {RL : List Nat} {ad sk sv : Nat → Nat} {S : fm_M} {r0 : Nat} {a1 : Int32} {a2 : Int32} {r : Int32} {u : fm_M} (hE : fm_E kap RL ad) (hf : m_X9_change kap lam r0 a1 a2 S = some (r, u)) (sz : Nat) : fm_MI l y_X9_change prog_11_method_2_code 4 (Option.some Jvm.ClassFile.FieldType.int) 0 D ids kap lam RL ad sk sv S [.ref (ad r0), .int a1, .int a2] sz r u := by
  refine fm_open rfl hE (Nat.le_of_ble_eq_true rfl) (fun p e s m args below meth c ls Z hr hlk G F N hl hsz => ?_)
  subst hsz
  obtain ⟨hx, hb, hml, hown, hts⟩ := id Z
  have hl : lv_has ls 4 [(0, .ref (ad r0)), (1, .int a1), (2, .int a2)] := hl
  unfold m_X9_change at hf
  refine lv_aload_n hx hb d_X9_change_0 rfl (lv_at hl 0 rfl) ?_
  refine fm_rgr Z G F hf fr_X9_9 d_X9_change_1 (fun q1 _ hf => ?_)
  refine lv_iload_n hx hb d_X9_change_4 rfl (lv_at hl 1 rfl) ?_
  refine fm_rld Z G F hf d_X9_change_5 (fun x5 _ hf => ?_)
  refine lv_istore_n (lv' := [(3, .int x5), (0, .ref (ad r0)), (1, .int a1), (2, .int a2)]) hx hb d_X9_change_6 rfl hl (by decide) rfl (fun ls hl => ?_)
  refine lv_aload_n hx hb d_X9_change_7 rfl (lv_at hl 1 rfl) ?_
  refine fm_rgr Z G F hf fr_X9_9 d_X9_change_8 (fun q8 _ hf => ?_)
  refine lv_iload_n hx hb d_X9_change_11 rfl (lv_at hl 2 rfl) ?_
  refine lv_iload_n hx hb d_X9_change_12 rfl (lv_at hl 3 rfl) ?_
  refine fm_rst Z G F hf d_X9_change_13 (fun S13 H locs _ F hf => ?_)
  refine lv_iload_n hx hb d_X9_change_14 rfl (lv_at hl 0 rfl) ?_
  exact fm_reti Z hr hlk F d_X9_change_15 (Prod.mk.inj (Option.some.inj hf)).1 (Prod.mk.inj (Option.some.inj hf)).2
