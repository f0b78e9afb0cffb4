/-! models and contracts (tool/gen.py prints them) -/
theorem d_X11_isWithin_0 : decode prog_1_method_35_code 0 = .ok (.iload_n 0, 1) := by decide +kernel
theorem d_X11_isWithin_1 : decode prog_1_method_35_code 1 = .ok (.ifCond .lt 12, 3) := by decide +kernel
theorem d_X11_isWithin_4 : decode prog_1_method_35_code 4 = .ok (.iload_n 0, 1) := by decide +kernel
theorem d_X11_isWithin_5 : decode prog_1_method_35_code 5 = .ok (.iload_n 1, 1) := by decide +kernel
theorem d_X11_isWithin_6 : decode prog_1_method_35_code 6 = .ok (.if_icmp .gt 7, 3) := by decide +kernel
theorem d_X11_isWithin_9 : decode prog_1_method_35_code 9 = .ok (.iconst 1, 1) := by decide +kernel
theorem d_X11_isWithin_10 : decode prog_1_method_35_code 10 = .ok (.goto 4, 3) := by decide +kernel
theorem d_X11_isWithin_13 : decode prog_1_method_35_code 13 = .ok (.iconst 0, 1) := by decide +kernel
theorem d_X11_isWithin_14 : decode prog_1_method_35_code 14 = .ok (.ireturn, 1) := by decide +kernel
def m_X11_isWithin (kap lam : Nat → Nat) (a0 : Int32) (a1 : Int32) (S : fm_M) : Option Int32 :=
  if a0 < 0 then (
   fm_z 0 (some 0)
  ) else (
   if a1 < a0 then (
    fm_z 0 (some 0)
   ) else (
    fm_z 1 (some 1)
   )
  )
set_option maxHeartbeats 4000000 in
set_option maxRecDepth 100000 in
theorem c_X11_isWithin {l : Launch} {D : va_G} {ids kap lam : Nat → Nat} {RL : List Nat} {ad sk sv : Nat → Nat} {S : fm_M} {a0 : Int32} {a1 : Int32} {r : Int32} (hE : fm_E kap RL ad) (hf : m_X11_isWithin kap lam a0 a1 S = some r) (sz : Nat) : fm_MI l y_X11_isWithin prog_1_method_35_code 2 (Option.some Jvm.ClassFile.FieldType.boolean) 0 D ids kap lam RL ad sk sv S [.int a0, .int a1] sz r S := by
  refine fm_open rfl hE (Nat.le_of_ble_eq_true rfl) (fun p e s m args below meth c ls Z hr hlk G F N hl hsz => ?_)
  subst hsz
  obtain ⟨hx, hb, hml, hown, hts⟩ := id Z
  have hl : lv_has ls 2 [(0, .int a0), (1, .int a1)] := hl
  unfold m_X11_isWithin at hf
  refine lv_iload_n hx hb d_X11_isWithin_0 rfl (lv_at hl 0 rfl) ?_
  refine lv_if_lt (tgt := 13) hx hb d_X11_isWithin_1 (by decide) (fun c1 => ?_) (fun c1 => ?_)
  · have hf := fm_ip c1 hf
    refine lv_iconst (v := 0) hx hb d_X11_isWithin_13 (by decide) ?_
    obtain ⟨hz, hf⟩ := fm_some hf
    exact fm_retz Z hr hlk F d_X11_isWithin_14 hz (Option.some.inj hf) rfl
  · have hf := fm_ig c1 hf
    refine lv_iload_n hx hb d_X11_isWithin_4 rfl (lv_at hl 0 rfl) ?_
    refine lv_iload_n hx hb d_X11_isWithin_5 rfl (lv_at hl 1 rfl) ?_
    refine lv_icmp_gt (tgt := 13) hx hb d_X11_isWithin_6 (by decide) (fun c6 => ?_) (fun c6 => ?_)
    · have hf := fm_ip c6 hf
      refine lv_iconst (v := 0) hx hb d_X11_isWithin_13 (by decide) ?_
      obtain ⟨hz, hf⟩ := fm_some hf
      exact fm_retz Z hr hlk F d_X11_isWithin_14 hz (Option.some.inj hf) rfl
    · have hf := fm_ig c6 hf
      refine lv_iconst (v := 1) hx hb d_X11_isWithin_9 (by decide) ?_
      refine lv_goto (tgt := 14) hx hb d_X11_isWithin_10 (by decide) ?_
      obtain ⟨hz, hf⟩ := fm_some hf
      exact fm_retz Z hr hlk F d_X11_isWithin_14 hz (Option.some.inj hf) rfl
theorem d_X8_size_0 : decode prog_10_method_2_code 0 = .ok (.aload_n 0, 1) := by decide +kernel
theorem d_X8_size_1 : decode prog_10_method_2_code 1 = .ok (.getfield 9, 3) := by decide +kernel
theorem d_X8_size_4 : decode prog_10_method_2_code 4 = .ok (.aload_n 0, 1) := by decide +kernel
theorem d_X8_size_5 : decode prog_10_method_2_code 5 = .ok (.getfield 24, 3) := by decide +kernel
theorem d_X8_size_8 : decode prog_10_method_2_code 8 = .ok (.invokestatic 34, 3) := by decide +kernel
theorem d_X8_size_11 : decode prog_10_method_2_code 11 = .ok (.ireturn, 1) := by decide +kernel
def m_X8_size (kap lam : Nat → Nat) (r0 : Nat) (S : fm_M) : Option Int32 :=
  fm_gi kap 8 r0 3 S fun x1 =>
  fm_gi kap 8 r0 0 S fun x5 =>
  fm_let (if x5 < x1 then x5 else x1 : Int32) fun x8 =>
  some x8
set_option maxHeartbeats 4000000 in
set_option maxRecDepth 100000 in
theorem c_X8_size {l : Launch} {D : va_G} {ids kap lam : Nat → Nat} {RL : List Nat} {ad sk sv : Nat → Nat} {S : fm_M} {r0 : Nat} {r : Int32} (hE : fm_E kap RL ad) (hf : m_X8_size kap lam r0 S = some r) (sz : Nat) : fm_MI l y_X8_size prog_10_method_2_code 1 (Option.some Jvm.ClassFile.FieldType.int) 1 D ids kap lam RL ad sk sv S [.ref (ad r0)] sz r S := by
  refine fm_open rfl hE (Nat.le_of_ble_eq_true rfl) (fun p e s m args below meth c ls Z hr hlk G F N hl hsz => ?_)
  subst hsz
  obtain ⟨hx, hb, hml, hown, hts⟩ := id Z
  have hl : lv_has ls 1 [(0, .ref (ad r0))] := hl
  unfold m_X8_size at hf
  refine lv_aload_n hx hb d_X8_size_0 rfl (lv_at hl 0 rfl) ?_
  refine fm_rgi Z G F hf fr_X8_9 d_X8_size_1 (fun x1 _ hf => ?_)
  refine lv_aload_n hx hb d_X8_size_4 rfl (lv_at hl 0 rfl) ?_
  refine fm_rgi Z G F hf fr_X8_24 d_X8_size_5 (fun x5 _ hf => ?_)
  refine va_mmin hx hb (hml.trans hl.1.symm) hown (hts _ (fm_in kw_197 rfl)) (hts _ (fm_in kw_198 rfl)) (hts _ (fm_in kw_4 rfl)) (hts _ (fm_in kw_199 rfl)) (by decide) (Nat.le_of_ble_eq_true rfl) (by decide) (by decide) d_X8_size_8 ?_
  refine lv_topi (fun x8 ex8 => ?_)
  have hf := fm_let_at ex8 hf
  exact fm_reti Z hr hlk F d_X8_size_11 (Option.some.inj hf) rfl
theorem d_X8_isFull_0 : decode prog_10_method_3_code 0 = .ok (.aload_n 0, 1) := by decide +kernel
theorem d_X8_isFull_1 : decode prog_10_method_3_code 1 = .ok (.getfield 9, 3) := by decide +kernel
theorem d_X8_isFull_4 : decode prog_10_method_3_code 4 = .ok (.aload_n 0, 1) := by decide +kernel
theorem d_X8_isFull_5 : decode prog_10_method_3_code 5 = .ok (.getfield 24, 3) := by decide +kernel
theorem d_X8_isFull_8 : decode prog_10_method_3_code 8 = .ok (.if_icmp .lt 7, 3) := by decide +kernel
theorem d_X8_isFull_11 : decode prog_10_method_3_code 11 = .ok (.iconst 1, 1) := by decide +kernel
theorem d_X8_isFull_12 : decode prog_10_method_3_code 12 = .ok (.goto 4, 3) := by decide +kernel
theorem d_X8_isFull_15 : decode prog_10_method_3_code 15 = .ok (.iconst 0, 1) := by decide +kernel
theorem d_X8_isFull_16 : decode prog_10_method_3_code 16 = .ok (.ireturn, 1) := by decide +kernel
def m_X8_isFull (kap lam : Nat → Nat) (r0 : Nat) (S : fm_M) : Option Int32 :=
  fm_gi kap 8 r0 3 S fun x1 =>
  fm_gi kap 8 r0 0 S fun x5 =>
  if x1 < x5 then (
   fm_z 0 (some 0)
  ) else (
   fm_z 1 (some 1)
  )
set_option maxHeartbeats 4000000 in
set_option maxRecDepth 100000 in
theorem c_X8_isFull {l : Launch} {D : va_G} {ids kap lam : Nat → Nat} {RL : List Nat} {ad sk sv : Nat → Nat} {S : fm_M} {r0 : Nat} {r : Int32} (hE : fm_E kap RL ad) (hf : m_X8_isFull kap lam r0 S = some r) (sz : Nat) : fm_MI l y_X8_isFull prog_10_method_3_code 1 (Option.some Jvm.ClassFile.FieldType.boolean) 0 D ids kap lam RL ad sk sv S [.ref (ad r0)] sz r S := by
  refine fm_open rfl hE (Nat.le_of_ble_eq_true rfl) (fun p e s m args below meth c ls Z hr hlk G F N hl hsz => ?_)
  subst hsz
  obtain ⟨hx, hb, hml, hown, hts⟩ := id Z
  have hl : lv_has ls 1 [(0, .ref (ad r0))] := hl
  unfold m_X8_isFull at hf
  refine lv_aload_n hx hb d_X8_isFull_0 rfl (lv_at hl 0 rfl) ?_
  refine fm_rgi Z G F hf fr_X8_9 d_X8_isFull_1 (fun x1 _ hf => ?_)
  refine lv_aload_n hx hb d_X8_isFull_4 rfl (lv_at hl 0 rfl) ?_
  refine fm_rgi Z G F hf fr_X8_24 d_X8_isFull_5 (fun x5 _ hf => ?_)
  refine lv_icmp_lt (tgt := 15) hx hb d_X8_isFull_8 (by decide) (fun c8 => ?_) (fun c8 => ?_)
  · have hf := fm_ip c8 hf
    refine lv_iconst (v := 0) hx hb d_X8_isFull_15 (by decide) ?_
    obtain ⟨hz, hf⟩ := fm_some hf
    exact fm_retz Z hr hlk F d_X8_isFull_16 hz (Option.some.inj hf) rfl
  · have hf := fm_ig c8 hf
    refine lv_iconst (v := 1) hx hb d_X8_isFull_11 (by decide) ?_
    refine lv_goto (tgt := 16) hx hb d_X8_isFull_12 (by decide) ?_
    obtain ⟨hz, hf⟩ := fm_some hf
    exact fm_retz Z hr hlk F d_X8_isFull_16 hz (Option.some.inj hf) rfl
theorem d_X8_at_0 : decode prog_10_method_4_code 0 = .ok (.iload_n 1, 1) := by decide +kernel
theorem d_X8_at_1 : decode prog_10_method_4_code 1 = .ok (.aload_n 0, 1) := by decide +kernel
theorem d_X8_at_2 : decode prog_10_method_4_code 2 = .ok (.invokevirtual 37, 3) := by decide +kernel
theorem d_X8_at_5 : decode prog_10_method_4_code 5 = .ok (.iconst 1, 1) := by decide +kernel
theorem d_X8_at_6 : decode prog_10_method_4_code 6 = .ok (.isub, 1) := by decide +kernel
theorem d_X8_at_7 : decode prog_10_method_4_code 7 = .ok (.invokestatic 41, 3) := by decide +kernel
theorem d_X8_at_10 : decode prog_10_method_4_code 10 = .ok (.ifCond .eq 24, 3) := by decide +kernel
theorem d_X8_at_13 : decode prog_10_method_4_code 13 = .ok (.iload_n 2, 1) := by decide +kernel
theorem d_X8_at_14 : decode prog_10_method_4_code 14 = .ok (.iconst 2, 1) := by decide +kernel
theorem d_X8_at_15 : decode prog_10_method_4_code 15 = .ok (.invokestatic 41, 3) := by decide +kernel
theorem d_X8_at_18 : decode prog_10_method_4_code 18 = .ok (.ifCond .eq 16, 3) := by decide +kernel
theorem d_X8_at_21 : decode prog_10_method_4_code 21 = .ok (.aload_n 0, 1) := by decide +kernel
theorem d_X8_at_22 : decode prog_10_method_4_code 22 = .ok (.getfield 27, 3) := by decide +kernel
theorem d_X8_at_25 : decode prog_10_method_4_code 25 = .ok (.iload_n 1, 1) := by decide +kernel
theorem d_X8_at_26 : decode prog_10_method_4_code 26 = .ok (.iconst 3, 1) := by decide +kernel
theorem d_X8_at_27 : decode prog_10_method_4_code 27 = .ok (.imul, 1) := by decide +kernel
theorem d_X8_at_28 : decode prog_10_method_4_code 28 = .ok (.iload_n 2, 1) := by decide +kernel
theorem d_X8_at_29 : decode prog_10_method_4_code 29 = .ok (.iadd, 1) := by decide +kernel
theorem d_X8_at_30 : decode prog_10_method_4_code 30 = .ok (.iaload, 1) := by decide +kernel
theorem d_X8_at_31 : decode prog_10_method_4_code 31 = .ok (.goto 4, 3) := by decide +kernel
theorem d_X8_at_34 : decode prog_10_method_4_code 34 = .ok (.iconst (-1), 1) := by decide +kernel
theorem d_X8_at_35 : decode prog_10_method_4_code 35 = .ok (.ireturn, 1) := by decide +kernel
def m_X8_at (kap lam : Nat → Nat) (r0 : Nat) (a1 : Int32) (a2 : Int32) (S : fm_M) : Option Int32 :=
  fm_ck (kap r0 == 8) <|
  fm_b1 (m_X8_size kap lam r0 S) fun x2 =>
  fm_b1 (m_X11_isWithin kap lam a1 (x2 - 1) S) fun x7 =>
  if x7 = 0 then (
   some (-1)
  ) else (
   fm_b1 (m_X11_isWithin kap lam a2 2 S) fun x15 =>
   if x15 = 0 then (
    some (-1)
   ) else (
    fm_gr kap 8 r0 1 S fun q22 =>
    fm_ld kap lam 13 q22 ((a1 * 3) + a2) S fun x30 =>
    some x30
   )
  )
set_option maxHeartbeats 4000000 in
set_option maxRecDepth 100000 in
theorem c_X8_at {l : Launch} {D : va_G} {ids kap lam : Nat → Nat} {RL : List Nat} {ad sk sv : Nat → Nat} {S : fm_M} {r0 : Nat} {a1 : Int32} {a2 : Int32} {r : Int32} (hE : fm_E kap RL ad) (hf : m_X8_at kap lam r0 a1 a2 S = some r) (sz : Nat) : fm_MI l y_X8_at prog_10_method_4_code 3 (Option.some Jvm.ClassFile.FieldType.int) 2 D ids kap lam RL ad sk sv S [.ref (ad r0), .int a1, .int a2] sz r S := by
  refine fm_open rfl hE (Nat.le_of_ble_eq_true rfl) (fun p e s m args below meth c ls Z hr hlk G F N hl hsz => ?_)
  subst hsz
  obtain ⟨hx, hb, hml, hown, hts⟩ := id Z
  have hl : lv_has ls 3 [(0, .ref (ad r0)), (1, .int a1), (2, .int a2)] := hl
  unfold m_X8_at at hf
  refine lv_iload_n hx hb d_X8_at_0 rfl (lv_at hl 1 rfl) ?_
  refine lv_aload_n hx hb d_X8_at_1 rfl (lv_at hl 0 rfl) ?_
  obtain ⟨hk2, hf⟩ := fm_some hf
  refine fm_rcr G F hf (fun r ho => fm_runV (k := 0) Z G F N (As := []) (rest := [.int a1]) (c_X8_size hE ho _) (by rw [eq_of_beq hk2]; decide) (by rw [eq_of_beq hk2]; rfl) kw_214 kw_194 kw_195 kw_3 kw_196 yd_X8_size rfl (by decide) (by decide) hl.1 (Nat.le_of_ble_eq_true rfl) d_X8_at_2 (Nat.le_refl 0) (Nat.le_refl 0)) (fun x2 H locs _ F hf => ?_)
  refine lv_iconst (v := 1) hx hb d_X8_at_5 (by decide) ?_
  refine lv_isub hx hb d_X8_at_6 ?_
  refine fm_rcr G F hf (fun r ho => fm_runSN (k := 2) (host := "FrostBids") Z G F N (As := [.int a1, .int (x2 - 1)]) (rest := []) (c_X11_isWithin hE ho _) (by decide) kw_183 kw_1 kw_184 yd_X11_isWithin rfl (by decide) (by decide) hl.1 (Nat.le_of_ble_eq_true rfl) d_X8_at_7 (Nat.le_refl 0) (Nat.le_refl 0)) (fun x7 H locs _ F hf => ?_)
  refine lv_if_eq (tgt := 34) hx hb d_X8_at_10 (by decide) (fun c10 => ?_) (fun c10 => ?_)
  · have hf := fm_ip c10 hf
    refine lv_iconst (v := (-1)) hx hb d_X8_at_34 (by decide) ?_
    exact fm_reti Z hr hlk F d_X8_at_35 (Option.some.inj hf) rfl
  · have hf := fm_ig c10 hf
    refine lv_iload_n hx hb d_X8_at_13 rfl (lv_at hl 2 rfl) ?_
    refine lv_iconst (v := 2) hx hb d_X8_at_14 (by decide) ?_
    refine fm_rcr G F hf (fun r ho => fm_runSN (k := 2) (host := "FrostBids") Z G F N (As := [.int a2, .int 2]) (rest := []) (c_X11_isWithin hE ho _) (by decide) kw_183 kw_1 kw_184 yd_X11_isWithin rfl (by decide) (by decide) hl.1 (Nat.le_of_ble_eq_true rfl) d_X8_at_15 (Nat.le_refl 0) (Nat.le_refl 0)) (fun x15 H locs _ F hf => ?_)
    refine lv_if_eq (tgt := 34) hx hb d_X8_at_18 (by decide) (fun c18 => ?_) (fun c18 => ?_)
    · have hf := fm_ip c18 hf
      refine lv_iconst (v := (-1)) hx hb d_X8_at_34 (by decide) ?_
      exact fm_reti Z hr hlk F d_X8_at_35 (Option.some.inj hf) rfl
    · have hf := fm_ig c18 hf
      refine lv_aload_n hx hb d_X8_at_21 rfl (lv_at hl 0 rfl) ?_
      refine fm_rgr Z G F hf fr_X8_27 d_X8_at_22 (fun q22 _ hf => ?_)
      refine lv_iload_n hx hb d_X8_at_25 rfl (lv_at hl 1 rfl) ?_
      refine lv_iconst (v := 3) hx hb d_X8_at_26 (by decide) ?_
      refine lv_imul hx hb d_X8_at_27 ?_
      refine lv_iload_n hx hb d_X8_at_28 rfl (lv_at hl 2 rfl) ?_
      refine lv_iadd hx hb d_X8_at_29 ?_
      refine fm_rld Z G F hf d_X8_at_30 (fun x30 _ hf => ?_)
      refine lv_goto (tgt := 35) hx hb d_X8_at_31 (by decide) ?_
      exact fm_reti Z hr hlk F d_X8_at_35 (Option.some.inj hf) rfl
theorem d_X8_add_0 : decode prog_10_method_5_code 0 = .ok (.aload_n 0, 1) := by decide +kernel
theorem d_X8_add_1 : decode prog_10_method_5_code 1 = .ok (.getfield 9, 3) := by decide +kernel
theorem d_X8_add_4 : decode prog_10_method_5_code 4 = .ok (.ifCond .lt 54, 3) := by decide +kernel
theorem d_X8_add_7 : decode prog_10_method_5_code 7 = .ok (.aload_n 0, 1) := by decide +kernel
theorem d_X8_add_8 : decode prog_10_method_5_code 8 = .ok (.getfield 9, 3) := by decide +kernel
theorem d_X8_add_11 : decode prog_10_method_5_code 11 = .ok (.aload_n 0, 1) := by decide +kernel
theorem d_X8_add_12 : decode prog_10_method_5_code 12 = .ok (.getfield 24, 3) := by decide +kernel
theorem d_X8_add_15 : decode prog_10_method_5_code 15 = .ok (.if_icmp .ge 43, 3) := by decide +kernel
theorem d_X8_add_18 : decode prog_10_method_5_code 18 = .ok (.aload_n 0, 1) := by decide +kernel
theorem d_X8_add_19 : decode prog_10_method_5_code 19 = .ok (.getfield 27, 3) := by decide +kernel
theorem d_X8_add_22 : decode prog_10_method_5_code 22 = .ok (.aload_n 0, 1) := by decide +kernel
theorem d_X8_add_23 : decode prog_10_method_5_code 23 = .ok (.getfield 9, 3) := by decide +kernel
theorem d_X8_add_26 : decode prog_10_method_5_code 26 = .ok (.iconst 3, 1) := by decide +kernel
theorem d_X8_add_27 : decode prog_10_method_5_code 27 = .ok (.imul, 1) := by decide +kernel
theorem d_X8_add_28 : decode prog_10_method_5_code 28 = .ok (.iload_n 1, 1) := by decide +kernel
theorem d_X8_add_29 : decode prog_10_method_5_code 29 = .ok (.iastore, 1) := by decide +kernel
theorem d_X8_add_30 : decode prog_10_method_5_code 30 = .ok (.aload_n 0, 1) := by decide +kernel
theorem d_X8_add_31 : decode prog_10_method_5_code 31 = .ok (.getfield 27, 3) := by decide +kernel
theorem d_X8_add_34 : decode prog_10_method_5_code 34 = .ok (.aload_n 0, 1) := by decide +kernel
theorem d_X8_add_35 : decode prog_10_method_5_code 35 = .ok (.getfield 9, 3) := by decide +kernel
theorem d_X8_add_38 : decode prog_10_method_5_code 38 = .ok (.iconst 3, 1) := by decide +kernel
theorem d_X8_add_39 : decode prog_10_method_5_code 39 = .ok (.imul, 1) := by decide +kernel
theorem d_X8_add_40 : decode prog_10_method_5_code 40 = .ok (.iconst 1, 1) := by decide +kernel
theorem d_X8_add_41 : decode prog_10_method_5_code 41 = .ok (.iadd, 1) := by decide +kernel
theorem d_X8_add_42 : decode prog_10_method_5_code 42 = .ok (.iload_n 2, 1) := by decide +kernel
theorem d_X8_add_43 : decode prog_10_method_5_code 43 = .ok (.iastore, 1) := by decide +kernel
theorem d_X8_add_44 : decode prog_10_method_5_code 44 = .ok (.aload_n 0, 1) := by decide +kernel
theorem d_X8_add_45 : decode prog_10_method_5_code 45 = .ok (.getfield 27, 3) := by decide +kernel
theorem d_X8_add_48 : decode prog_10_method_5_code 48 = .ok (.aload_n 0, 1) := by decide +kernel
theorem d_X8_add_49 : decode prog_10_method_5_code 49 = .ok (.getfield 9, 3) := by decide +kernel
theorem d_X8_add_52 : decode prog_10_method_5_code 52 = .ok (.iconst 3, 1) := by decide +kernel
theorem d_X8_add_53 : decode prog_10_method_5_code 53 = .ok (.imul, 1) := by decide +kernel
theorem d_X8_add_54 : decode prog_10_method_5_code 54 = .ok (.iconst 2, 1) := by decide +kernel
theorem d_X8_add_55 : decode prog_10_method_5_code 55 = .ok (.iadd, 1) := by decide +kernel
theorem d_X8_add_56 : decode prog_10_method_5_code 56 = .ok (.iload_n 3, 1) := by decide +kernel
theorem d_X8_add_57 : decode prog_10_method_5_code 57 = .ok (.iastore, 1) := by decide +kernel
theorem d_X8_add_58 : decode prog_10_method_5_code 58 = .ok (.aload_n 0, 1) := by decide +kernel
theorem d_X8_add_59 : decode prog_10_method_5_code 59 = .ok (.dup, 1) := by decide +kernel
theorem d_X8_add_60 : decode prog_10_method_5_code 60 = .ok (.getfield 9, 3) := by decide +kernel
theorem d_X8_add_63 : decode prog_10_method_5_code 63 = .ok (.iconst 1, 1) := by decide +kernel
theorem d_X8_add_64 : decode prog_10_method_5_code 64 = .ok (.iadd, 1) := by decide +kernel
theorem d_X8_add_65 : decode prog_10_method_5_code 65 = .ok (.putfield 9, 3) := by decide +kernel
theorem d_X8_add_68 : decode prog_10_method_5_code 68 = .ok (.aload_n 0, 1) := by decide +kernel
theorem d_X8_add_69 : decode prog_10_method_5_code 69 = .ok (.getfield 9, 3) := by decide +kernel
theorem d_X8_add_72 : decode prog_10_method_5_code 72 = .ok (.ireturn, 1) := by decide +kernel
def m_X8_add (kap lam : Nat → Nat) (r0 : Nat) (a1 : Int32) (a2 : Int32) (a3 : Int32) (S : fm_M) : Option (Int32 × fm_M) :=
  fm_gi kap 8 r0 3 S fun x1 =>
  if x1 < 0 then (
   fm_gi kap 8 r0 3 S fun x60 =>
   fm_pi kap 8 r0 3 S (x60 + 1) fun S65 =>
   fm_gi kap 8 r0 3 S65 fun x69 =>
   some (x69, S65)
  ) else (
   fm_gi kap 8 r0 3 S fun x8 =>
   fm_gi kap 8 r0 0 S fun x12 =>
   if x12 ≤ x8 then (
    fm_gi kap 8 r0 3 S fun x60 =>
    fm_pi kap 8 r0 3 S (x60 + 1) fun S65 =>
    fm_gi kap 8 r0 3 S65 fun x69 =>
    some (x69, S65)
   ) else (
    fm_gr kap 8 r0 1 S fun q19 =>
    fm_gi kap 8 r0 3 S fun x23 =>
    fm_st kap lam q19 (x23 * 3) a1 S fun S29 =>
    fm_gr kap 8 r0 1 S29 fun q31 =>
    fm_gi kap 8 r0 3 S29 fun x35 =>
    fm_st kap lam q31 ((x35 * 3) + 1) a2 S29 fun S43 =>
    fm_gr kap 8 r0 1 S43 fun q45 =>
    fm_gi kap 8 r0 3 S43 fun x49 =>
    fm_st kap lam q45 ((x49 * 3) + 2) a3 S43 fun S57 =>
    fm_gi kap 8 r0 3 S57 fun x60 =>
    fm_pi kap 8 r0 3 S57 (x60 + 1) fun S65 =>
    fm_gi kap 8 r0 3 S65 fun x69 =>
    some (x69, S65)
   )
  )
set_option maxHeartbeats 4000000 in
set_option maxRecDepth 100000 in
theorem c_X8_add {l : Launch} {D : va_G} {ids kap lam : Nat → Nat} {RL : List Nat} {ad sk sv : Nat → Nat} {S : fm_M} {r0 : Nat} {a1 : Int32} {a2 : Int32} {a3 : Int32} {r : Int32} {u : fm_M} (hE : fm_E kap RL ad) (hf : m_X8_add kap lam r0 a1 a2 a3 S = some (r, u)) (sz : Nat) : fm_MI l y_X8_add prog_10_method_5_code 4 (Option.some Jvm.ClassFile.FieldType.int) 0 D ids kap lam RL ad sk sv S [.ref (ad r0), .int a1, .int a2, .int a3] sz r u := by
  refine fm_open rfl hE (Nat.le_of_ble_eq_true rfl) (fun p e s m args below meth c ls Z hr hlk G F N hl hsz => ?_)
  subst hsz
  obtain ⟨hx, hb, hml, hown, hts⟩ := id Z
  have hl : lv_has ls 4 [(0, .ref (ad r0)), (1, .int a1), (2, .int a2), (3, .int a3)] := hl
  unfold m_X8_add at hf
  refine lv_aload_n hx hb d_X8_add_0 rfl (lv_at hl 0 rfl) ?_
  refine fm_rgi Z G F hf fr_X8_9 d_X8_add_1 (fun x1 _ hf => ?_)
  refine lv_if_lt (tgt := 58) hx hb d_X8_add_4 (by decide) (fun c4 => ?_) (fun c4 => ?_)
  · have hf := fm_ip c4 hf
    refine lv_aload_n hx hb d_X8_add_58 rfl (lv_at hl 0 rfl) ?_
    refine lv_dup hx hb d_X8_add_59 rfl ?_
    refine fm_rgi Z G F hf fr_X8_9 d_X8_add_60 (fun x60 _ hf => ?_)
    refine lv_iconst (v := 1) hx hb d_X8_add_63 (by decide) ?_
    refine lv_iadd hx hb d_X8_add_64 ?_
    refine fm_rpi Z G F hf fs_X8_9 d_X8_add_65 (fun c h => by have h := eq_of_beq (show (c == 8) = true from h); subst h; rfl) (fun S65 H locs _ F hf => ?_)
    refine lv_aload_n hx hb d_X8_add_68 rfl (lv_at hl 0 rfl) ?_
    refine fm_rgi Z G F hf fr_X8_9 d_X8_add_69 (fun x69 _ hf => ?_)
    exact fm_reti Z hr hlk F d_X8_add_72 (Prod.mk.inj (Option.some.inj hf)).1 (Prod.mk.inj (Option.some.inj hf)).2
  · have hf := fm_ig c4 hf
    refine lv_aload_n hx hb d_X8_add_7 rfl (lv_at hl 0 rfl) ?_
    refine fm_rgi Z G F hf fr_X8_9 d_X8_add_8 (fun x8 _ hf => ?_)
    refine lv_aload_n hx hb d_X8_add_11 rfl (lv_at hl 0 rfl) ?_
    refine fm_rgi Z G F hf fr_X8_24 d_X8_add_12 (fun x12 _ hf => ?_)
    refine lv_icmp_ge (tgt := 58) hx hb d_X8_add_15 (by decide) (fun c15 => ?_) (fun c15 => ?_)
    · have hf := fm_ip c15 hf
      refine lv_aload_n hx hb d_X8_add_58 rfl (lv_at hl 0 rfl) ?_
      refine lv_dup hx hb d_X8_add_59 rfl ?_
      refine fm_rgi Z G F hf fr_X8_9 d_X8_add_60 (fun x60 _ hf => ?_)
      refine lv_iconst (v := 1) hx hb d_X8_add_63 (by decide) ?_
      refine lv_iadd hx hb d_X8_add_64 ?_
      refine fm_rpi Z G F hf fs_X8_9 d_X8_add_65 (fun c h => by have h := eq_of_beq (show (c == 8) = true from h); subst h; rfl) (fun S65 H locs _ F hf => ?_)
      refine lv_aload_n hx hb d_X8_add_68 rfl (lv_at hl 0 rfl) ?_
      refine fm_rgi Z G F hf fr_X8_9 d_X8_add_69 (fun x69 _ hf => ?_)
      exact fm_reti Z hr hlk F d_X8_add_72 (Prod.mk.inj (Option.some.inj hf)).1 (Prod.mk.inj (Option.some.inj hf)).2
    · have hf := fm_ig c15 hf
      refine lv_aload_n hx hb d_X8_add_18 rfl (lv_at hl 0 rfl) ?_
      refine fm_rgr Z G F hf fr_X8_27 d_X8_add_19 (fun q19 _ hf => ?_)
      refine lv_aload_n hx hb d_X8_add_22 rfl (lv_at hl 0 rfl) ?_
      refine fm_rgi Z G F hf fr_X8_9 d_X8_add_23 (fun x23 _ hf => ?_)
      refine lv_iconst (v := 3) hx hb d_X8_add_26 (by decide) ?_
      refine lv_imul hx hb d_X8_add_27 ?_
      refine lv_iload_n hx hb d_X8_add_28 rfl (lv_at hl 1 rfl) ?_
      refine fm_rst Z G F hf d_X8_add_29 (fun S29 H locs _ F hf => ?_)
      refine lv_aload_n hx hb d_X8_add_30 rfl (lv_at hl 0 rfl) ?_
      refine fm_rgr Z G F hf fr_X8_27 d_X8_add_31 (fun q31 _ hf => ?_)
      refine lv_aload_n hx hb d_X8_add_34 rfl (lv_at hl 0 rfl) ?_
      refine fm_rgi Z G F hf fr_X8_9 d_X8_add_35 (fun x35 _ hf => ?_)
      refine lv_iconst (v := 3) hx hb d_X8_add_38 (by decide) ?_
      refine lv_imul hx hb d_X8_add_39 ?_
      refine lv_iconst (v := 1) hx hb d_X8_add_40 (by decide) ?_
      refine lv_iadd hx hb d_X8_add_41 ?_
      refine lv_iload_n hx hb d_X8_add_42 rfl (lv_at hl 2 rfl) ?_
      refine fm_rst Z G F hf d_X8_add_43 (fun S43 H locs _ F hf => ?_)
      refine lv_aload_n hx hb d_X8_add_44 rfl (lv_at hl 0 rfl) ?_
      refine fm_rgr Z G F hf fr_X8_27 d_X8_add_45 (fun q45 _ hf => ?_)
      refine lv_aload_n hx hb d_X8_add_48 rfl (lv_at hl 0 rfl) ?_
      refine fm_rgi Z G F hf fr_X8_9 d_X8_add_49 (fun x49 _ hf => ?_)
      refine lv_iconst (v := 3) hx hb d_X8_add_52 (by decide) ?_
      refine lv_imul hx hb d_X8_add_53 ?_
      refine lv_iconst (v := 2) hx hb d_X8_add_54 (by decide) ?_
      refine lv_iadd hx hb d_X8_add_55 ?_
      refine lv_iload_n hx hb d_X8_add_56 rfl (lv_at hl 3 rfl) ?_
      refine fm_rst Z G F hf d_X8_add_57 (fun S57 H locs _ F hf => ?_)
      refine lv_aload_n hx hb d_X8_add_58 rfl (lv_at hl 0 rfl) ?_
      refine lv_dup hx hb d_X8_add_59 rfl ?_
      refine fm_rgi Z G F hf fr_X8_9 d_X8_add_60 (fun x60 _ hf => ?_)
      refine lv_iconst (v := 1) hx hb d_X8_add_63 (by decide) ?_
      refine lv_iadd hx hb d_X8_add_64 ?_
      refine fm_rpi Z G F hf fs_X8_9 d_X8_add_65 (fun c h => by have h := eq_of_beq (show (c == 8) = true from h); subst h; rfl) (fun S65 H locs _ F hf => ?_)
      refine lv_aload_n hx hb d_X8_add_68 rfl (lv_at hl 0 rfl) ?_
      refine fm_rgi Z G F hf fr_X8_9 d_X8_add_69 (fun x69 _ hf => ?_)
      exact fm_reti Z hr hlk F d_X8_add_72 (Prod.mk.inj (Option.some.inj hf)).1 (Prod.mk.inj (Option.some.inj hf)).2
theorem d_X8_clear_0 : decode prog_10_method_6_code 0 = .ok (.aload_n 0, 1) := by decide +kernel
theorem d_X8_clear_1 : decode prog_10_method_6_code 1 = .ok (.iconst 0, 1) := by decide +kernel
theorem d_X8_clear_2 : decode prog_10_method_6_code 2 = .ok (.putfield 9, 3) := by decide +kernel
theorem d_X8_clear_5 : decode prog_10_method_6_code 5 = .ok (.iconst 0, 1) := by decide +kernel
theorem d_X8_clear_6 : decode prog_10_method_6_code 6 = .ok (.ireturn, 1) := by decide +kernel
def m_X8_clear (kap lam : Nat → Nat) (r0 : Nat) (S : fm_M) : Option (Int32 × fm_M) :=
  fm_pi kap 8 r0 3 S 0 fun S2 =>
  some (0, S2)
set_option maxHeartbeats 4000000 in
set_option maxRecDepth 100000 in
theorem c_X8_clear {l : Launch} {D : va_G} {ids kap lam : Nat → Nat} {RL : List Nat} {ad sk sv : Nat → Nat} {S : fm_M} {r0 : Nat} {r : Int32} {u : fm_M} (hE : fm_E kap RL ad) (hf : m_X8_clear kap lam r0 S = some (r, u)) (sz : Nat) : fm_MI l y_X8_clear prog_10_method_6_code 1 (Option.some Jvm.ClassFile.FieldType.int) 0 D ids kap lam RL ad sk sv S [.ref (ad r0)] sz r u := by
  refine fm_open rfl hE (Nat.le_of_ble_eq_true rfl) (fun p e s m args below meth c ls Z hr hlk G F N hl hsz => ?_)
  subst hsz
  obtain ⟨hx, hb, hml, hown, hts⟩ := id Z
  have hl : lv_has ls 1 [(0, .ref (ad r0))] := hl
  unfold m_X8_clear at hf
  refine lv_aload_n hx hb d_X8_clear_0 rfl (lv_at hl 0 rfl) ?_
  refine lv_iconst (v := 0) hx hb d_X8_clear_1 (by decide) ?_
  refine fm_rpi Z G F hf fs_X8_9 d_X8_clear_2 (fun c h => by have h := eq_of_beq (show (c == 8) = true from h); subst h; rfl) (fun S2 H locs _ F hf => ?_)
  refine lv_iconst (v := 0) hx hb d_X8_clear_5 (by decide) ?_
  exact fm_reti Z hr hlk F d_X8_clear_6 (Prod.mk.inj (Option.some.inj hf)).1 (Prod.mk.inj (Option.some.inj hf)).2
theorem d_X8_keep_0 : decode prog_10_method_7_code 0 = .ok (.aload_n 0, 1) := by decide +kernel
theorem d_X8_keep_1 : decode prog_10_method_7_code 1 = .ok (.getfield 27, 3) := by decide +kernel
theorem d_X8_keep_4 : decode prog_10_method_7_code 4 = .ok (.iconst 0, 1) := by decide +kernel
theorem d_X8_keep_5 : decode prog_10_method_7_code 5 = .ok (.aload_n 0, 1) := by decide +kernel
theorem d_X8_keep_6 : decode prog_10_method_7_code 6 = .ok (.getfield 31, 3) := by decide +kernel
theorem d_X8_keep_9 : decode prog_10_method_7_code 9 = .ok (.iconst 0, 1) := by decide +kernel
theorem d_X8_keep_10 : decode prog_10_method_7_code 10 = .ok (.aload_n 0, 1) := by decide +kernel
theorem d_X8_keep_11 : decode prog_10_method_7_code 11 = .ok (.getfield 27, 3) := by decide +kernel
theorem d_X8_keep_14 : decode prog_10_method_7_code 14 = .ok (.arraylength, 1) := by decide +kernel
theorem d_X8_keep_15 : decode prog_10_method_7_code 15 = .ok (.invokestatic 45, 3) := by decide +kernel
theorem d_X8_keep_18 : decode prog_10_method_7_code 18 = .ok (.aload_n 0, 1) := by decide +kernel
theorem d_X8_keep_19 : decode prog_10_method_7_code 19 = .ok (.aload_n 0, 1) := by decide +kernel
theorem d_X8_keep_20 : decode prog_10_method_7_code 20 = .ok (.getfield 9, 3) := by decide +kernel
theorem d_X8_keep_23 : decode prog_10_method_7_code 23 = .ok (.putfield 15, 3) := by decide +kernel
theorem d_X8_keep_26 : decode prog_10_method_7_code 26 = .ok (.return_, 1) := by decide +kernel
def m_X8_keep (kap lam : Nat → Nat) (r0 : Nat) (S : fm_M) : Option fm_M :=
  fm_gr kap 8 r0 1 S fun q1 =>
  fm_gr kap 8 r0 2 S fun q6 =>
  fm_gr kap 8 r0 1 S fun q11 =>
  fm_ln kap lam 13 q11 fun x14 =>
  fm_cp kap lam q1 0 q6 0 x14 S fun S15 =>
  fm_gi kap 8 r0 3 S15 fun x20 =>
  fm_pi kap 8 r0 4 S15 x20 fun S23 =>
  some S23
set_option maxHeartbeats 4000000 in
set_option maxRecDepth 100000 in
theorem c_X8_keep {l : Launch} {D : va_G} {ids kap lam : Nat → Nat} {RL : List Nat} {ad sk sv : Nat → Nat} {S : fm_M} {r0 : Nat} {u : fm_M} (hE : fm_E kap RL ad) (hf : m_X8_keep kap lam r0 S = some u) (sz : Nat) : fm_MV l y_X8_keep prog_10_method_7_code 1 (Option.none : Option Jvm.ClassFile.FieldType) 1 D ids kap lam RL ad sk sv S [.ref (ad r0)] sz u := by
  refine fm_open rfl hE (Nat.le_of_ble_eq_true rfl) (fun p e s m args below meth c ls Z hr hlk G F N hl hsz => ?_)
  subst hsz
  obtain ⟨hx, hb, hml, hown, hts⟩ := id Z
  have hl : lv_has ls 1 [(0, .ref (ad r0))] := hl
  unfold m_X8_keep at hf
  refine lv_aload_n hx hb d_X8_keep_0 rfl (lv_at hl 0 rfl) ?_
  refine fm_rgr Z G F hf fr_X8_27 d_X8_keep_1 (fun q1 _ hf => ?_)
  refine lv_iconst (v := 0) hx hb d_X8_keep_4 (by decide) ?_
  refine lv_aload_n hx hb d_X8_keep_5 rfl (lv_at hl 0 rfl) ?_
  refine fm_rgr Z G F hf fr_X8_31 d_X8_keep_6 (fun q6 _ hf => ?_)
  refine lv_iconst (v := 0) hx hb d_X8_keep_9 (by decide) ?_
  refine lv_aload_n hx hb d_X8_keep_10 rfl (lv_at hl 0 rfl) ?_
  refine fm_rgr Z G F hf fr_X8_27 d_X8_keep_11 (fun q11 _ hf => ?_)
  refine fm_rln Z G F hf d_X8_keep_14 (fun x14 _ hf => ?_)
  refine fm_rcp Z G F (hml.trans hl.1.symm) hf kw_901 kw_895 kw_894 kw_20 (by decide) d_X8_keep_15 (fun S15 H locs _ F hf => ?_)
  refine lv_aload_n hx hb d_X8_keep_18 rfl (lv_at hl 0 rfl) ?_
  refine lv_aload_n hx hb d_X8_keep_19 rfl (lv_at hl 0 rfl) ?_
  refine fm_rgi Z G F hf fr_X8_9 d_X8_keep_20 (fun x20 _ hf => ?_)
  refine fm_rpi Z G F hf fs_X8_15 d_X8_keep_23 (fun c h => by have h := eq_of_beq (show (c == 8) = true from h); subst h; rfl) (fun S23 H locs _ F hf => ?_)
  exact fm_retv Z hr hlk F d_X8_keep_26 (Option.some.inj hf)
theorem d_X8_takeBack_0 : decode prog_10_method_8_code 0 = .ok (.aload_n 0, 1) := by decide +kernel
theorem d_X8_takeBack_1 : decode prog_10_method_8_code 1 = .ok (.getfield 31, 3) := by decide +kernel
theorem d_X8_takeBack_4 : decode prog_10_method_8_code 4 = .ok (.iconst 0, 1) := by decide +kernel
theorem d_X8_takeBack_5 : decode prog_10_method_8_code 5 = .ok (.aload_n 0, 1) := by decide +kernel
theorem d_X8_takeBack_6 : decode prog_10_method_8_code 6 = .ok (.getfield 27, 3) := by decide +kernel
theorem d_X8_takeBack_9 : decode prog_10_method_8_code 9 = .ok (.iconst 0, 1) := by decide +kernel
theorem d_X8_takeBack_10 : decode prog_10_method_8_code 10 = .ok (.aload_n 0, 1) := by decide +kernel
theorem d_X8_takeBack_11 : decode prog_10_method_8_code 11 = .ok (.getfield 31, 3) := by decide +kernel
theorem d_X8_takeBack_14 : decode prog_10_method_8_code 14 = .ok (.arraylength, 1) := by decide +kernel
theorem d_X8_takeBack_15 : decode prog_10_method_8_code 15 = .ok (.invokestatic 45, 3) := by decide +kernel
theorem d_X8_takeBack_18 : decode prog_10_method_8_code 18 = .ok (.aload_n 0, 1) := by decide +kernel
theorem d_X8_takeBack_19 : decode prog_10_method_8_code 19 = .ok (.aload_n 0, 1) := by decide +kernel
theorem d_X8_takeBack_20 : decode prog_10_method_8_code 20 = .ok (.getfield 15, 3) := by decide +kernel
theorem d_X8_takeBack_23 : decode prog_10_method_8_code 23 = .ok (.putfield 9, 3) := by decide +kernel
theorem d_X8_takeBack_26 : decode prog_10_method_8_code 26 = .ok (.return_, 1) := by decide +kernel
def m_X8_takeBack (kap lam : Nat → Nat) (r0 : Nat) (S : fm_M) : Option fm_M :=
  fm_gr kap 8 r0 2 S fun q1 =>
  fm_gr kap 8 r0 1 S fun q6 =>
  fm_gr kap 8 r0 2 S fun q11 =>
  fm_ln kap lam 13 q11 fun x14 =>
  fm_cp kap lam q1 0 q6 0 x14 S fun S15 =>
  fm_gi kap 8 r0 4 S15 fun x20 =>
  fm_pi kap 8 r0 3 S15 x20 fun S23 =>
  some S23
set_option maxHeartbeats 4000000 in
set_option maxRecDepth 100000 in
theorem c_X8_takeBack {l : Launch} {D : va_G} {ids kap lam : Nat → Nat} {RL : List Nat} {ad sk sv : Nat → Nat} {S : fm_M} {r0 : Nat} {u : fm_M} (hE : fm_E kap RL ad) (hf : m_X8_takeBack kap lam r0 S = some u) (sz : Nat) : fm_MV l y_X8_takeBack prog_10_method_8_code 1 (Option.none : Option Jvm.ClassFile.FieldType) 1 D ids kap lam RL ad sk sv S [.ref (ad r0)] sz u := by
  refine fm_open rfl hE (Nat.le_of_ble_eq_true rfl) (fun p e s m args below meth c ls Z hr hlk G F N hl hsz => ?_)
  subst hsz
  obtain ⟨hx, hb, hml, hown, hts⟩ := id Z
  have hl : lv_has ls 1 [(0, .ref (ad r0))] := hl
  unfold m_X8_takeBack at hf
  refine lv_aload_n hx hb d_X8_takeBack_0 rfl (lv_at hl 0 rfl) ?_
  refine fm_rgr Z G F hf fr_X8_31 d_X8_takeBack_1 (fun q1 _ hf => ?_)
  refine lv_iconst (v := 0) hx hb d_X8_takeBack_4 (by decide) ?_
  refine lv_aload_n hx hb d_X8_takeBack_5 rfl (lv_at hl 0 rfl) ?_
  refine fm_rgr Z G F hf fr_X8_27 d_X8_takeBack_6 (fun q6 _ hf => ?_)
  refine lv_iconst (v := 0) hx hb d_X8_takeBack_9 (by decide) ?_
  refine lv_aload_n hx hb d_X8_takeBack_10 rfl (lv_at hl 0 rfl) ?_
  refine fm_rgr Z G F hf fr_X8_31 d_X8_takeBack_11 (fun q11 _ hf => ?_)
  refine fm_rln Z G F hf d_X8_takeBack_14 (fun x14 _ hf => ?_)
  refine fm_rcp Z G F (hml.trans hl.1.symm) hf kw_901 kw_895 kw_894 kw_20 (by decide) d_X8_takeBack_15 (fun S15 H locs _ F hf => ?_)
  refine lv_aload_n hx hb d_X8_takeBack_18 rfl (lv_at hl 0 rfl) ?_
  refine lv_aload_n hx hb d_X8_takeBack_19 rfl (lv_at hl 0 rfl) ?_
  refine fm_rgi Z G F hf fr_X8_15 d_X8_takeBack_20 (fun x20 _ hf => ?_)
  refine fm_rpi Z G F hf fs_X8_9 d_X8_takeBack_23 (fun c h => by have h := eq_of_beq (show (c == 8) = true from h); subst h; rfl) (fun S23 H locs _ F hf => ?_)
  exact fm_retv Z hr hlk F d_X8_takeBack_26 (Option.some.inj hf)
theorem d_X10_clear_0 : decode prog_12_method_2_code 0 = .ok (.aload_n 0, 1) := by decide +kernel
theorem d_X10_clear_1 : decode prog_12_method_2_code 1 = .ok (.iconst 3, 1) := by decide +kernel
theorem d_X10_clear_2 : decode prog_12_method_2_code 2 = .ok (.putfield 27, 3) := by decide +kernel
theorem d_X10_clear_5 : decode prog_12_method_2_code 5 = .ok (.aload_n 0, 1) := by decide +kernel
theorem d_X10_clear_6 : decode prog_12_method_2_code 6 = .ok (.iconst 2, 1) := by decide +kernel
theorem d_X10_clear_7 : decode prog_12_method_2_code 7 = .ok (.putfield 31, 3) := by decide +kernel
theorem d_X10_clear_10 : decode prog_12_method_2_code 10 = .ok (.aload_n 0, 1) := by decide +kernel
theorem d_X10_clear_11 : decode prog_12_method_2_code 11 = .ok (.iconst 0, 1) := by decide +kernel
theorem d_X10_clear_12 : decode prog_12_method_2_code 12 = .ok (.putfield 34, 3) := by decide +kernel
theorem d_X10_clear_15 : decode prog_12_method_2_code 15 = .ok (.aload_n 0, 1) := by decide +kernel
theorem d_X10_clear_16 : decode prog_12_method_2_code 16 = .ok (.iconst 0, 1) := by decide +kernel
theorem d_X10_clear_17 : decode prog_12_method_2_code 17 = .ok (.putfield 37, 3) := by decide +kernel
theorem d_X10_clear_20 : decode prog_12_method_2_code 20 = .ok (.return_, 1) := by decide +kernel
def m_X10_clear (kap lam : Nat → Nat) (r0 : Nat) (S : fm_M) : Option fm_M :=
  fm_pi kap 10 r0 0 S 3 fun S2 =>
  fm_pi kap 10 r0 1 S2 2 fun S7 =>
  fm_pi kap 10 r0 2 S7 0 fun S12 =>
  fm_pi kap 10 r0 5 S12 0 fun S17 =>
  some S17
set_option maxHeartbeats 4000000 in
set_option maxRecDepth 100000 in
theorem c_X10_clear {l : Launch} {D : va_G} {ids kap lam : Nat → Nat} {RL : List Nat} {ad sk sv : Nat → Nat} {S : fm_M} {r0 : Nat} {u : fm_M} (hE : fm_E kap RL ad) (hf : m_X10_clear kap lam r0 S = some u) (sz : Nat) : fm_MV l y_X10_clear prog_12_method_2_code 1 (Option.none : Option Jvm.ClassFile.FieldType) 0 D ids kap lam RL ad sk sv S [.ref (ad r0)] sz u := by
  refine fm_open rfl hE (Nat.le_of_ble_eq_true rfl) (fun p e s m args below meth c ls Z hr hlk G F N hl hsz => ?_)
  subst hsz
  obtain ⟨hx, hb, hml, hown, hts⟩ := id Z
  have hl : lv_has ls 1 [(0, .ref (ad r0))] := hl
  unfold m_X10_clear at hf
  refine lv_aload_n hx hb d_X10_clear_0 rfl (lv_at hl 0 rfl) ?_
  refine lv_iconst (v := 3) hx hb d_X10_clear_1 (by decide) ?_
  refine fm_rpi Z G F hf fs_X10_27 d_X10_clear_2 (fun c h => by have h := eq_of_beq (show (c == 10) = true from h); subst h; rfl) (fun S2 H locs _ F hf => ?_)
  refine lv_aload_n hx hb d_X10_clear_5 rfl (lv_at hl 0 rfl) ?_
  refine lv_iconst (v := 2) hx hb d_X10_clear_6 (by decide) ?_
  refine fm_rpi Z G F hf fs_X10_31 d_X10_clear_7 (fun c h => by have h := eq_of_beq (show (c == 10) = true from h); subst h; rfl) (fun S7 H locs _ F hf => ?_)
  refine lv_aload_n hx hb d_X10_clear_10 rfl (lv_at hl 0 rfl) ?_
  refine lv_iconst (v := 0) hx hb d_X10_clear_11 (by decide) ?_
  refine fm_rpi Z G F hf fs_X10_34 d_X10_clear_12 (fun c h => by have h := eq_of_beq (show (c == 10) = true from h); subst h; rfl) (fun S12 H locs _ F hf => ?_)
  refine lv_aload_n hx hb d_X10_clear_15 rfl (lv_at hl 0 rfl) ?_
  refine lv_iconst (v := 0) hx hb d_X10_clear_16 (by decide) ?_
  refine fm_rpi Z G F hf fs_X10_37 d_X10_clear_17 (fun c h => by have h := eq_of_beq (show (c == 10) = true from h); subst h; rfl) (fun S17 H locs _ F hf => ?_)
  exact fm_retv Z hr hlk F d_X10_clear_20 (Option.some.inj hf)
theorem d_X10_addSign_0 : decode prog_12_method_3_code 0 = .ok (.aload_n 0, 1) := by decide +kernel
theorem d_X10_addSign_1 : decode prog_12_method_3_code 1 = .ok (.getfield 37, 3) := by decide +kernel
theorem d_X10_addSign_4 : decode prog_12_method_3_code 4 = .ok (.bipush 100, 2) := by decide +kernel
theorem d_X10_addSign_6 : decode prog_12_method_3_code 6 = .ok (.if_icmp .ge 33, 3) := by decide +kernel
theorem d_X10_addSign_9 : decode prog_12_method_3_code 9 = .ok (.aload_n 0, 1) := by decide +kernel
theorem d_X10_addSign_10 : decode prog_12_method_3_code 10 = .ok (.getfield 18, 3) := by decide +kernel
theorem d_X10_addSign_13 : decode prog_12_method_3_code 13 = .ok (.aload_n 0, 1) := by decide +kernel
theorem d_X10_addSign_14 : decode prog_12_method_3_code 14 = .ok (.getfield 37, 3) := by decide +kernel
theorem d_X10_addSign_17 : decode prog_12_method_3_code 17 = .ok (.iload_n 1, 1) := by decide +kernel
theorem d_X10_addSign_18 : decode prog_12_method_3_code 18 = .ok (.iastore, 1) := by decide +kernel
theorem d_X10_addSign_19 : decode prog_12_method_3_code 19 = .ok (.aload_n 0, 1) := by decide +kernel
theorem d_X10_addSign_20 : decode prog_12_method_3_code 20 = .ok (.getfield 21, 3) := by decide +kernel
theorem d_X10_addSign_23 : decode prog_12_method_3_code 23 = .ok (.aload_n 0, 1) := by decide +kernel
theorem d_X10_addSign_24 : decode prog_12_method_3_code 24 = .ok (.getfield 37, 3) := by decide +kernel
theorem d_X10_addSign_27 : decode prog_12_method_3_code 27 = .ok (.iload_n 2, 1) := by decide +kernel
theorem d_X10_addSign_28 : decode prog_12_method_3_code 28 = .ok (.iastore, 1) := by decide +kernel
theorem d_X10_addSign_29 : decode prog_12_method_3_code 29 = .ok (.aload_n 0, 1) := by decide +kernel
theorem d_X10_addSign_30 : decode prog_12_method_3_code 30 = .ok (.dup, 1) := by decide +kernel
theorem d_X10_addSign_31 : decode prog_12_method_3_code 31 = .ok (.getfield 37, 3) := by decide +kernel
theorem d_X10_addSign_34 : decode prog_12_method_3_code 34 = .ok (.iconst 1, 1) := by decide +kernel
theorem d_X10_addSign_35 : decode prog_12_method_3_code 35 = .ok (.iadd, 1) := by decide +kernel
theorem d_X10_addSign_36 : decode prog_12_method_3_code 36 = .ok (.putfield 37, 3) := by decide +kernel
theorem d_X10_addSign_39 : decode prog_12_method_3_code 39 = .ok (.return_, 1) := by decide +kernel
def m_X10_addSign (kap lam : Nat → Nat) (r0 : Nat) (a1 : Int32) (a2 : Int32) (S : fm_M) : Option fm_M :=
  fm_gi kap 10 r0 5 S fun x1 =>
  if 100 ≤ x1 then (
   some S
  ) else (
   fm_gr kap 10 r0 6 S fun q10 =>
   fm_gi kap 10 r0 5 S fun x14 =>
   fm_st kap lam q10 x14 a1 S fun S18 =>
   fm_gr kap 10 r0 7 S18 fun q20 =>
   fm_gi kap 10 r0 5 S18 fun x24 =>
   fm_st kap lam q20 x24 a2 S18 fun S28 =>
   fm_gi kap 10 r0 5 S28 fun x31 =>
   fm_pi kap 10 r0 5 S28 (x31 + 1) fun S36 =>
   some S36
  )
set_option maxHeartbeats 4000000 in
set_option maxRecDepth 100000 in
theorem c_X10_addSign {l : Launch} {D : va_G} {ids kap lam : Nat → Nat} {RL : List Nat} {ad sk sv : Nat → Nat} {S : fm_M} {r0 : Nat} {a1 : Int32} {a2 : Int32} {u : fm_M} (hE : fm_E kap RL ad) (hf : m_X10_addSign kap lam r0 a1 a2 S = some u) (sz : Nat) : fm_MV l y_X10_addSign prog_12_method_3_code 3 (Option.none : Option Jvm.ClassFile.FieldType) 0 D ids kap lam RL ad sk sv S [.ref (ad r0), .int a1, .int a2] sz u := by
  refine fm_open rfl hE (Nat.le_of_ble_eq_true rfl) (fun p e s m args below meth c ls Z hr hlk G F N hl hsz => ?_)
  subst hsz
  obtain ⟨hx, hb, hml, hown, hts⟩ := id Z
  have hl : lv_has ls 3 [(0, .ref (ad r0)), (1, .int a1), (2, .int a2)] := hl
  unfold m_X10_addSign at hf
  refine lv_aload_n hx hb d_X10_addSign_0 rfl (lv_at hl 0 rfl) ?_
  refine fm_rgi Z G F hf fr_X10_37 d_X10_addSign_1 (fun x1 _ hf => ?_)
  refine lv_bipush (v := 100) hx hb d_X10_addSign_4 (by decide) ?_
  refine lv_icmp_ge (tgt := 39) hx hb d_X10_addSign_6 (by decide) (fun c6 => ?_) (fun c6 => ?_)
  · have hf := fm_ip c6 hf
    exact fm_retv Z hr hlk F d_X10_addSign_39 (Option.some.inj hf)
  · have hf := fm_ig c6 hf
    refine lv_aload_n hx hb d_X10_addSign_9 rfl (lv_at hl 0 rfl) ?_
    refine fm_rgr Z G F hf fr_X10_18 d_X10_addSign_10 (fun q10 _ hf => ?_)
    refine lv_aload_n hx hb d_X10_addSign_13 rfl (lv_at hl 0 rfl) ?_
    refine fm_rgi Z G F hf fr_X10_37 d_X10_addSign_14 (fun x14 _ hf => ?_)
    refine lv_iload_n hx hb d_X10_addSign_17 rfl (lv_at hl 1 rfl) ?_
    refine fm_rst Z G F hf d_X10_addSign_18 (fun S18 H locs _ F hf => ?_)
    refine lv_aload_n hx hb d_X10_addSign_19 rfl (lv_at hl 0 rfl) ?_
    refine fm_rgr Z G F hf fr_X10_21 d_X10_addSign_20 (fun q20 _ hf => ?_)
    refine lv_aload_n hx hb d_X10_addSign_23 rfl (lv_at hl 0 rfl) ?_
    refine fm_rgi Z G F hf fr_X10_37 d_X10_addSign_24 (fun x24 _ hf => ?_)
    refine lv_iload_n hx hb d_X10_addSign_27 rfl (lv_at hl 2 rfl) ?_
    refine fm_rst Z G F hf d_X10_addSign_28 (fun S28 H locs _ F hf => ?_)
    refine lv_aload_n hx hb d_X10_addSign_29 rfl (lv_at hl 0 rfl) ?_
    refine lv_dup hx hb d_X10_addSign_30 rfl ?_
    refine fm_rgi Z G F hf fr_X10_37 d_X10_addSign_31 (fun x31 _ hf => ?_)
    refine lv_iconst (v := 1) hx hb d_X10_addSign_34 (by decide) ?_
    refine lv_iadd hx hb d_X10_addSign_35 ?_
    refine fm_rpi Z G F hf fs_X10_37 d_X10_addSign_36 (fun c h => by have h := eq_of_beq (show (c == 10) = true from h); subst h; rfl) (fun S36 H locs _ F hf => ?_)
    exact fm_retv Z hr hlk F d_X10_addSign_39 (Option.some.inj hf)
theorem d_X10_addClause_0 : decode prog_12_method_4_code 0 = .ok (.aload_n 0, 1) := by decide +kernel
theorem d_X10_addClause_1 : decode prog_12_method_4_code 1 = .ok (.getfield 34, 3) := by decide +kernel
theorem d_X10_addClause_4 : decode prog_12_method_4_code 4 = .ok (.bipush 10, 2) := by decide +kernel
theorem d_X10_addClause_6 : decode prog_12_method_4_code 6 = .ok (.if_icmp .ge 36, 3) := by decide +kernel
theorem d_X10_addClause_9 : decode prog_12_method_4_code 9 = .ok (.aload_n 0, 1) := by decide +kernel
theorem d_X10_addClause_10 : decode prog_12_method_4_code 10 = .ok (.getfield 9, 3) := by decide +kernel
theorem d_X10_addClause_13 : decode prog_12_method_4_code 13 = .ok (.aload_n 0, 1) := by decide +kernel
theorem d_X10_addClause_14 : decode prog_12_method_4_code 14 = .ok (.getfield 34, 3) := by decide +kernel
theorem d_X10_addClause_17 : decode prog_12_method_4_code 17 = .ok (.iload_n 1, 1) := by decide +kernel
theorem d_X10_addClause_18 : decode prog_12_method_4_code 18 = .ok (.iastore, 1) := by decide +kernel
theorem d_X10_addClause_19 : decode prog_12_method_4_code 19 = .ok (.aload_n 0, 1) := by decide +kernel
theorem d_X10_addClause_20 : decode prog_12_method_4_code 20 = .ok (.getfield 15, 3) := by decide +kernel
theorem d_X10_addClause_23 : decode prog_12_method_4_code 23 = .ok (.aload_n 0, 1) := by decide +kernel
theorem d_X10_addClause_24 : decode prog_12_method_4_code 24 = .ok (.getfield 34, 3) := by decide +kernel
theorem d_X10_addClause_27 : decode prog_12_method_4_code 27 = .ok (.aload_n 0, 1) := by decide +kernel
theorem d_X10_addClause_28 : decode prog_12_method_4_code 28 = .ok (.getfield 37, 3) := by decide +kernel
theorem d_X10_addClause_31 : decode prog_12_method_4_code 31 = .ok (.iastore, 1) := by decide +kernel
theorem d_X10_addClause_32 : decode prog_12_method_4_code 32 = .ok (.aload_n 0, 1) := by decide +kernel
theorem d_X10_addClause_33 : decode prog_12_method_4_code 33 = .ok (.dup, 1) := by decide +kernel
theorem d_X10_addClause_34 : decode prog_12_method_4_code 34 = .ok (.getfield 34, 3) := by decide +kernel
theorem d_X10_addClause_37 : decode prog_12_method_4_code 37 = .ok (.iconst 1, 1) := by decide +kernel
theorem d_X10_addClause_38 : decode prog_12_method_4_code 38 = .ok (.iadd, 1) := by decide +kernel
theorem d_X10_addClause_39 : decode prog_12_method_4_code 39 = .ok (.putfield 34, 3) := by decide +kernel
theorem d_X10_addClause_42 : decode prog_12_method_4_code 42 = .ok (.return_, 1) := by decide +kernel
def m_X10_addClause (kap lam : Nat → Nat) (r0 : Nat) (a1 : Int32) (S : fm_M) : Option fm_M :=
  fm_gi kap 10 r0 2 S fun x1 =>
  if 10 ≤ x1 then (
   some S
  ) else (
   fm_gr kap 10 r0 3 S fun q10 =>
   fm_gi kap 10 r0 2 S fun x14 =>
   fm_st kap lam q10 x14 a1 S fun S18 =>
   fm_gr kap 10 r0 4 S18 fun q20 =>
   fm_gi kap 10 r0 2 S18 fun x24 =>
   fm_gi kap 10 r0 5 S18 fun x28 =>
   fm_st kap lam q20 x24 x28 S18 fun S31 =>
   fm_gi kap 10 r0 2 S31 fun x34 =>
   fm_pi kap 10 r0 2 S31 (x34 + 1) fun S39 =>
   some S39
  )
set_option maxHeartbeats 4000000 in
set_option maxRecDepth 100000 in
theorem c_X10_addClause {l : Launch} {D : va_G} {ids kap lam : Nat → Nat} {RL : List Nat} {ad sk sv : Nat → Nat} {S : fm_M} {r0 : Nat} {a1 : Int32} {u : fm_M} (hE : fm_E kap RL ad) (hf : m_X10_addClause kap lam r0 a1 S = some u) (sz : Nat) : fm_MV l y_X10_addClause prog_12_method_4_code 2 (Option.none : Option Jvm.ClassFile.FieldType) 0 D ids kap lam RL ad sk sv S [.ref (ad r0), .int a1] sz u := by
  refine fm_open rfl hE (Nat.le_of_ble_eq_true rfl) (fun p e s m args below meth c ls Z hr hlk G F N hl hsz => ?_)
  subst hsz
  obtain ⟨hx, hb, hml, hown, hts⟩ := id Z
  have hl : lv_has ls 2 [(0, .ref (ad r0)), (1, .int a1)] := hl
  unfold m_X10_addClause at hf
  refine lv_aload_n hx hb d_X10_addClause_0 rfl (lv_at hl 0 rfl) ?_
  refine fm_rgi Z G F hf fr_X10_34 d_X10_addClause_1 (fun x1 _ hf => ?_)
  refine lv_bipush (v := 10) hx hb d_X10_addClause_4 (by decide) ?_
  refine lv_icmp_ge (tgt := 42) hx hb d_X10_addClause_6 (by decide) (fun c6 => ?_) (fun c6 => ?_)
  · have hf := fm_ip c6 hf
    exact fm_retv Z hr hlk F d_X10_addClause_42 (Option.some.inj hf)
  · have hf := fm_ig c6 hf
    refine lv_aload_n hx hb d_X10_addClause_9 rfl (lv_at hl 0 rfl) ?_
    refine fm_rgr Z G F hf fr_X10_9 d_X10_addClause_10 (fun q10 _ hf => ?_)
    refine lv_aload_n hx hb d_X10_addClause_13 rfl (lv_at hl 0 rfl) ?_
    refine fm_rgi Z G F hf fr_X10_34 d_X10_addClause_14 (fun x14 _ hf => ?_)
    refine lv_iload_n hx hb d_X10_addClause_17 rfl (lv_at hl 1 rfl) ?_
    refine fm_rst Z G F hf d_X10_addClause_18 (fun S18 H locs _ F hf => ?_)
    refine lv_aload_n hx hb d_X10_addClause_19 rfl (lv_at hl 0 rfl) ?_
    refine fm_rgr Z G F hf fr_X10_15 d_X10_addClause_20 (fun q20 _ hf => ?_)
    refine lv_aload_n hx hb d_X10_addClause_23 rfl (lv_at hl 0 rfl) ?_
    refine fm_rgi Z G F hf fr_X10_34 d_X10_addClause_24 (fun x24 _ hf => ?_)
    refine lv_aload_n hx hb d_X10_addClause_27 rfl (lv_at hl 0 rfl) ?_
    refine fm_rgi Z G F hf fr_X10_37 d_X10_addClause_28 (fun x28 _ hf => ?_)
    refine fm_rst Z G F hf d_X10_addClause_31 (fun S31 H locs _ F hf => ?_)
    refine lv_aload_n hx hb d_X10_addClause_32 rfl (lv_at hl 0 rfl) ?_
    refine lv_dup hx hb d_X10_addClause_33 rfl ?_
    refine fm_rgi Z G F hf fr_X10_34 d_X10_addClause_34 (fun x34 _ hf => ?_)
    refine lv_iconst (v := 1) hx hb d_X10_addClause_37 (by decide) ?_
    refine lv_iadd hx hb d_X10_addClause_38 ?_
    refine fm_rpi Z G F hf fs_X10_34 d_X10_addClause_39 (fun c h => by have h := eq_of_beq (show (c == 10) = true from h); subst h; rfl) (fun S39 H locs _ F hf => ?_)
    exact fm_retv Z hr hlk F d_X10_addClause_42 (Option.some.inj hf)
theorem d_X10_offerOf_0 : decode prog_12_method_5_code 0 = .ok (.iconst 0, 1) := by decide +kernel
theorem d_X10_offerOf_1 : decode prog_12_method_5_code 1 = .ok (.istore_n 2, 1) := by decide +kernel
theorem d_X10_offerOf_2 : decode prog_12_method_5_code 2 = .ok (.iconst 0, 1) := by decide +kernel
theorem d_X10_offerOf_3 : decode prog_12_method_5_code 3 = .ok (.istore_n 3, 1) := by decide +kernel
theorem d_X10_offerOf_4 : decode prog_12_method_5_code 4 = .ok (.iconst 0, 1) := by decide +kernel
theorem d_X10_offerOf_5 : decode prog_12_method_5_code 5 = .ok (.istore 4, 2) := by decide +kernel
theorem d_X10_offerOf_7 : decode prog_12_method_5_code 7 = .ok (.iconst 0, 1) := by decide +kernel
theorem d_X10_offerOf_8 : decode prog_12_method_5_code 8 = .ok (.istore 5, 2) := by decide +kernel
theorem d_X10_offerOf_10 : decode prog_12_method_5_code 10 = .ok (.iload 5, 2) := by decide +kernel
theorem d_X10_offerOf_12 : decode prog_12_method_5_code 12 = .ok (.bipush 12, 2) := by decide +kernel
theorem d_X10_offerOf_14 : decode prog_12_method_5_code 14 = .ok (.if_icmp .ge 47, 3) := by decide +kernel
theorem d_X10_offerOf_17 : decode prog_12_method_5_code 17 = .ok (.iload_n 1, 1) := by decide +kernel
theorem d_X10_offerOf_18 : decode prog_12_method_5_code 18 = .ok (.iload 5, 2) := by decide +kernel
theorem d_X10_offerOf_20 : decode prog_12_method_5_code 20 = .ok (.ishr, 1) := by decide +kernel
theorem d_X10_offerOf_21 : decode prog_12_method_5_code 21 = .ok (.iconst 1, 1) := by decide +kernel
theorem d_X10_offerOf_22 : decode prog_12_method_5_code 22 = .ok (.iand, 1) := by decide +kernel
theorem d_X10_offerOf_23 : decode prog_12_method_5_code 23 = .ok (.ifCond .eq 9, 3) := by decide +kernel
theorem d_X10_offerOf_26 : decode prog_12_method_5_code 26 = .ok (.iload_n 3, 1) := by decide +kernel
theorem d_X10_offerOf_27 : decode prog_12_method_5_code 27 = .ok (.iconst 1, 1) := by decide +kernel
theorem d_X10_offerOf_28 : decode prog_12_method_5_code 28 = .ok (.iadd, 1) := by decide +kernel
theorem d_X10_offerOf_29 : decode prog_12_method_5_code 29 = .ok (.goto 4, 3) := by decide +kernel
theorem d_X10_offerOf_32 : decode prog_12_method_5_code 32 = .ok (.iconst 0, 1) := by decide +kernel
theorem d_X10_offerOf_33 : decode prog_12_method_5_code 33 = .ok (.istore_n 3, 1) := by decide +kernel
theorem d_X10_offerOf_34 : decode prog_12_method_5_code 34 = .ok (.iload_n 2, 1) := by decide +kernel
theorem d_X10_offerOf_35 : decode prog_12_method_5_code 35 = .ok (.iload_n 3, 1) := by decide +kernel
theorem d_X10_offerOf_36 : decode prog_12_method_5_code 36 = .ok (.iconst 1, 1) := by decide +kernel
theorem d_X10_offerOf_37 : decode prog_12_method_5_code 37 = .ok (.if_icmp .ne 7, 3) := by decide +kernel
theorem d_X10_offerOf_40 : decode prog_12_method_5_code 40 = .ok (.iconst 1, 1) := by decide +kernel
theorem d_X10_offerOf_41 : decode prog_12_method_5_code 41 = .ok (.goto 4, 3) := by decide +kernel
theorem d_X10_offerOf_44 : decode prog_12_method_5_code 44 = .ok (.iconst 0, 1) := by decide +kernel
theorem d_X10_offerOf_45 : decode prog_12_method_5_code 45 = .ok (.iadd, 1) := by decide +kernel
theorem d_X10_offerOf_46 : decode prog_12_method_5_code 46 = .ok (.istore_n 2, 1) := by decide +kernel
theorem d_X10_offerOf_47 : decode prog_12_method_5_code 47 = .ok (.iload 4, 2) := by decide +kernel
theorem d_X10_offerOf_49 : decode prog_12_method_5_code 49 = .ok (.iload_n 3, 1) := by decide +kernel
theorem d_X10_offerOf_50 : decode prog_12_method_5_code 50 = .ok (.invokestatic 40, 3) := by decide +kernel
theorem d_X10_offerOf_53 : decode prog_12_method_5_code 53 = .ok (.istore 4, 2) := by decide +kernel
theorem d_X10_offerOf_55 : decode prog_12_method_5_code 55 = .ok (.iinc 5 1, 3) := by decide +kernel
theorem d_X10_offerOf_58 : decode prog_12_method_5_code 58 = .ok (.goto (-48), 3) := by decide +kernel
theorem d_X10_offerOf_61 : decode prog_12_method_5_code 61 = .ok (.aload_n 0, 1) := by decide +kernel
theorem d_X10_offerOf_62 : decode prog_12_method_5_code 62 = .ok (.getfield 27, 3) := by decide +kernel
theorem d_X10_offerOf_65 : decode prog_12_method_5_code 65 = .ok (.iload_n 2, 1) := by decide +kernel
theorem d_X10_offerOf_66 : decode prog_12_method_5_code 66 = .ok (.imul, 1) := by decide +kernel
theorem d_X10_offerOf_67 : decode prog_12_method_5_code 67 = .ok (.aload_n 0, 1) := by decide +kernel
theorem d_X10_offerOf_68 : decode prog_12_method_5_code 68 = .ok (.getfield 31, 3) := by decide +kernel
theorem d_X10_offerOf_71 : decode prog_12_method_5_code 71 = .ok (.iload 4, 2) := by decide +kernel
theorem d_X10_offerOf_73 : decode prog_12_method_5_code 73 = .ok (.imul, 1) := by decide +kernel
theorem d_X10_offerOf_74 : decode prog_12_method_5_code 74 = .ok (.iadd, 1) := by decide +kernel
theorem d_X10_offerOf_75 : decode prog_12_method_5_code 75 = .ok (.ireturn, 1) := by decide +kernel
def k_X10_offerOf_10 (kap lam : Nat → Nat) (S : fm_M) (go10 : Nat → Int32 → Int32 → Int32 → Int32 → Int32 → Option Int32) (r0 : Nat) (a1 : Int32) (a2 : Int32) (a3 : Int32) (a4 : Int32) (a5 : Int32)  : Option Int32 :=
  if 12 ≤ a5 then (
   fm_gi kap 10 r0 0 S fun x62 =>
   fm_gi kap 10 r0 1 S fun x68 =>
   some ((x62 * a2) + (x68 * a4))
  ) else (
   if ((a1 >>> (a5 &&& 31)) &&& 1) = 0 then (
    fm_let (0 : Int32) fun x33 =>
    if x33 = 1 then (
     fm_let (a2 + 1 : Int32) fun x46 =>
     fm_let (if a4 < x33 then x33 else a4 : Int32) fun x50 =>
     fm_let (a5 + 1 : Int32) fun x55 =>
     go10 r0 a1 x46 x33 x50 x55
    ) else (
     fm_let (a2 + 0 : Int32) fun x46 =>
     fm_let (if a4 < x33 then x33 else a4 : Int32) fun x50 =>
     fm_let (a5 + 1 : Int32) fun x55 =>
     go10 r0 a1 x46 x33 x50 x55
    )
   ) else (
    fm_let (a3 + 1 : Int32) fun x33 =>
    if x33 = 1 then (
     fm_let (a2 + 1 : Int32) fun x46 =>
     fm_let (if a4 < x33 then x33 else a4 : Int32) fun x50 =>
     fm_let (a5 + 1 : Int32) fun x55 =>
     go10 r0 a1 x46 x33 x50 x55
    ) else (
     fm_let (a2 + 0 : Int32) fun x46 =>
     fm_let (if a4 < x33 then x33 else a4 : Int32) fun x50 =>
     fm_let (a5 + 1 : Int32) fun x55 =>
     go10 r0 a1 x46 x33 x50 x55
    )
   )
  )
def b_X10_offerOf_10 (kap lam : Nat → Nat) (S : fm_M) : Nat → Nat → Int32 → Int32 → Int32 → Int32 → Int32 → Option Int32
  | 0 => fun _ _ _ _ _ _ => none
  | n + 1 => k_X10_offerOf_10 kap lam S (b_X10_offerOf_10 kap lam S n)
def m_X10_offerOf (kap lam : Nat → Nat) (r0 : Nat) (a1 : Int32) (S : fm_M) : Option Int32 :=
  fm_let (0 : Int32) fun x1 =>
  fm_let (0 : Int32) fun x3 =>
  fm_let (0 : Int32) fun x5 =>
  fm_let (0 : Int32) fun x8 =>
  b_X10_offerOf_10 kap lam S fm_LF r0 a1 x1 x3 x5 x8
set_option maxHeartbeats 4000000 in
set_option maxRecDepth 100000 in
theorem c_X10_offerOf {l : Launch} {D : va_G} {ids kap lam : Nat → Nat} {RL : List Nat} {ad sk sv : Nat → Nat} {S : fm_M} {r0 : Nat} {a1 : Int32} {r : Int32} (hE : fm_E kap RL ad) (hf : m_X10_offerOf kap lam r0 a1 S = some r) (sz : Nat) : fm_MI l y_X10_offerOf prog_12_method_5_code 6 (Option.some Jvm.ClassFile.FieldType.int) 1 D ids kap lam RL ad sk sv S [.ref (ad r0), .int a1] sz r S := by
  refine fm_open rfl hE (Nat.le_of_ble_eq_true rfl) (fun p e s m args below meth c ls Z hr hlk G F N hl hsz => ?_)
  subst hsz
  obtain ⟨hx, hb, hml, hown, hts⟩ := id Z
  have hl : lv_has ls 6 [(0, .ref (ad r0)), (1, .int a1)] := hl
  generalize hQ : MQ below _ args s 0 0 (fm_A RL ad s.heap.size) = Qf
  have hL : ∀ n : Nat, (∀ (r0 : Nat) (a1 : Int32) (a2 : Int32) (a3 : Int32) (a4 : Int32) (a5 : Int32)  (H : Heap) (locs : List Loc) (ls : Array Slot), fm_F D ids kap lam RL ad S (fm_A RL ad s.heap.size) s.heap H locs → lv_has ls 6 [(0, .ref (ad r0)), (1, .int a1), (2, .int a2), (3, .int a3), (4, .int a4), (5, .int a5)] → b_X10_offerOf_10 kap lam S n r0 a1 a2 a3 a4 a5 = some r → W p l e (fm_rm 1) s m args below meth c H locs 0 0 Qf (F0 m 10 ls [])) := by
    intro n
    induction n with
    | zero => exact fun _ _ _ _ _ _ _ _ _ _ _ hf => absurd hf (by intro h; cases h)
    | succ n ih =>
      intro r0 a1 a2 a3 a4 a5 H locs ls F hl hf
      have hf : k_X10_offerOf_10 kap lam S (b_X10_offerOf_10 kap lam S n) r0 a1 a2 a3 a4 a5 = some r := hf
      unfold k_X10_offerOf_10 at hf
      refine lv_iload hx hb d_X10_offerOf_10 (lv_at hl 5 rfl) ?_
      refine lv_bipush (v := 12) hx hb d_X10_offerOf_12 (by decide) ?_
      refine lv_icmp_ge (tgt := 61) hx hb d_X10_offerOf_14 (by decide) (fun c14 => ?_) (fun c14 => ?_)
      · have hf := fm_ip c14 hf
        refine lv_aload_n hx hb d_X10_offerOf_61 rfl (lv_at hl 0 rfl) ?_
        refine fm_rgi Z G F hf fr_X10_27 d_X10_offerOf_62 (fun x62 _ hf => ?_)
        refine lv_iload_n hx hb d_X10_offerOf_65 rfl (lv_at hl 2 rfl) ?_
        refine lv_imul hx hb d_X10_offerOf_66 ?_
        refine lv_aload_n hx hb d_X10_offerOf_67 rfl (lv_at hl 0 rfl) ?_
        refine fm_rgi Z G F hf fr_X10_31 d_X10_offerOf_68 (fun x68 _ hf => ?_)
        refine lv_iload hx hb d_X10_offerOf_71 (lv_at hl 4 rfl) ?_
        refine lv_imul hx hb d_X10_offerOf_73 ?_
        refine lv_iadd hx hb d_X10_offerOf_74 ?_
        rw [← hQ]; exact fm_reti Z hr hlk F d_X10_offerOf_75 (Option.some.inj hf) rfl
      · have hf := fm_ig c14 hf
        refine lv_iload_n hx hb d_X10_offerOf_17 rfl (lv_at hl 1 rfl) ?_
        refine lv_iload hx hb d_X10_offerOf_18 (lv_at hl 5 rfl) ?_
        refine lv_ishr hx hb d_X10_offerOf_20 ?_
        refine lv_iconst (v := 1) hx hb d_X10_offerOf_21 (by decide) ?_
        refine lv_iand hx hb d_X10_offerOf_22 ?_
        refine lv_if_eq (tgt := 32) hx hb d_X10_offerOf_23 (by decide) (fun c23 => ?_) (fun c23 => ?_)
        · have hf := fm_ip c23 hf
          refine lv_iconst (v := 0) hx hb d_X10_offerOf_32 (by decide) ?_
          refine lv_topi (fun x33 ex33 => ?_)
          have hf := fm_let_at ex33 hf
          refine lv_istore_n (lv' := [(3, .int x33), (0, .ref (ad r0)), (1, .int a1), (2, .int a2), (4, .int a4), (5, .int a5)]) hx hb d_X10_offerOf_33 rfl hl (by decide) rfl (fun ls hl => ?_)
          refine lv_iload_n hx hb d_X10_offerOf_34 rfl (lv_at hl 3 rfl) ?_
          refine lv_iload_n hx hb d_X10_offerOf_35 rfl (lv_at hl 0 rfl) ?_
          refine lv_iconst (v := 1) hx hb d_X10_offerOf_36 (by decide) ?_
          refine lv_icmp_ne (tgt := 44) hx hb d_X10_offerOf_37 (by decide) (fun c37 => ?_) (fun c37 => ?_)
          · have hf := fm_ig c37 hf
            refine lv_iconst (v := 0) hx hb d_X10_offerOf_44 (by decide) ?_
            refine lv_iadd hx hb d_X10_offerOf_45 ?_
            refine lv_topi (fun x46 ex46 => ?_)
            have hf := fm_let_at ex46 hf
            refine lv_istore_n (lv' := [(2, .int x46), (3, .int x33), (0, .ref (ad r0)), (1, .int a1), (4, .int a4), (5, .int a5)]) hx hb d_X10_offerOf_46 rfl hl (by decide) rfl (fun ls hl => ?_)
            refine lv_iload hx hb d_X10_offerOf_47 (lv_at hl 4 rfl) ?_
            refine lv_iload_n hx hb d_X10_offerOf_49 rfl (lv_at hl 1 rfl) ?_
            refine va_mmax hx hb (hml.trans hl.1.symm) hown (hts _ (fm_in kw_558 rfl)) (hts _ (fm_in kw_86 rfl)) (hts _ (fm_in kw_4 rfl)) (hts _ (fm_in kw_87 rfl)) (by decide) (Nat.le_of_ble_eq_true rfl) (by decide) (by decide) d_X10_offerOf_50 ?_
            refine lv_topi (fun x50 ex50 => ?_)
            have hf := fm_let_at ex50 hf
            refine lv_istore (lv' := [(4, .int x50), (2, .int x46), (3, .int x33), (0, .ref (ad r0)), (1, .int a1), (5, .int a5)]) hx hb d_X10_offerOf_53 hl (by decide) rfl (fun ls hl => ?_)
            obtain ⟨x55, ex55⟩ : ∃ y : Int32, y = a5 + 1 := ⟨_, rfl⟩
            have hf := fm_let_at ex55 hf
            refine lv_iinc (v := x55) (lv' := [(5, .int x55), (4, .int x50), (2, .int x46), (3, .int x33), (0, .ref (ad r0)), (1, .int a1)]) hx hb d_X10_offerOf_55 hl (k := 5) rfl (by rw [ex55]; rfl) (by decide) rfl (fun ls hl => ?_)
            refine lv_goto (tgt := 10) hx hb d_X10_offerOf_58 (by decide) ?_
            exact ih r0 a1 x46 x33 x50 x55 _ _ _ F (lv_sub hl [4, 5, 2, 3, 1, 0] rfl) hf
          · have hf := fm_ip c37 hf
            refine lv_iconst (v := 1) hx hb d_X10_offerOf_40 (by decide) ?_
            refine lv_goto (tgt := 45) hx hb d_X10_offerOf_41 (by decide) ?_
            refine lv_iadd hx hb d_X10_offerOf_45 ?_
            refine lv_topi (fun x46 ex46 => ?_)
            have hf := fm_let_at ex46 hf
            refine lv_istore_n (lv' := [(2, .int x46), (3, .int x33), (0, .ref (ad r0)), (1, .int a1), (4, .int a4), (5, .int a5)]) hx hb d_X10_offerOf_46 rfl hl (by decide) rfl (fun ls hl => ?_)
            refine lv_iload hx hb d_X10_offerOf_47 (lv_at hl 4 rfl) ?_
            refine lv_iload_n hx hb d_X10_offerOf_49 rfl (lv_at hl 1 rfl) ?_
            refine va_mmax hx hb (hml.trans hl.1.symm) hown (hts _ (fm_in kw_558 rfl)) (hts _ (fm_in kw_86 rfl)) (hts _ (fm_in kw_4 rfl)) (hts _ (fm_in kw_87 rfl)) (by decide) (Nat.le_of_ble_eq_true rfl) (by decide) (by decide) d_X10_offerOf_50 ?_
            refine lv_topi (fun x50 ex50 => ?_)
            have hf := fm_let_at ex50 hf
            refine lv_istore (lv' := [(4, .int x50), (2, .int x46), (3, .int x33), (0, .ref (ad r0)), (1, .int a1), (5, .int a5)]) hx hb d_X10_offerOf_53 hl (by decide) rfl (fun ls hl => ?_)
            obtain ⟨x55, ex55⟩ : ∃ y : Int32, y = a5 + 1 := ⟨_, rfl⟩
            have hf := fm_let_at ex55 hf
            refine lv_iinc (v := x55) (lv' := [(5, .int x55), (4, .int x50), (2, .int x46), (3, .int x33), (0, .ref (ad r0)), (1, .int a1)]) hx hb d_X10_offerOf_55 hl (k := 5) rfl (by rw [ex55]; rfl) (by decide) rfl (fun ls hl => ?_)
            refine lv_goto (tgt := 10) hx hb d_X10_offerOf_58 (by decide) ?_
            exact ih r0 a1 x46 x33 x50 x55 _ _ _ F (lv_sub hl [4, 5, 2, 3, 1, 0] rfl) hf
        · have hf := fm_ig c23 hf
          refine lv_iload_n hx hb d_X10_offerOf_26 rfl (lv_at hl 3 rfl) ?_
          refine lv_iconst (v := 1) hx hb d_X10_offerOf_27 (by decide) ?_
          refine lv_iadd hx hb d_X10_offerOf_28 ?_
          refine lv_goto (tgt := 33) hx hb d_X10_offerOf_29 (by decide) ?_
          refine lv_topi (fun x33 ex33 => ?_)
          have hf := fm_let_at ex33 hf
          refine lv_istore_n (lv' := [(3, .int x33), (0, .ref (ad r0)), (1, .int a1), (2, .int a2), (4, .int a4), (5, .int a5)]) hx hb d_X10_offerOf_33 rfl hl (by decide) rfl (fun ls hl => ?_)
          refine lv_iload_n hx hb d_X10_offerOf_34 rfl (lv_at hl 3 rfl) ?_
          refine lv_iload_n hx hb d_X10_offerOf_35 rfl (lv_at hl 0 rfl) ?_
          refine lv_iconst (v := 1) hx hb d_X10_offerOf_36 (by decide) ?_
          refine lv_icmp_ne (tgt := 44) hx hb d_X10_offerOf_37 (by decide) (fun c37 => ?_) (fun c37 => ?_)
          · have hf := fm_ig c37 hf
            refine lv_iconst (v := 0) hx hb d_X10_offerOf_44 (by decide) ?_
            refine lv_iadd hx hb d_X10_offerOf_45 ?_
            refine lv_topi (fun x46 ex46 => ?_)
            have hf := fm_let_at ex46 hf
            refine lv_istore_n (lv' := [(2, .int x46), (3, .int x33), (0, .ref (ad r0)), (1, .int a1), (4, .int a4), (5, .int a5)]) hx hb d_X10_offerOf_46 rfl hl (by decide) rfl (fun ls hl => ?_)
            refine lv_iload hx hb d_X10_offerOf_47 (lv_at hl 4 rfl) ?_
            refine lv_iload_n hx hb d_X10_offerOf_49 rfl (lv_at hl 1 rfl) ?_
            refine va_mmax hx hb (hml.trans hl.1.symm) hown (hts _ (fm_in kw_558 rfl)) (hts _ (fm_in kw_86 rfl)) (hts _ (fm_in kw_4 rfl)) (hts _ (fm_in kw_87 rfl)) (by decide) (Nat.le_of_ble_eq_true rfl) (by decide) (by decide) d_X10_offerOf_50 ?_
            refine lv_topi (fun x50 ex50 => ?_)
            have hf := fm_let_at ex50 hf
            refine lv_istore (lv' := [(4, .int x50), (2, .int x46), (3, .int x33), (0, .ref (ad r0)), (1, .int a1), (5, .int a5)]) hx hb d_X10_offerOf_53 hl (by decide) rfl (fun ls hl => ?_)
            obtain ⟨x55, ex55⟩ : ∃ y : Int32, y = a5 + 1 := ⟨_, rfl⟩
            have hf := fm_let_at ex55 hf
            refine lv_iinc (v := x55) (lv' := [(5, .int x55), (4, .int x50), (2, .int x46), (3, .int x33), (0, .ref (ad r0)), (1, .int a1)]) hx hb d_X10_offerOf_55 hl (k := 5) rfl (by rw [ex55]; rfl) (by decide) rfl (fun ls hl => ?_)
            refine lv_goto (tgt := 10) hx hb d_X10_offerOf_58 (by decide) ?_
            exact ih r0 a1 x46 x33 x50 x55 _ _ _ F (lv_sub hl [4, 5, 2, 3, 1, 0] rfl) hf
          · have hf := fm_ip c37 hf
            refine lv_iconst (v := 1) hx hb d_X10_offerOf_40 (by decide) ?_
            refine lv_goto (tgt := 45) hx hb d_X10_offerOf_41 (by decide) ?_
            refine lv_iadd hx hb d_X10_offerOf_45 ?_
            refine lv_topi (fun x46 ex46 => ?_)
            have hf := fm_let_at ex46 hf
            refine lv_istore_n (lv' := [(2, .int x46), (3, .int x33), (0, .ref (ad r0)), (1, .int a1), (4, .int a4), (5, .int a5)]) hx hb d_X10_offerOf_46 rfl hl (by decide) rfl (fun ls hl => ?_)
            refine lv_iload hx hb d_X10_offerOf_47 (lv_at hl 4 rfl) ?_
            refine lv_iload_n hx hb d_X10_offerOf_49 rfl (lv_at hl 1 rfl) ?_
            refine va_mmax hx hb (hml.trans hl.1.symm) hown (hts _ (fm_in kw_558 rfl)) (hts _ (fm_in kw_86 rfl)) (hts _ (fm_in kw_4 rfl)) (hts _ (fm_in kw_87 rfl)) (by decide) (Nat.le_of_ble_eq_true rfl) (by decide) (by decide) d_X10_offerOf_50 ?_
            refine lv_topi (fun x50 ex50 => ?_)
            have hf := fm_let_at ex50 hf
            refine lv_istore (lv' := [(4, .int x50), (2, .int x46), (3, .int x33), (0, .ref (ad r0)), (1, .int a1), (5, .int a5)]) hx hb d_X10_offerOf_53 hl (by decide) rfl (fun ls hl => ?_)
            obtain ⟨x55, ex55⟩ : ∃ y : Int32, y = a5 + 1 := ⟨_, rfl⟩
            have hf := fm_let_at ex55 hf
            refine lv_iinc (v := x55) (lv' := [(5, .int x55), (4, .int x50), (2, .int x46), (3, .int x33), (0, .ref (ad r0)), (1, .int a1)]) hx hb d_X10_offerOf_55 hl (k := 5) rfl (by rw [ex55]; rfl) (by decide) rfl (fun ls hl => ?_)
            refine lv_goto (tgt := 10) hx hb d_X10_offerOf_58 (by decide) ?_
            exact ih r0 a1 x46 x33 x50 x55 _ _ _ F (lv_sub hl [4, 5, 2, 3, 1, 0] rfl) hf
  unfold m_X10_offerOf at hf
  refine lv_iconst (v := 0) hx hb d_X10_offerOf_0 (by decide) ?_
  refine lv_topi (fun x1 ex1 => ?_)
  have hf := fm_let_at ex1 hf
  refine lv_istore_n (lv' := [(2, .int x1), (0, .ref (ad r0)), (1, .int a1)]) hx hb d_X10_offerOf_1 rfl hl (by decide) rfl (fun ls hl => ?_)
  refine lv_iconst (v := 0) hx hb d_X10_offerOf_2 (by decide) ?_
  refine lv_topi (fun x3 ex3 => ?_)
  have hf := fm_let_at ex3 hf
  refine lv_istore_n (lv' := [(3, .int x3), (2, .int x1), (0, .ref (ad r0)), (1, .int a1)]) hx hb d_X10_offerOf_3 rfl hl (by decide) rfl (fun ls hl => ?_)
  refine lv_iconst (v := 0) hx hb d_X10_offerOf_4 (by decide) ?_
  refine lv_topi (fun x5 ex5 => ?_)
  have hf := fm_let_at ex5 hf
  refine lv_istore (lv' := [(4, .int x5), (3, .int x3), (2, .int x1), (0, .ref (ad r0)), (1, .int a1)]) hx hb d_X10_offerOf_5 hl (by decide) rfl (fun ls hl => ?_)
  refine lv_iconst (v := 0) hx hb d_X10_offerOf_7 (by decide) ?_
  refine lv_topi (fun x8 ex8 => ?_)
  have hf := fm_let_at ex8 hf
  refine lv_istore (lv' := [(5, .int x8), (4, .int x5), (3, .int x3), (2, .int x1), (0, .ref (ad r0)), (1, .int a1)]) hx hb d_X10_offerOf_8 hl (by decide) rfl (fun ls hl => ?_)
  exact (hL fm_LF) r0 a1 x1 x3 x5 x8 _ _ _ F (lv_sub hl [4, 5, 3, 2, 1, 0] rfl) hf
