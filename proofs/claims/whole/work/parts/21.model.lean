/-! models and contracts (tool/gen.py prints them) -/
theorem d_X12_pass_0 : decode prog_14_method_46_code 0 = .ok (.iload_n 1, 1) := by decide +kernel
theorem d_X12_pass_1 : decode prog_14_method_46_code 1 = .ok (.iconst 0, 1) := by decide +kernel
theorem d_X12_pass_2 : decode prog_14_method_46_code 2 = .ok (.bipush 60, 2) := by decide +kernel
theorem d_X12_pass_4 : decode prog_14_method_46_code 4 = .ok (.invokestatic 44, 3) := by decide +kernel
theorem d_X12_pass_7 : decode prog_14_method_46_code 7 = .ok (.ifCond .ne 6, 3) := by decide +kernel
theorem d_X12_pass_10 : decode prog_14_method_46_code 10 = .ok (.bipush (-2), 2) := by decide +kernel
theorem d_X12_pass_12 : decode prog_14_method_46_code 12 = .ok (.ireturn, 1) := by decide +kernel
theorem d_X12_pass_13 : decode prog_14_method_46_code 13 = .ok (.aload_n 0, 1) := by decide +kernel
theorem d_X12_pass_14 : decode prog_14_method_46_code 14 = .ok (.getfield 9, 3) := by decide +kernel
theorem d_X12_pass_17 : decode prog_14_method_46_code 17 = .ok (.iconst 0, 1) := by decide +kernel
theorem d_X12_pass_18 : decode prog_14_method_46_code 18 = .ok (.iaload, 1) := by decide +kernel
theorem d_X12_pass_19 : decode prog_14_method_46_code 19 = .ok (.iload_n 1, 1) := by decide +kernel
theorem d_X12_pass_20 : decode prog_14_method_46_code 20 = .ok (.iadd, 1) := by decide +kernel
theorem d_X12_pass_21 : decode prog_14_method_46_code 21 = .ok (.sipush 9999, 3) := by decide +kernel
theorem d_X12_pass_24 : decode prog_14_method_46_code 24 = .ok (.if_icmp .le 6, 3) := by decide +kernel
theorem d_X12_pass_27 : decode prog_14_method_46_code 27 = .ok (.bipush (-3), 2) := by decide +kernel
theorem d_X12_pass_29 : decode prog_14_method_46_code 29 = .ok (.ireturn, 1) := by decide +kernel
theorem d_X12_pass_30 : decode prog_14_method_46_code 30 = .ok (.aload_n 0, 1) := by decide +kernel
theorem d_X12_pass_31 : decode prog_14_method_46_code 31 = .ok (.iload_n 1, 1) := by decide +kernel
theorem d_X12_pass_32 : decode prog_14_method_46_code 32 = .ok (.invokevirtual 174, 3) := by decide +kernel
theorem d_X12_pass_35 : decode prog_14_method_46_code 35 = .ok (.aload_n 0, 1) := by decide +kernel
theorem d_X12_pass_36 : decode prog_14_method_46_code 36 = .ok (.getfield 9, 3) := by decide +kernel
theorem d_X12_pass_39 : decode prog_14_method_46_code 39 = .ok (.iconst 0, 1) := by decide +kernel
theorem d_X12_pass_40 : decode prog_14_method_46_code 40 = .ok (.iaload, 1) := by decide +kernel
theorem d_X12_pass_41 : decode prog_14_method_46_code 41 = .ok (.ireturn, 1) := by decide +kernel
def m_X12_pass (kap lam : Nat → Nat) (r0 : Nat) (a1 : Int32) (S : fm_M) : Option (Int32 × fm_M) :=
  fm_b1 (m_X12_in kap lam a1 0 60 S) fun x4 =>
  if x4 = 0 then (
   some ((-2), S)
  ) else (
   fm_gr kap 12 r0 1 S fun q14 =>
   fm_ld kap lam 13 q14 0 S fun x18 =>
   if (x18 + a1) ≤ 9999 then (
    fm_ck (kap r0 == 12) <|
    fm_b1 (m_X12_goesOn kap lam r0 a1 S) fun S32 =>
    fm_gr kap 12 r0 1 S32 fun q36 =>
    fm_ld kap lam 13 q36 0 S32 fun x40 =>
    some (x40, S32)
   ) else (
    some ((-3), S)
   )
  )
set_option maxHeartbeats 4000000 in
set_option maxRecDepth 100000 in
theorem c_X12_pass {l : Launch} {D : va_G} {ids kap lam : Nat → Nat} {RL : List Nat} {ad sk sv : Nat → Nat} {S : fm_M} {r0 : Nat} {a1 : Int32} {r : Int32} {u : fm_M} (hE : fm_E kap RL ad) (hf : m_X12_pass kap lam r0 a1 S = some (r, u)) (sz : Nat) : fm_MI l y_X12_pass prog_14_method_46_code 2 (Option.some Jvm.ClassFile.FieldType.int) 7 D ids kap lam RL ad sk sv S [.ref (ad r0), .int a1] sz r u := by
  refine fm_open rfl hE (Nat.le_of_ble_eq_true rfl) (fun p e s m args below meth c ls Z hr hlk G F N hl hsz => ?_)
  subst hsz
  obtain ⟨hx, hb, hml, hown, hts⟩ := id Z
  have hl : lv_has ls 2 [(0, .ref (ad r0)), (1, .int a1)] := hl
  unfold m_X12_pass at hf
  refine lv_iload_n hx hb d_X12_pass_0 rfl (lv_at hl 1 rfl) ?_
  refine lv_iconst (v := 0) hx hb d_X12_pass_1 (by decide) ?_
  refine lv_bipush (v := 60) hx hb d_X12_pass_2 (by decide) ?_
  refine fm_rcr G F hf (fun r ho => fm_runS (k := 3) Z G F N (As := [.int a1, .int 0, .int 60]) (rest := []) (c_X12_in hE ho _) kw_1004 kw_1005 kw_6 kw_1006 yd_X12_in rfl (by decide) (by decide) hl.1 (Nat.le_of_ble_eq_true rfl) d_X12_pass_4 (Nat.le_refl 0) (Nat.le_refl 0)) (fun x4 H locs _ F hf => ?_)
  refine lv_if_ne (tgt := 13) hx hb d_X12_pass_7 (by decide) (fun c7 => ?_) (fun c7 => ?_)
  · have hf := fm_ig c7 hf
    refine lv_aload_n hx hb d_X12_pass_13 rfl (lv_at hl 0 rfl) ?_
    refine fm_rgr Z G F hf fr_X12_9 d_X12_pass_14 (fun q14 _ hf => ?_)
    refine lv_iconst (v := 0) hx hb d_X12_pass_17 (by decide) ?_
    refine fm_rld Z G F hf d_X12_pass_18 (fun x18 _ hf => ?_)
    refine lv_iload_n hx hb d_X12_pass_19 rfl (lv_at hl 1 rfl) ?_
    refine lv_iadd hx hb d_X12_pass_20 ?_
    refine lv_sipush (v := 9999) hx hb d_X12_pass_21 (by decide) ?_
    refine lv_icmp_le (tgt := 30) hx hb d_X12_pass_24 (by decide) (fun c24 => ?_) (fun c24 => ?_)
    · have hf := fm_ip c24 hf
      refine lv_aload_n hx hb d_X12_pass_30 rfl (lv_at hl 0 rfl) ?_
      refine lv_iload_n hx hb d_X12_pass_31 rfl (lv_at hl 1 rfl) ?_
      obtain ⟨hk32, hf⟩ := fm_some hf
      refine fm_rcv G F hf (fun u ho => fm_runV (k := 1) Z G F N (As := [.int a1]) (rest := []) (c_X12_goesOn hE ho _) (by rw [eq_of_beq hk32]; decide) (by rw [eq_of_beq hk32]; rfl) kw_1153 kw_1155 kp_48 kw_6 kw_1156 yd_X12_goesOn rfl (by decide) (by decide) hl.1 (Nat.le_of_ble_eq_true rfl) d_X12_pass_32 (Nat.le_refl 0) (Nat.le_refl 0)) (fun S32 H locs _ F hf => ?_)
      refine lv_aload_n hx hb d_X12_pass_35 rfl (lv_at hl 0 rfl) ?_
      refine fm_rgr Z G F hf fr_X12_9 d_X12_pass_36 (fun q36 _ hf => ?_)
      refine lv_iconst (v := 0) hx hb d_X12_pass_39 (by decide) ?_
      refine fm_rld Z G F hf d_X12_pass_40 (fun x40 _ hf => ?_)
      exact fm_reti Z hr hlk F d_X12_pass_41 (Prod.mk.inj (Option.some.inj hf)).1 (Prod.mk.inj (Option.some.inj hf)).2
    · have hf := fm_ig c24 hf
      refine lv_bipush (v := (-3)) hx hb d_X12_pass_27 (by decide) ?_
      exact fm_reti Z hr hlk F d_X12_pass_29 (Prod.mk.inj (Option.some.inj hf)).1 (Prod.mk.inj (Option.some.inj hf)).2
  · have hf := fm_ip c7 hf
    refine lv_bipush (v := (-2)) hx hb d_X12_pass_10 (by decide) ?_
    exact fm_reti Z hr hlk F d_X12_pass_12 (Prod.mk.inj (Option.some.inj hf)).1 (Prod.mk.inj (Option.some.inj hf)).2
theorem d_X12_on_0 : decode prog_14_method_47_code 0 = .ok (.iload_n 2, 1) := by decide +kernel
theorem d_X12_on_1 : decode prog_14_method_47_code 1 = .ok (.ifCond .eq 16, 3) := by decide +kernel
theorem d_X12_on_4 : decode prog_14_method_47_code 4 = .ok (.aload_n 0, 1) := by decide +kernel
theorem d_X12_on_5 : decode prog_14_method_47_code 5 = .ok (.iload_n 2, 1) := by decide +kernel
theorem d_X12_on_6 : decode prog_14_method_47_code 6 = .ok (.bipush 10, 2) := by decide +kernel
theorem d_X12_on_8 : decode prog_14_method_47_code 8 = .ok (.isub, 1) := by decide +kernel
theorem d_X12_on_9 : decode prog_14_method_47_code 9 = .ok (.invokevirtual 140, 3) := by decide +kernel
theorem d_X12_on_12 : decode prog_14_method_47_code 12 = .ok (.ifCond .ne 5, 3) := by decide +kernel
theorem d_X12_on_15 : decode prog_14_method_47_code 15 = .ok (.iconst (-1), 1) := by decide +kernel
theorem d_X12_on_16 : decode prog_14_method_47_code 16 = .ok (.ireturn, 1) := by decide +kernel
theorem d_X12_on_17 : decode prog_14_method_47_code 17 = .ok (.iload_n 1, 1) := by decide +kernel
theorem d_X12_on_18 : decode prog_14_method_47_code 18 = .ok (.iconst 0, 1) := by decide +kernel
theorem d_X12_on_19 : decode prog_14_method_47_code 19 = .ok (.bipush 60, 2) := by decide +kernel
theorem d_X12_on_21 : decode prog_14_method_47_code 21 = .ok (.invokestatic 44, 3) := by decide +kernel
theorem d_X12_on_24 : decode prog_14_method_47_code 24 = .ok (.ifCond .ne 6, 3) := by decide +kernel
theorem d_X12_on_27 : decode prog_14_method_47_code 27 = .ok (.bipush (-2), 2) := by decide +kernel
theorem d_X12_on_29 : decode prog_14_method_47_code 29 = .ok (.ireturn, 1) := by decide +kernel
theorem d_X12_on_30 : decode prog_14_method_47_code 30 = .ok (.aload_n 0, 1) := by decide +kernel
theorem d_X12_on_31 : decode prog_14_method_47_code 31 = .ok (.invokevirtual 177, 3) := by decide +kernel
theorem d_X12_on_34 : decode prog_14_method_47_code 34 = .ok (.aload_n 0, 1) := by decide +kernel
theorem d_X12_on_35 : decode prog_14_method_47_code 35 = .ok (.iload_n 1, 1) := by decide +kernel
theorem d_X12_on_36 : decode prog_14_method_47_code 36 = .ok (.invokevirtual 174, 3) := by decide +kernel
theorem d_X12_on_39 : decode prog_14_method_47_code 39 = .ok (.iload_n 2, 1) := by decide +kernel
theorem d_X12_on_40 : decode prog_14_method_47_code 40 = .ok (.ifCond .ne 10, 3) := by decide +kernel
theorem d_X12_on_43 : decode prog_14_method_47_code 43 = .ok (.aload_n 0, 1) := by decide +kernel
theorem d_X12_on_44 : decode prog_14_method_47_code 44 = .ok (.invokevirtual 158, 3) := by decide +kernel
theorem d_X12_on_47 : decode prog_14_method_47_code 47 = .ok (.goto 14, 3) := by decide +kernel
theorem d_X12_on_50 : decode prog_14_method_47_code 50 = .ok (.aload_n 0, 1) := by decide +kernel
theorem d_X12_on_51 : decode prog_14_method_47_code 51 = .ok (.getfield 9, 3) := by decide +kernel
theorem d_X12_on_54 : decode prog_14_method_47_code 54 = .ok (.iconst 3, 1) := by decide +kernel
theorem d_X12_on_55 : decode prog_14_method_47_code 55 = .ok (.iload_n 2, 1) := by decide +kernel
theorem d_X12_on_56 : decode prog_14_method_47_code 56 = .ok (.iadd, 1) := by decide +kernel
theorem d_X12_on_57 : decode prog_14_method_47_code 57 = .ok (.bipush 10, 2) := by decide +kernel
theorem d_X12_on_59 : decode prog_14_method_47_code 59 = .ok (.isub, 1) := by decide +kernel
theorem d_X12_on_60 : decode prog_14_method_47_code 60 = .ok (.iaload, 1) := by decide +kernel
theorem d_X12_on_61 : decode prog_14_method_47_code 61 = .ok (.istore_n 3, 1) := by decide +kernel
theorem d_X12_on_62 : decode prog_14_method_47_code 62 = .ok (.aload_n 0, 1) := by decide +kernel
theorem d_X12_on_63 : decode prog_14_method_47_code 63 = .ok (.invokevirtual 180, 3) := by decide +kernel
theorem d_X12_on_66 : decode prog_14_method_47_code 66 = .ok (.iload_n 3, 1) := by decide +kernel
theorem d_X12_on_67 : decode prog_14_method_47_code 67 = .ok (.ireturn, 1) := by decide +kernel
def m_X12_on (kap lam : Nat → Nat) (r0 : Nat) (a1 : Int32) (a2 : Int32) (S : fm_M) : Option (Int32 × fm_M) :=
  if a2 = 0 then (
   fm_b1 (m_X12_in kap lam a1 0 60 S) fun x21 =>
   if x21 = 0 then (
    some ((-2), S)
   ) else (
    fm_ck (kap r0 == 12) <|
    fm_b1 (m_X12_keeps kap lam r0 S) fun S31 =>
    fm_ck (kap r0 == 12) <|
    fm_b1 (m_X12_goesOn kap lam r0 a1 S31) fun S36 =>
    if a2 = 0 then (
     fm_ck (kap r0 == 12) <|
     fm_b1 (m_X12_offers kap lam r0 S36) fun x44 =>
     fm_ck (kap r0 == 12) <|
     fm_b1 (m_X12_goesBack kap lam r0 S36) fun S63 =>
     some (x44, S63)
    ) else (
     fm_gr kap 12 r0 1 S36 fun q51 =>
     fm_ld kap lam 13 q51 ((3 + a2) - 10) S36 fun x60 =>
     fm_ck (kap r0 == 12) <|
     fm_b1 (m_X12_goesBack kap lam r0 S36) fun S63 =>
     some (x60, S63)
    )
   )
  ) else (
   fm_ck (kap r0 == 12) <|
   fm_b1 (m_X12_isPane kap lam r0 (a2 - 10) S) fun x9 =>
   if x9 = 0 then (
    some ((-1), S)
   ) else (
    fm_b1 (m_X12_in kap lam a1 0 60 S) fun x21 =>
    if x21 = 0 then (
     some ((-2), S)
    ) else (
     fm_ck (kap r0 == 12) <|
     fm_b1 (m_X12_keeps kap lam r0 S) fun S31 =>
     fm_ck (kap r0 == 12) <|
     fm_b1 (m_X12_goesOn kap lam r0 a1 S31) fun S36 =>
     if a2 = 0 then (
      fm_ck (kap r0 == 12) <|
      fm_b1 (m_X12_offers kap lam r0 S36) fun x44 =>
      fm_ck (kap r0 == 12) <|
      fm_b1 (m_X12_goesBack kap lam r0 S36) fun S63 =>
      some (x44, S63)
     ) else (
      fm_gr kap 12 r0 1 S36 fun q51 =>
      fm_ld kap lam 13 q51 ((3 + a2) - 10) S36 fun x60 =>
      fm_ck (kap r0 == 12) <|
      fm_b1 (m_X12_goesBack kap lam r0 S36) fun S63 =>
      some (x60, S63)
     )
    )
   )
  )
set_option maxHeartbeats 4000000 in
set_option maxRecDepth 100000 in
theorem c_X12_on {l : Launch} {D : va_G} {ids kap lam : Nat → Nat} {RL : List Nat} {ad sk sv : Nat → Nat} {S : fm_M} {r0 : Nat} {a1 : Int32} {a2 : Int32} {r : Int32} {u : fm_M} (hE : fm_E kap RL ad) (hf : m_X12_on kap lam r0 a1 a2 S = some (r, u)) (sz : Nat) : fm_MI l y_X12_on prog_14_method_47_code 4 (Option.some Jvm.ClassFile.FieldType.int) 7 D ids kap lam RL ad sk sv S [.ref (ad r0), .int a1, .int a2] sz r u := by
  refine fm_open rfl hE (Nat.le_of_ble_eq_true rfl) (fun p e s m args below meth c ls Z hr hlk G F N hl hsz => ?_)
  subst hsz
  obtain ⟨hx, hb, hml, hown, hts⟩ := id Z
  have hl : lv_has ls 4 [(0, .ref (ad r0)), (1, .int a1), (2, .int a2)] := hl
  unfold m_X12_on at hf
  refine lv_iload_n hx hb d_X12_on_0 rfl (lv_at hl 2 rfl) ?_
  refine lv_if_eq (tgt := 17) hx hb d_X12_on_1 (by decide) (fun c1 => ?_) (fun c1 => ?_)
  · have hf := fm_ip c1 hf
    refine lv_iload_n hx hb d_X12_on_17 rfl (lv_at hl 1 rfl) ?_
    refine lv_iconst (v := 0) hx hb d_X12_on_18 (by decide) ?_
    refine lv_bipush (v := 60) hx hb d_X12_on_19 (by decide) ?_
    refine fm_rcr G F hf (fun r ho => fm_runS (k := 3) Z G F N (As := [.int a1, .int 0, .int 60]) (rest := []) (c_X12_in hE ho _) kw_1004 kw_1005 kw_6 kw_1006 yd_X12_in rfl (by decide) (by decide) hl.1 (Nat.le_of_ble_eq_true rfl) d_X12_on_21 (Nat.le_refl 0) (Nat.le_refl 0)) (fun x21 H locs _ F hf => ?_)
    refine lv_if_ne (tgt := 30) hx hb d_X12_on_24 (by decide) (fun c24 => ?_) (fun c24 => ?_)
    · have hf := fm_ig c24 hf
      refine lv_aload_n hx hb d_X12_on_30 rfl (lv_at hl 0 rfl) ?_
      obtain ⟨hk31, hf⟩ := fm_some hf
      refine fm_rcv G F hf (fun u ho => fm_runV (k := 0) Z G F N (As := []) (rest := []) (c_X12_keeps hE ho _) (by rw [eq_of_beq hk31]; decide) (by rw [eq_of_beq hk31]; rfl) kw_1173 kw_1175 kp_52 kw_6 kw_1176 yd_X12_keeps rfl (by decide) (by decide) hl.1 (Nat.le_of_ble_eq_true rfl) d_X12_on_31 (Nat.le_refl 0) (Nat.le_refl 0)) (fun S31 H locs _ F hf => ?_)
      refine lv_aload_n hx hb d_X12_on_34 rfl (lv_at hl 0 rfl) ?_
      refine lv_iload_n hx hb d_X12_on_35 rfl (lv_at hl 1 rfl) ?_
      obtain ⟨hk36, hf⟩ := fm_some hf
      refine fm_rcv G F hf (fun u ho => fm_runV (k := 1) Z G F N (As := [.int a1]) (rest := []) (c_X12_goesOn hE ho _) (by rw [eq_of_beq hk36]; decide) (by rw [eq_of_beq hk36]; rfl) kw_1153 kw_1155 kp_48 kw_6 kw_1156 yd_X12_goesOn rfl (by decide) (by decide) hl.1 (Nat.le_of_ble_eq_true rfl) d_X12_on_36 (Nat.le_refl 0) (Nat.le_refl 0)) (fun S36 H locs _ F hf => ?_)
      refine lv_iload_n hx hb d_X12_on_39 rfl (lv_at hl 2 rfl) ?_
      refine lv_if_ne (tgt := 50) hx hb d_X12_on_40 (by decide) (fun c40 => ?_) (fun c40 => ?_)
      · have hf := fm_ig c40 hf
        refine lv_aload_n hx hb d_X12_on_50 rfl (lv_at hl 0 rfl) ?_
        refine fm_rgr Z G F hf fr_X12_9 d_X12_on_51 (fun q51 _ hf => ?_)
        refine lv_iconst (v := 3) hx hb d_X12_on_54 (by decide) ?_
        refine lv_iload_n hx hb d_X12_on_55 rfl (lv_at hl 2 rfl) ?_
        refine lv_iadd hx hb d_X12_on_56 ?_
        refine lv_bipush (v := 10) hx hb d_X12_on_57 (by decide) ?_
        refine lv_isub hx hb d_X12_on_59 ?_
        refine fm_rld Z G F hf d_X12_on_60 (fun x60 _ hf => ?_)
        refine lv_istore_n (lv' := [(3, .int x60), (0, .ref (ad r0)), (1, .int a1), (2, .int a2)]) hx hb d_X12_on_61 rfl hl (by decide) rfl (fun ls hl => ?_)
        refine lv_aload_n hx hb d_X12_on_62 rfl (lv_at hl 1 rfl) ?_
        obtain ⟨hk63, hf⟩ := fm_some hf
        refine fm_rcv G F hf (fun u ho => fm_runV (k := 0) Z G F N (As := []) (rest := []) (c_X12_goesBack hE ho _) (by rw [eq_of_beq hk63]; decide) (by rw [eq_of_beq hk63]; rfl) kw_1177 kw_1179 kp_53 kw_6 kw_1180 yd_X12_goesBack rfl (by decide) (by decide) hl.1 (Nat.le_of_ble_eq_true rfl) d_X12_on_63 (Nat.le_refl 0) (Nat.le_refl 0)) (fun S63 H locs _ F hf => ?_)
        refine lv_iload_n hx hb d_X12_on_66 rfl (lv_at hl 0 rfl) ?_
        exact fm_reti Z hr hlk F d_X12_on_67 (Prod.mk.inj (Option.some.inj hf)).1 (Prod.mk.inj (Option.some.inj hf)).2
      · have hf := fm_ip c40 hf
        refine lv_aload_n hx hb d_X12_on_43 rfl (lv_at hl 0 rfl) ?_
        obtain ⟨hk44, hf⟩ := fm_some hf
        refine fm_rcr G F hf (fun r ho => fm_runV (k := 0) Z G F N (As := []) (rest := []) (c_X12_offers hE ho _) (by rw [eq_of_beq hk44]; decide) (by rw [eq_of_beq hk44]; rfl) kw_1141 kw_1143 kp_46 kw_6 kw_1144 yd_X12_offers rfl (by decide) (by decide) hl.1 (Nat.le_of_ble_eq_true rfl) d_X12_on_44 (Nat.le_refl 0) (Nat.le_refl 0)) (fun x44 H locs _ F hf => ?_)
        refine lv_goto (tgt := 61) hx hb d_X12_on_47 (by decide) ?_
        refine lv_istore_n (lv' := [(3, .int x44), (0, .ref (ad r0)), (1, .int a1), (2, .int a2)]) hx hb d_X12_on_61 rfl hl (by decide) rfl (fun ls hl => ?_)
        refine lv_aload_n hx hb d_X12_on_62 rfl (lv_at hl 1 rfl) ?_
        obtain ⟨hk63, hf⟩ := fm_some hf
        refine fm_rcv G F hf (fun u ho => fm_runV (k := 0) Z G F N (As := []) (rest := []) (c_X12_goesBack hE ho _) (by rw [eq_of_beq hk63]; decide) (by rw [eq_of_beq hk63]; rfl) kw_1177 kw_1179 kp_53 kw_6 kw_1180 yd_X12_goesBack rfl (by decide) (by decide) hl.1 (Nat.le_of_ble_eq_true rfl) d_X12_on_63 (Nat.le_refl 0) (Nat.le_refl 0)) (fun S63 H locs _ F hf => ?_)
        refine lv_iload_n hx hb d_X12_on_66 rfl (lv_at hl 0 rfl) ?_
        exact fm_reti Z hr hlk F d_X12_on_67 (Prod.mk.inj (Option.some.inj hf)).1 (Prod.mk.inj (Option.some.inj hf)).2
    · have hf := fm_ip c24 hf
      refine lv_bipush (v := (-2)) hx hb d_X12_on_27 (by decide) ?_
      exact fm_reti Z hr hlk F d_X12_on_29 (Prod.mk.inj (Option.some.inj hf)).1 (Prod.mk.inj (Option.some.inj hf)).2
  · have hf := fm_ig c1 hf
    refine lv_aload_n hx hb d_X12_on_4 rfl (lv_at hl 0 rfl) ?_
    refine lv_iload_n hx hb d_X12_on_5 rfl (lv_at hl 2 rfl) ?_
    refine lv_bipush (v := 10) hx hb d_X12_on_6 (by decide) ?_
    refine lv_isub hx hb d_X12_on_8 ?_
    obtain ⟨hk9, hf⟩ := fm_some hf
    refine fm_rcr G F hf (fun r ho => fm_runV (k := 1) Z G F N (As := [.int (a2 - 10)]) (rest := []) (c_X12_isPane hE ho _) (by rw [eq_of_beq hk9]; decide) (by rw [eq_of_beq hk9]; rfl) kw_1075 kw_1077 kp_37 kw_6 kw_1078 yd_X12_isPane rfl (by decide) (by decide) hl.1 (Nat.le_of_ble_eq_true rfl) d_X12_on_9 (Nat.le_refl 0) (Nat.le_refl 0)) (fun x9 H locs _ F hf => ?_)
    refine lv_if_ne (tgt := 17) hx hb d_X12_on_12 (by decide) (fun c12 => ?_) (fun c12 => ?_)
    · have hf := fm_ig c12 hf
      refine lv_iload_n hx hb d_X12_on_17 rfl (lv_at hl 1 rfl) ?_
      refine lv_iconst (v := 0) hx hb d_X12_on_18 (by decide) ?_
      refine lv_bipush (v := 60) hx hb d_X12_on_19 (by decide) ?_
      refine fm_rcr G F hf (fun r ho => fm_runS (k := 3) Z G F N (As := [.int a1, .int 0, .int 60]) (rest := []) (c_X12_in hE ho _) kw_1004 kw_1005 kw_6 kw_1006 yd_X12_in rfl (by decide) (by decide) hl.1 (Nat.le_of_ble_eq_true rfl) d_X12_on_21 (Nat.le_refl 0) (Nat.le_refl 0)) (fun x21 H locs _ F hf => ?_)
      refine lv_if_ne (tgt := 30) hx hb d_X12_on_24 (by decide) (fun c24 => ?_) (fun c24 => ?_)
      · have hf := fm_ig c24 hf
        refine lv_aload_n hx hb d_X12_on_30 rfl (lv_at hl 0 rfl) ?_
        obtain ⟨hk31, hf⟩ := fm_some hf
        refine fm_rcv G F hf (fun u ho => fm_runV (k := 0) Z G F N (As := []) (rest := []) (c_X12_keeps hE ho _) (by rw [eq_of_beq hk31]; decide) (by rw [eq_of_beq hk31]; rfl) kw_1173 kw_1175 kp_52 kw_6 kw_1176 yd_X12_keeps rfl (by decide) (by decide) hl.1 (Nat.le_of_ble_eq_true rfl) d_X12_on_31 (Nat.le_refl 0) (Nat.le_refl 0)) (fun S31 H locs _ F hf => ?_)
        refine lv_aload_n hx hb d_X12_on_34 rfl (lv_at hl 0 rfl) ?_
        refine lv_iload_n hx hb d_X12_on_35 rfl (lv_at hl 1 rfl) ?_
        obtain ⟨hk36, hf⟩ := fm_some hf
        refine fm_rcv G F hf (fun u ho => fm_runV (k := 1) Z G F N (As := [.int a1]) (rest := []) (c_X12_goesOn hE ho _) (by rw [eq_of_beq hk36]; decide) (by rw [eq_of_beq hk36]; rfl) kw_1153 kw_1155 kp_48 kw_6 kw_1156 yd_X12_goesOn rfl (by decide) (by decide) hl.1 (Nat.le_of_ble_eq_true rfl) d_X12_on_36 (Nat.le_refl 0) (Nat.le_refl 0)) (fun S36 H locs _ F hf => ?_)
        refine lv_iload_n hx hb d_X12_on_39 rfl (lv_at hl 2 rfl) ?_
        refine lv_if_ne (tgt := 50) hx hb d_X12_on_40 (by decide) (fun c40 => ?_) (fun c40 => ?_)
        · have hf := fm_ig c40 hf
          refine lv_aload_n hx hb d_X12_on_50 rfl (lv_at hl 0 rfl) ?_
          refine fm_rgr Z G F hf fr_X12_9 d_X12_on_51 (fun q51 _ hf => ?_)
          refine lv_iconst (v := 3) hx hb d_X12_on_54 (by decide) ?_
          refine lv_iload_n hx hb d_X12_on_55 rfl (lv_at hl 2 rfl) ?_
          refine lv_iadd hx hb d_X12_on_56 ?_
          refine lv_bipush (v := 10) hx hb d_X12_on_57 (by decide) ?_
          refine lv_isub hx hb d_X12_on_59 ?_
          refine fm_rld Z G F hf d_X12_on_60 (fun x60 _ hf => ?_)
          refine lv_istore_n (lv' := [(3, .int x60), (0, .ref (ad r0)), (1, .int a1), (2, .int a2)]) hx hb d_X12_on_61 rfl hl (by decide) rfl (fun ls hl => ?_)
          refine lv_aload_n hx hb d_X12_on_62 rfl (lv_at hl 1 rfl) ?_
          obtain ⟨hk63, hf⟩ := fm_some hf
          refine fm_rcv G F hf (fun u ho => fm_runV (k := 0) Z G F N (As := []) (rest := []) (c_X12_goesBack hE ho _) (by rw [eq_of_beq hk63]; decide) (by rw [eq_of_beq hk63]; rfl) kw_1177 kw_1179 kp_53 kw_6 kw_1180 yd_X12_goesBack rfl (by decide) (by decide) hl.1 (Nat.le_of_ble_eq_true rfl) d_X12_on_63 (Nat.le_refl 0) (Nat.le_refl 0)) (fun S63 H locs _ F hf => ?_)
          refine lv_iload_n hx hb d_X12_on_66 rfl (lv_at hl 0 rfl) ?_
          exact fm_reti Z hr hlk F d_X12_on_67 (Prod.mk.inj (Option.some.inj hf)).1 (Prod.mk.inj (Option.some.inj hf)).2
        · have hf := fm_ip c40 hf
          refine lv_aload_n hx hb d_X12_on_43 rfl (lv_at hl 0 rfl) ?_
          obtain ⟨hk44, hf⟩ := fm_some hf
          refine fm_rcr G F hf (fun r ho => fm_runV (k := 0) Z G F N (As := []) (rest := []) (c_X12_offers hE ho _) (by rw [eq_of_beq hk44]; decide) (by rw [eq_of_beq hk44]; rfl) kw_1141 kw_1143 kp_46 kw_6 kw_1144 yd_X12_offers rfl (by decide) (by decide) hl.1 (Nat.le_of_ble_eq_true rfl) d_X12_on_44 (Nat.le_refl 0) (Nat.le_refl 0)) (fun x44 H locs _ F hf => ?_)
          refine lv_goto (tgt := 61) hx hb d_X12_on_47 (by decide) ?_
          refine lv_istore_n (lv' := [(3, .int x44), (0, .ref (ad r0)), (1, .int a1), (2, .int a2)]) hx hb d_X12_on_61 rfl hl (by decide) rfl (fun ls hl => ?_)
          refine lv_aload_n hx hb d_X12_on_62 rfl (lv_at hl 1 rfl) ?_
          obtain ⟨hk63, hf⟩ := fm_some hf
          refine fm_rcv G F hf (fun u ho => fm_runV (k := 0) Z G F N (As := []) (rest := []) (c_X12_goesBack hE ho _) (by rw [eq_of_beq hk63]; decide) (by rw [eq_of_beq hk63]; rfl) kw_1177 kw_1179 kp_53 kw_6 kw_1180 yd_X12_goesBack rfl (by decide) (by decide) hl.1 (Nat.le_of_ble_eq_true rfl) d_X12_on_63 (Nat.le_refl 0) (Nat.le_refl 0)) (fun S63 H locs _ F hf => ?_)
          refine lv_iload_n hx hb d_X12_on_66 rfl (lv_at hl 0 rfl) ?_
          exact fm_reti Z hr hlk F d_X12_on_67 (Prod.mk.inj (Option.some.inj hf)).1 (Prod.mk.inj (Option.some.inj hf)).2
      · have hf := fm_ip c24 hf
        refine lv_bipush (v := (-2)) hx hb d_X12_on_27 (by decide) ?_
        exact fm_reti Z hr hlk F d_X12_on_29 (Prod.mk.inj (Option.some.inj hf)).1 (Prod.mk.inj (Option.some.inj hf)).2
    · have hf := fm_ip c12 hf
      refine lv_iconst (v := (-1)) hx hb d_X12_on_15 (by decide) ?_
      exact fm_reti Z hr hlk F d_X12_on_16 (Prod.mk.inj (Option.some.inj hf)).1 (Prod.mk.inj (Option.some.inj hf)).2
theorem d_X12_best_0 : decode prog_14_method_48_code 0 = .ok (.aload_n 0, 1) := by decide +kernel
theorem d_X12_best_1 : decode prog_14_method_48_code 1 = .ok (.iload_n 1, 1) := by decide +kernel
theorem d_X12_best_2 : decode prog_14_method_48_code 2 = .ok (.invokevirtual 140, 3) := by decide +kernel
theorem d_X12_best_5 : decode prog_14_method_48_code 5 = .ok (.ifCond .eq 12, 3) := by decide +kernel
theorem d_X12_best_8 : decode prog_14_method_48_code 8 = .ok (.iload_n 3, 1) := by decide +kernel
theorem d_X12_best_9 : decode prog_14_method_48_code 9 = .ok (.iconst 0, 1) := by decide +kernel
theorem d_X12_best_10 : decode prog_14_method_48_code 10 = .ok (.iconst 1, 1) := by decide +kernel
theorem d_X12_best_11 : decode prog_14_method_48_code 11 = .ok (.invokestatic 44, 3) := by decide +kernel
theorem d_X12_best_14 : decode prog_14_method_48_code 14 = .ok (.ifCond .ne 5, 3) := by decide +kernel
theorem d_X12_best_17 : decode prog_14_method_48_code 17 = .ok (.iconst (-1), 1) := by decide +kernel
theorem d_X12_best_18 : decode prog_14_method_48_code 18 = .ok (.ireturn, 1) := by decide +kernel
theorem d_X12_best_19 : decode prog_14_method_48_code 19 = .ok (.iload_n 2, 1) := by decide +kernel
theorem d_X12_best_20 : decode prog_14_method_48_code 20 = .ok (.iconst 0, 1) := by decide +kernel
theorem d_X12_best_21 : decode prog_14_method_48_code 21 = .ok (.bipush 20, 2) := by decide +kernel
theorem d_X12_best_23 : decode prog_14_method_48_code 23 = .ok (.invokestatic 44, 3) := by decide +kernel
theorem d_X12_best_26 : decode prog_14_method_48_code 26 = .ok (.ifCond .ne 6, 3) := by decide +kernel
theorem d_X12_best_29 : decode prog_14_method_48_code 29 = .ok (.bipush (-2), 2) := by decide +kernel
theorem d_X12_best_31 : decode prog_14_method_48_code 31 = .ok (.ireturn, 1) := by decide +kernel
theorem d_X12_best_32 : decode prog_14_method_48_code 32 = .ok (.aload_n 0, 1) := by decide +kernel
theorem d_X12_best_33 : decode prog_14_method_48_code 33 = .ok (.invokevirtual 177, 3) := by decide +kernel
theorem d_X12_best_36 : decode prog_14_method_48_code 36 = .ok (.iconst 0, 1) := by decide +kernel
theorem d_X12_best_37 : decode prog_14_method_48_code 37 = .ok (.istore 4, 2) := by decide +kernel
theorem d_X12_best_39 : decode prog_14_method_48_code 39 = .ok (.aload_n 0, 1) := by decide +kernel
theorem d_X12_best_40 : decode prog_14_method_48_code 40 = .ok (.iload_n 1, 1) := by decide +kernel
theorem d_X12_best_41 : decode prog_14_method_48_code 41 = .ok (.invokevirtual 136, 3) := by decide +kernel
theorem d_X12_best_44 : decode prog_14_method_48_code 44 = .ok (.istore 5, 2) := by decide +kernel
theorem d_X12_best_46 : decode prog_14_method_48_code 46 = .ok (.iconst 1, 1) := by decide +kernel
theorem d_X12_best_47 : decode prog_14_method_48_code 47 = .ok (.istore 6, 2) := by decide +kernel
theorem d_X12_best_49 : decode prog_14_method_48_code 49 = .ok (.iload 6, 2) := by decide +kernel
theorem d_X12_best_51 : decode prog_14_method_48_code 51 = .ok (.iload_n 2, 1) := by decide +kernel
theorem d_X12_best_52 : decode prog_14_method_48_code 52 = .ok (.if_icmp .gt 54, 3) := by decide +kernel
theorem d_X12_best_55 : decode prog_14_method_48_code 55 = .ok (.aload_n 0, 1) := by decide +kernel
theorem d_X12_best_56 : decode prog_14_method_48_code 56 = .ok (.iload_n 1, 1) := by decide +kernel
theorem d_X12_best_57 : decode prog_14_method_48_code 57 = .ok (.iconst 1, 1) := by decide +kernel
theorem d_X12_best_58 : decode prog_14_method_48_code 58 = .ok (.invokevirtual 183, 3) := by decide +kernel
theorem d_X12_best_61 : decode prog_14_method_48_code 61 = .ok (.aload_n 0, 1) := by decide +kernel
theorem d_X12_best_62 : decode prog_14_method_48_code 62 = .ok (.iload_n 1, 1) := by decide +kernel
theorem d_X12_best_63 : decode prog_14_method_48_code 63 = .ok (.invokevirtual 136, 3) := by decide +kernel
theorem d_X12_best_66 : decode prog_14_method_48_code 66 = .ok (.istore 7, 2) := by decide +kernel
theorem d_X12_best_68 : decode prog_14_method_48_code 68 = .ok (.iload 7, 2) := by decide +kernel
theorem d_X12_best_70 : decode prog_14_method_48_code 70 = .ok (.iload 5, 2) := by decide +kernel
theorem d_X12_best_72 : decode prog_14_method_48_code 72 = .ok (.if_icmp .le 8, 3) := by decide +kernel
theorem d_X12_best_75 : decode prog_14_method_48_code 75 = .ok (.iload 6, 2) := by decide +kernel
theorem d_X12_best_77 : decode prog_14_method_48_code 77 = .ok (.goto 5, 3) := by decide +kernel
theorem d_X12_best_80 : decode prog_14_method_48_code 80 = .ok (.iload 4, 2) := by decide +kernel
theorem d_X12_best_82 : decode prog_14_method_48_code 82 = .ok (.istore 4, 2) := by decide +kernel
theorem d_X12_best_84 : decode prog_14_method_48_code 84 = .ok (.iload 7, 2) := by decide +kernel
theorem d_X12_best_86 : decode prog_14_method_48_code 86 = .ok (.iload 5, 2) := by decide +kernel
theorem d_X12_best_88 : decode prog_14_method_48_code 88 = .ok (.if_icmp .le 8, 3) := by decide +kernel
theorem d_X12_best_91 : decode prog_14_method_48_code 91 = .ok (.iload 7, 2) := by decide +kernel
theorem d_X12_best_93 : decode prog_14_method_48_code 93 = .ok (.goto 5, 3) := by decide +kernel
theorem d_X12_best_96 : decode prog_14_method_48_code 96 = .ok (.iload 5, 2) := by decide +kernel
theorem d_X12_best_98 : decode prog_14_method_48_code 98 = .ok (.istore 5, 2) := by decide +kernel
theorem d_X12_best_100 : decode prog_14_method_48_code 100 = .ok (.iinc 6 1, 3) := by decide +kernel
theorem d_X12_best_103 : decode prog_14_method_48_code 103 = .ok (.goto (-54), 3) := by decide +kernel
theorem d_X12_best_106 : decode prog_14_method_48_code 106 = .ok (.aload_n 0, 1) := by decide +kernel
theorem d_X12_best_107 : decode prog_14_method_48_code 107 = .ok (.invokevirtual 180, 3) := by decide +kernel
theorem d_X12_best_110 : decode prog_14_method_48_code 110 = .ok (.iload_n 3, 1) := by decide +kernel
theorem d_X12_best_111 : decode prog_14_method_48_code 111 = .ok (.ifCond .ne 8, 3) := by decide +kernel
theorem d_X12_best_114 : decode prog_14_method_48_code 114 = .ok (.iload 4, 2) := by decide +kernel
theorem d_X12_best_116 : decode prog_14_method_48_code 116 = .ok (.goto 5, 3) := by decide +kernel
theorem d_X12_best_119 : decode prog_14_method_48_code 119 = .ok (.iload 5, 2) := by decide +kernel
theorem d_X12_best_121 : decode prog_14_method_48_code 121 = .ok (.ireturn, 1) := by decide +kernel
def k_X12_best_49 (kap lam : Nat → Nat) (go49 : Nat → Int32 → Int32 → Int32 → Int32 → Int32 → Int32 → fm_M → Option (Int32 × fm_M)) (r0 : Nat) (a1 : Int32) (a2 : Int32) (a3 : Int32) (a4 : Int32) (a5 : Int32) (a6 : Int32)  (S : fm_M) : Option (Int32 × fm_M) :=
  if a2 < a6 then (
   fm_ck (kap r0 == 12) <|
   fm_b1 (m_X12_goesBack kap lam r0 S) fun S107 =>
   if a3 = 0 then (
    some (a4, S107)
   ) else (
    some (a5, S107)
   )
  ) else (
   fm_ck (kap r0 == 12) <|
   fm_b1 (m_X12_freezesOn kap lam r0 a1 1 S) fun S58 =>
   fm_ck (kap r0 == 12) <|
   fm_b1 (m_X12_offerOf kap lam r0 a1 S58) fun x63 =>
   if x63 ≤ a5 then (
    if x63 ≤ a5 then (
     fm_let (a6 + 1 : Int32) fun x100 =>
     go49 r0 a1 a2 a3 a4 a5 x100 S58
    ) else (
     fm_let (a6 + 1 : Int32) fun x100 =>
     go49 r0 a1 a2 a3 a4 x63 x100 S58
    )
   ) else (
    if x63 ≤ a5 then (
     fm_let (a6 + 1 : Int32) fun x100 =>
     go49 r0 a1 a2 a3 a6 a5 x100 S58
    ) else (
     fm_let (a6 + 1 : Int32) fun x100 =>
     go49 r0 a1 a2 a3 a6 x63 x100 S58
    )
   )
  )
def b_X12_best_49 (kap lam : Nat → Nat) : Nat → Nat → Int32 → Int32 → Int32 → Int32 → Int32 → Int32 → fm_M → Option (Int32 × fm_M)
  | 0 => fun _ _ _ _ _ _ _ _ => none
  | n + 1 => k_X12_best_49 kap lam (b_X12_best_49 kap lam n)
def m_X12_best (kap lam : Nat → Nat) (r0 : Nat) (a1 : Int32) (a2 : Int32) (a3 : Int32) (S : fm_M) : Option (Int32 × fm_M) :=
  fm_ck (kap r0 == 12) <|
  fm_b1 (m_X12_isPane kap lam r0 a1 S) fun x2 =>
  if x2 = 0 then (
   some ((-1), S)
  ) else (
   fm_b1 (m_X12_in kap lam a3 0 1 S) fun x11 =>
   if x11 = 0 then (
    some ((-1), S)
   ) else (
    fm_b1 (m_X12_in kap lam a2 0 20 S) fun x23 =>
    if x23 = 0 then (
     some ((-2), S)
    ) else (
     fm_ck (kap r0 == 12) <|
     fm_b1 (m_X12_keeps kap lam r0 S) fun S33 =>
     fm_let (0 : Int32) fun x37 =>
     fm_ck (kap r0 == 12) <|
     fm_b1 (m_X12_offerOf kap lam r0 a1 S33) fun x41 =>
     fm_let (1 : Int32) fun x47 =>
     b_X12_best_49 kap lam fm_LF r0 a1 a2 a3 x37 x41 x47 S33
    )
   )
  )
set_option maxHeartbeats 4000000 in
set_option maxRecDepth 100000 in
theorem c_X12_best {l : Launch} {D : va_G} {ids kap lam : Nat → Nat} {RL : List Nat} {ad sk sv : Nat → Nat} {S : fm_M} {r0 : Nat} {a1 : Int32} {a2 : Int32} {a3 : Int32} {r : Int32} {u : fm_M} (hE : fm_E kap RL ad) (hf : m_X12_best kap lam r0 a1 a2 a3 S = some (r, u)) (sz : Nat) : fm_MI l y_X12_best prog_14_method_48_code 8 (Option.some Jvm.ClassFile.FieldType.int) 6 D ids kap lam RL ad sk sv S [.ref (ad r0), .int a1, .int a2, .int a3] sz r u := by
  refine fm_open rfl hE (Nat.le_of_ble_eq_true rfl) (fun p e s m args below meth c ls Z hr hlk G F N hl hsz => ?_)
  subst hsz
  obtain ⟨hx, hb, hml, hown, hts⟩ := id Z
  have hl : lv_has ls 8 [(0, .ref (ad r0)), (1, .int a1), (2, .int a2), (3, .int a3)] := hl
  generalize hQ : MQ below _ args s 0 0 (fm_A RL ad s.heap.size) = Qf
  have hL : ∀ n : Nat, (∀ (r0 : Nat) (a1 : Int32) (a2 : Int32) (a3 : Int32) (a4 : Int32) (a5 : Int32) (a6 : Int32)  (S : fm_M) (H : Heap) (locs : List Loc) (ls : Array Slot), fm_F D ids kap lam RL ad S (fm_A RL ad s.heap.size) s.heap H locs → lv_has ls 8 [(0, .ref (ad r0)), (1, .int a1), (2, .int a2), (3, .int a3), (4, .int a4), (5, .int a5), (6, .int a6)] → b_X12_best_49 kap lam n r0 a1 a2 a3 a4 a5 a6 S = some (r, u) → W p l e (fm_rm 6) s m args below meth c H locs 0 0 Qf (F0 m 49 ls [])) := by
    intro n
    induction n with
    | zero => exact fun _ _ _ _ _ _ _ _ _ _ _ _ _ hf => absurd hf (by intro h; cases h)
    | succ n ih =>
      intro r0 a1 a2 a3 a4 a5 a6 S H locs ls F hl hf
      have hf : k_X12_best_49 kap lam (b_X12_best_49 kap lam n) r0 a1 a2 a3 a4 a5 a6 S = some (r, u) := hf
      unfold k_X12_best_49 at hf
      refine lv_iload hx hb d_X12_best_49 (lv_at hl 6 rfl) ?_
      refine lv_iload_n hx hb d_X12_best_51 rfl (lv_at hl 2 rfl) ?_
      refine lv_icmp_gt (tgt := 106) hx hb d_X12_best_52 (by decide) (fun c52 => ?_) (fun c52 => ?_)
      · have hf := fm_ip c52 hf
        refine lv_aload_n hx hb d_X12_best_106 rfl (lv_at hl 0 rfl) ?_
        obtain ⟨hk107, hf⟩ := fm_some hf
        refine fm_rcv G F hf (fun u ho => fm_runV (k := 0) Z G F N (As := []) (rest := []) (c_X12_goesBack hE ho _) (by rw [eq_of_beq hk107]; decide) (by rw [eq_of_beq hk107]; rfl) kw_1177 kw_1179 kp_53 kw_6 kw_1180 yd_X12_goesBack rfl (by decide) (by decide) hl.1 (Nat.le_of_ble_eq_true rfl) d_X12_best_107 (Nat.le_refl 0) (Nat.le_refl 0)) (fun S107 H locs _ F hf => ?_)
        refine lv_iload_n hx hb d_X12_best_110 rfl (lv_at hl 3 rfl) ?_
        refine lv_if_ne (tgt := 119) hx hb d_X12_best_111 (by decide) (fun c111 => ?_) (fun c111 => ?_)
        · have hf := fm_ig c111 hf
          refine lv_iload hx hb d_X12_best_119 (lv_at hl 5 rfl) ?_
          rw [← hQ]; exact fm_reti Z hr hlk F d_X12_best_121 (Prod.mk.inj (Option.some.inj hf)).1 (Prod.mk.inj (Option.some.inj hf)).2
        · have hf := fm_ip c111 hf
          refine lv_iload hx hb d_X12_best_114 (lv_at hl 4 rfl) ?_
          refine lv_goto (tgt := 121) hx hb d_X12_best_116 (by decide) ?_
          rw [← hQ]; exact fm_reti Z hr hlk F d_X12_best_121 (Prod.mk.inj (Option.some.inj hf)).1 (Prod.mk.inj (Option.some.inj hf)).2
      · have hf := fm_ig c52 hf
        refine lv_aload_n hx hb d_X12_best_55 rfl (lv_at hl 0 rfl) ?_
        refine lv_iload_n hx hb d_X12_best_56 rfl (lv_at hl 1 rfl) ?_
        refine lv_iconst (v := 1) hx hb d_X12_best_57 (by decide) ?_
        obtain ⟨hk58, hf⟩ := fm_some hf
        refine fm_rcv G F hf (fun u ho => fm_runV (k := 2) Z G F N (As := [.int a1, .int 1]) (rest := []) (c_X12_freezesOn hE ho _) (by rw [eq_of_beq hk58]; decide) (by rw [eq_of_beq hk58]; rfl) kw_1185 kw_1187 kp_54 kw_6 kw_1188 yd_X12_freezesOn rfl (by decide) (by decide) hl.1 (Nat.le_of_ble_eq_true rfl) d_X12_best_58 (Nat.le_refl 0) (Nat.le_refl 0)) (fun S58 H locs _ F hf => ?_)
        refine lv_aload_n hx hb d_X12_best_61 rfl (lv_at hl 0 rfl) ?_
        refine lv_iload_n hx hb d_X12_best_62 rfl (lv_at hl 1 rfl) ?_
        obtain ⟨hk63, hf⟩ := fm_some hf
        refine fm_rcr G F hf (fun r ho => fm_runV (k := 1) Z G F N (As := [.int a1]) (rest := []) (c_X12_offerOf hE ho _) (by rw [eq_of_beq hk63]; decide) (by rw [eq_of_beq hk63]; rfl) kw_1079 kw_1081 kp_38 kw_6 kw_1082 yd_X12_offerOf rfl (by decide) (by decide) hl.1 (Nat.le_of_ble_eq_true rfl) d_X12_best_63 (Nat.le_refl 0) (Nat.le_refl 0)) (fun x63 H locs _ F hf => ?_)
        refine lv_istore (lv' := [(7, .int x63), (0, .ref (ad r0)), (1, .int a1), (2, .int a2), (3, .int a3), (4, .int a4), (5, .int a5), (6, .int a6)]) hx hb d_X12_best_66 hl (by decide) rfl (fun ls hl => ?_)
        refine lv_iload hx hb d_X12_best_68 (lv_at hl 0 rfl) ?_
        refine lv_iload hx hb d_X12_best_70 (lv_at hl 6 rfl) ?_
        refine lv_icmp_le (tgt := 80) hx hb d_X12_best_72 (by decide) (fun c72 => ?_) (fun c72 => ?_)
        · have hf := fm_ip c72 hf
          refine lv_iload hx hb d_X12_best_80 (lv_at hl 5 rfl) ?_
          refine lv_istore (lv' := [(4, .int a4), (7, .int x63), (0, .ref (ad r0)), (1, .int a1), (2, .int a2), (3, .int a3), (5, .int a5), (6, .int a6)]) hx hb d_X12_best_82 hl (by decide) rfl (fun ls hl => ?_)
          refine lv_iload hx hb d_X12_best_84 (lv_at hl 1 rfl) ?_
          refine lv_iload hx hb d_X12_best_86 (lv_at hl 6 rfl) ?_
          refine lv_icmp_le (tgt := 96) hx hb d_X12_best_88 (by decide) (fun c88 => ?_) (fun c88 => ?_)
          · have hf := fm_ip c88 hf
            refine lv_iload hx hb d_X12_best_96 (lv_at hl 6 rfl) ?_
            refine lv_istore (lv' := [(5, .int a5), (4, .int a4), (7, .int x63), (0, .ref (ad r0)), (1, .int a1), (2, .int a2), (3, .int a3), (6, .int a6)]) hx hb d_X12_best_98 hl (by decide) rfl (fun ls hl => ?_)
            obtain ⟨x100, ex100⟩ : ∃ y : Int32, y = a6 + 1 := ⟨_, rfl⟩
            have hf := fm_let_at ex100 hf
            refine lv_iinc (v := x100) (lv' := [(6, .int x100), (5, .int a5), (4, .int a4), (7, .int x63), (0, .ref (ad r0)), (1, .int a1), (2, .int a2), (3, .int a3)]) hx hb d_X12_best_100 hl (k := 7) rfl (by rw [ex100]; rfl) (by decide) rfl (fun ls hl => ?_)
            refine lv_goto (tgt := 49) hx hb d_X12_best_103 (by decide) ?_
            exact ih r0 a1 a2 a3 a4 a5 x100 S58 _ _ _ F (lv_sub hl [4, 5, 6, 7, 2, 1, 0] rfl) hf
          · have hf := fm_ig c88 hf
            refine lv_iload hx hb d_X12_best_91 (lv_at hl 1 rfl) ?_
            refine lv_goto (tgt := 98) hx hb d_X12_best_93 (by decide) ?_
            refine lv_istore (lv' := [(5, .int x63), (4, .int a4), (7, .int x63), (0, .ref (ad r0)), (1, .int a1), (2, .int a2), (3, .int a3), (6, .int a6)]) hx hb d_X12_best_98 hl (by decide) rfl (fun ls hl => ?_)
            obtain ⟨x100, ex100⟩ : ∃ y : Int32, y = a6 + 1 := ⟨_, rfl⟩
            have hf := fm_let_at ex100 hf
            refine lv_iinc (v := x100) (lv' := [(6, .int x100), (5, .int x63), (4, .int a4), (7, .int x63), (0, .ref (ad r0)), (1, .int a1), (2, .int a2), (3, .int a3)]) hx hb d_X12_best_100 hl (k := 7) rfl (by rw [ex100]; rfl) (by decide) rfl (fun ls hl => ?_)
            refine lv_goto (tgt := 49) hx hb d_X12_best_103 (by decide) ?_
            exact ih r0 a1 a2 a3 a4 x63 x100 S58 _ _ _ F (lv_sub hl [4, 5, 6, 7, 2, 1, 0] rfl) hf
        · have hf := fm_ig c72 hf
          refine lv_iload hx hb d_X12_best_75 (lv_at hl 7 rfl) ?_
          refine lv_goto (tgt := 82) hx hb d_X12_best_77 (by decide) ?_
          refine lv_istore (lv' := [(4, .int a6), (7, .int x63), (0, .ref (ad r0)), (1, .int a1), (2, .int a2), (3, .int a3), (5, .int a5), (6, .int a6)]) hx hb d_X12_best_82 hl (by decide) rfl (fun ls hl => ?_)
          refine lv_iload hx hb d_X12_best_84 (lv_at hl 1 rfl) ?_
          refine lv_iload hx hb d_X12_best_86 (lv_at hl 6 rfl) ?_
          refine lv_icmp_le (tgt := 96) hx hb d_X12_best_88 (by decide) (fun c88 => ?_) (fun c88 => ?_)
          · have hf := fm_ip c88 hf
            refine lv_iload hx hb d_X12_best_96 (lv_at hl 6 rfl) ?_
            refine lv_istore (lv' := [(5, .int a5), (4, .int a6), (7, .int x63), (0, .ref (ad r0)), (1, .int a1), (2, .int a2), (3, .int a3), (6, .int a6)]) hx hb d_X12_best_98 hl (by decide) rfl (fun ls hl => ?_)
            obtain ⟨x100, ex100⟩ : ∃ y : Int32, y = a6 + 1 := ⟨_, rfl⟩
            have hf := fm_let_at ex100 hf
            refine lv_iinc (v := x100) (lv' := [(6, .int x100), (5, .int a5), (4, .int a6), (7, .int x63), (0, .ref (ad r0)), (1, .int a1), (2, .int a2), (3, .int a3)]) hx hb d_X12_best_100 hl (k := 7) rfl (by rw [ex100]; rfl) (by decide) rfl (fun ls hl => ?_)
            refine lv_goto (tgt := 49) hx hb d_X12_best_103 (by decide) ?_
            exact ih r0 a1 a2 a3 a6 a5 x100 S58 _ _ _ F (lv_sub hl [4, 5, 6, 7, 2, 1, 0] rfl) hf
          · have hf := fm_ig c88 hf
            refine lv_iload hx hb d_X12_best_91 (lv_at hl 1 rfl) ?_
            refine lv_goto (tgt := 98) hx hb d_X12_best_93 (by decide) ?_
            refine lv_istore (lv' := [(5, .int x63), (4, .int a6), (7, .int x63), (0, .ref (ad r0)), (1, .int a1), (2, .int a2), (3, .int a3), (6, .int a6)]) hx hb d_X12_best_98 hl (by decide) rfl (fun ls hl => ?_)
            obtain ⟨x100, ex100⟩ : ∃ y : Int32, y = a6 + 1 := ⟨_, rfl⟩
            have hf := fm_let_at ex100 hf
            refine lv_iinc (v := x100) (lv' := [(6, .int x100), (5, .int x63), (4, .int a6), (7, .int x63), (0, .ref (ad r0)), (1, .int a1), (2, .int a2), (3, .int a3)]) hx hb d_X12_best_100 hl (k := 7) rfl (by rw [ex100]; rfl) (by decide) rfl (fun ls hl => ?_)
            refine lv_goto (tgt := 49) hx hb d_X12_best_103 (by decide) ?_
            exact ih r0 a1 a2 a3 a6 x63 x100 S58 _ _ _ F (lv_sub hl [4, 5, 6, 7, 2, 1, 0] rfl) hf
  unfold m_X12_best at hf
  refine lv_aload_n hx hb d_X12_best_0 rfl (lv_at hl 0 rfl) ?_
  refine lv_iload_n hx hb d_X12_best_1 rfl (lv_at hl 1 rfl) ?_
  obtain ⟨hk2, hf⟩ := fm_some hf
  refine fm_rcr G F hf (fun r ho => fm_runV (k := 1) Z G F N (As := [.int a1]) (rest := []) (c_X12_isPane hE ho _) (by rw [eq_of_beq hk2]; decide) (by rw [eq_of_beq hk2]; rfl) kw_1075 kw_1077 kp_37 kw_6 kw_1078 yd_X12_isPane rfl (by decide) (by decide) hl.1 (Nat.le_of_ble_eq_true rfl) d_X12_best_2 (Nat.le_refl 0) (Nat.le_refl 0)) (fun x2 H locs _ F hf => ?_)
  refine lv_if_eq (tgt := 17) hx hb d_X12_best_5 (by decide) (fun c5 => ?_) (fun c5 => ?_)
  · have hf := fm_ip c5 hf
    refine lv_iconst (v := (-1)) hx hb d_X12_best_17 (by decide) ?_
    rw [← hQ]; exact fm_reti Z hr hlk F d_X12_best_18 (Prod.mk.inj (Option.some.inj hf)).1 (Prod.mk.inj (Option.some.inj hf)).2
  · have hf := fm_ig c5 hf
    refine lv_iload_n hx hb d_X12_best_8 rfl (lv_at hl 3 rfl) ?_
    refine lv_iconst (v := 0) hx hb d_X12_best_9 (by decide) ?_
    refine lv_iconst (v := 1) hx hb d_X12_best_10 (by decide) ?_
    refine fm_rcr G F hf (fun r ho => fm_runS (k := 3) Z G F N (As := [.int a3, .int 0, .int 1]) (rest := []) (c_X12_in hE ho _) kw_1004 kw_1005 kw_6 kw_1006 yd_X12_in rfl (by decide) (by decide) hl.1 (Nat.le_of_ble_eq_true rfl) d_X12_best_11 (Nat.le_refl 0) (Nat.le_refl 0)) (fun x11 H locs _ F hf => ?_)
    refine lv_if_ne (tgt := 19) hx hb d_X12_best_14 (by decide) (fun c14 => ?_) (fun c14 => ?_)
    · have hf := fm_ig c14 hf
      refine lv_iload_n hx hb d_X12_best_19 rfl (lv_at hl 2 rfl) ?_
      refine lv_iconst (v := 0) hx hb d_X12_best_20 (by decide) ?_
      refine lv_bipush (v := 20) hx hb d_X12_best_21 (by decide) ?_
      refine fm_rcr G F hf (fun r ho => fm_runS (k := 3) Z G F N (As := [.int a2, .int 0, .int 20]) (rest := []) (c_X12_in hE ho _) kw_1004 kw_1005 kw_6 kw_1006 yd_X12_in rfl (by decide) (by decide) hl.1 (Nat.le_of_ble_eq_true rfl) d_X12_best_23 (Nat.le_refl 0) (Nat.le_refl 0)) (fun x23 H locs _ F hf => ?_)
      refine lv_if_ne (tgt := 32) hx hb d_X12_best_26 (by decide) (fun c26 => ?_) (fun c26 => ?_)
      · have hf := fm_ig c26 hf
        refine lv_aload_n hx hb d_X12_best_32 rfl (lv_at hl 0 rfl) ?_
        obtain ⟨hk33, hf⟩ := fm_some hf
        refine fm_rcv G F hf (fun u ho => fm_runV (k := 0) Z G F N (As := []) (rest := []) (c_X12_keeps hE ho _) (by rw [eq_of_beq hk33]; decide) (by rw [eq_of_beq hk33]; rfl) kw_1173 kw_1175 kp_52 kw_6 kw_1176 yd_X12_keeps rfl (by decide) (by decide) hl.1 (Nat.le_of_ble_eq_true rfl) d_X12_best_33 (Nat.le_refl 0) (Nat.le_refl 0)) (fun S33 H locs _ F hf => ?_)
        refine lv_iconst (v := 0) hx hb d_X12_best_36 (by decide) ?_
        refine lv_topi (fun x37 ex37 => ?_)
        have hf := fm_let_at ex37 hf
        refine lv_istore (lv' := [(4, .int x37), (0, .ref (ad r0)), (1, .int a1), (2, .int a2), (3, .int a3)]) hx hb d_X12_best_37 hl (by decide) rfl (fun ls hl => ?_)
        refine lv_aload_n hx hb d_X12_best_39 rfl (lv_at hl 1 rfl) ?_
        refine lv_iload_n hx hb d_X12_best_40 rfl (lv_at hl 2 rfl) ?_
        obtain ⟨hk41, hf⟩ := fm_some hf
        refine fm_rcr G F hf (fun r ho => fm_runV (k := 1) Z G F N (As := [.int a1]) (rest := []) (c_X12_offerOf hE ho _) (by rw [eq_of_beq hk41]; decide) (by rw [eq_of_beq hk41]; rfl) kw_1079 kw_1081 kp_38 kw_6 kw_1082 yd_X12_offerOf rfl (by decide) (by decide) hl.1 (Nat.le_of_ble_eq_true rfl) d_X12_best_41 (Nat.le_refl 0) (Nat.le_refl 0)) (fun x41 H locs _ F hf => ?_)
        refine lv_istore (lv' := [(5, .int x41), (4, .int x37), (0, .ref (ad r0)), (1, .int a1), (2, .int a2), (3, .int a3)]) hx hb d_X12_best_44 hl (by decide) rfl (fun ls hl => ?_)
        refine lv_iconst (v := 1) hx hb d_X12_best_46 (by decide) ?_
        refine lv_topi (fun x47 ex47 => ?_)
        have hf := fm_let_at ex47 hf
        refine lv_istore (lv' := [(6, .int x47), (5, .int x41), (4, .int x37), (0, .ref (ad r0)), (1, .int a1), (2, .int a2), (3, .int a3)]) hx hb d_X12_best_47 hl (by decide) rfl (fun ls hl => ?_)
        exact (hL fm_LF) r0 a1 a2 a3 x37 x41 x47 S33 _ _ _ F (lv_sub hl [3, 4, 5, 6, 2, 1, 0] rfl) hf
      · have hf := fm_ip c26 hf
        refine lv_bipush (v := (-2)) hx hb d_X12_best_29 (by decide) ?_
        rw [← hQ]; exact fm_reti Z hr hlk F d_X12_best_31 (Prod.mk.inj (Option.some.inj hf)).1 (Prod.mk.inj (Option.some.inj hf)).2
    · have hf := fm_ip c14 hf
      refine lv_iconst (v := (-1)) hx hb d_X12_best_17 (by decide) ?_
      rw [← hQ]; exact fm_reti Z hr hlk F d_X12_best_18 (Prod.mk.inj (Option.some.inj hf)).1 (Prod.mk.inj (Option.some.inj hf)).2
theorem d_X12_heat_0 : decode prog_14_method_49_code 0 = .ok (.aload_n 0, 1) := by decide +kernel
theorem d_X12_heat_1 : decode prog_14_method_49_code 1 = .ok (.iload_n 1, 1) := by decide +kernel
theorem d_X12_heat_2 : decode prog_14_method_49_code 2 = .ok (.invokevirtual 140, 3) := by decide +kernel
theorem d_X12_heat_5 : decode prog_14_method_49_code 5 = .ok (.ifCond .eq 12, 3) := by decide +kernel
theorem d_X12_heat_8 : decode prog_14_method_49_code 8 = .ok (.iload_n 3, 1) := by decide +kernel
theorem d_X12_heat_9 : decode prog_14_method_49_code 9 = .ok (.iconst 0, 1) := by decide +kernel
theorem d_X12_heat_10 : decode prog_14_method_49_code 10 = .ok (.iconst 1, 1) := by decide +kernel
theorem d_X12_heat_11 : decode prog_14_method_49_code 11 = .ok (.invokestatic 44, 3) := by decide +kernel
theorem d_X12_heat_14 : decode prog_14_method_49_code 14 = .ok (.ifCond .ne 5, 3) := by decide +kernel
theorem d_X12_heat_17 : decode prog_14_method_49_code 17 = .ok (.iconst (-1), 1) := by decide +kernel
theorem d_X12_heat_18 : decode prog_14_method_49_code 18 = .ok (.ireturn, 1) := by decide +kernel
theorem d_X12_heat_19 : decode prog_14_method_49_code 19 = .ok (.iload_n 2, 1) := by decide +kernel
theorem d_X12_heat_20 : decode prog_14_method_49_code 20 = .ok (.iconst 0, 1) := by decide +kernel
theorem d_X12_heat_21 : decode prog_14_method_49_code 21 = .ok (.bipush 20, 2) := by decide +kernel
theorem d_X12_heat_23 : decode prog_14_method_49_code 23 = .ok (.invokestatic 44, 3) := by decide +kernel
theorem d_X12_heat_26 : decode prog_14_method_49_code 26 = .ok (.ifCond .ne 6, 3) := by decide +kernel
theorem d_X12_heat_29 : decode prog_14_method_49_code 29 = .ok (.bipush (-2), 2) := by decide +kernel
theorem d_X12_heat_31 : decode prog_14_method_49_code 31 = .ok (.ireturn, 1) := by decide +kernel
theorem d_X12_heat_32 : decode prog_14_method_49_code 32 = .ok (.iconst 0, 1) := by decide +kernel
theorem d_X12_heat_33 : decode prog_14_method_49_code 33 = .ok (.istore 4, 2) := by decide +kernel
theorem d_X12_heat_35 : decode prog_14_method_49_code 35 = .ok (.iconst (-1), 1) := by decide +kernel
theorem d_X12_heat_36 : decode prog_14_method_49_code 36 = .ok (.istore 5, 2) := by decide +kernel
theorem d_X12_heat_38 : decode prog_14_method_49_code 38 = .ok (.iconst 0, 1) := by decide +kernel
theorem d_X12_heat_39 : decode prog_14_method_49_code 39 = .ok (.istore 6, 2) := by decide +kernel
theorem d_X12_heat_41 : decode prog_14_method_49_code 41 = .ok (.iload 6, 2) := by decide +kernel
theorem d_X12_heat_43 : decode prog_14_method_49_code 43 = .ok (.bipush 10, 2) := by decide +kernel
theorem d_X12_heat_45 : decode prog_14_method_49_code 45 = .ok (.if_icmp .ge 73, 3) := by decide +kernel
theorem d_X12_heat_48 : decode prog_14_method_49_code 48 = .ok (.aload_n 0, 1) := by decide +kernel
theorem d_X12_heat_49 : decode prog_14_method_49_code 49 = .ok (.invokevirtual 177, 3) := by decide +kernel
theorem d_X12_heat_52 : decode prog_14_method_49_code 52 = .ok (.aload_n 0, 1) := by decide +kernel
theorem d_X12_heat_53 : decode prog_14_method_49_code 53 = .ok (.getfield 9, 3) := by decide +kernel
theorem d_X12_heat_56 : decode prog_14_method_49_code 56 = .ok (.bipush 15, 2) := by decide +kernel
theorem d_X12_heat_58 : decode prog_14_method_49_code 58 = .ok (.iload_n 1, 1) := by decide +kernel
theorem d_X12_heat_59 : decode prog_14_method_49_code 59 = .ok (.iadd, 1) := by decide +kernel
theorem d_X12_heat_60 : decode prog_14_method_49_code 60 = .ok (.iload 6, 2) := by decide +kernel
theorem d_X12_heat_62 : decode prog_14_method_49_code 62 = .ok (.iastore, 1) := by decide +kernel
theorem d_X12_heat_63 : decode prog_14_method_49_code 63 = .ok (.aload_n 0, 1) := by decide +kernel
theorem d_X12_heat_64 : decode prog_14_method_49_code 64 = .ok (.iload_n 1, 1) := by decide +kernel
theorem d_X12_heat_65 : decode prog_14_method_49_code 65 = .ok (.iload_n 2, 1) := by decide +kernel
theorem d_X12_heat_66 : decode prog_14_method_49_code 66 = .ok (.invokevirtual 183, 3) := by decide +kernel
theorem d_X12_heat_69 : decode prog_14_method_49_code 69 = .ok (.aload_n 0, 1) := by decide +kernel
theorem d_X12_heat_70 : decode prog_14_method_49_code 70 = .ok (.iload_n 1, 1) := by decide +kernel
theorem d_X12_heat_71 : decode prog_14_method_49_code 71 = .ok (.invokevirtual 136, 3) := by decide +kernel
theorem d_X12_heat_74 : decode prog_14_method_49_code 74 = .ok (.istore 7, 2) := by decide +kernel
theorem d_X12_heat_76 : decode prog_14_method_49_code 76 = .ok (.aload_n 0, 1) := by decide +kernel
theorem d_X12_heat_77 : decode prog_14_method_49_code 77 = .ok (.invokevirtual 180, 3) := by decide +kernel
theorem d_X12_heat_80 : decode prog_14_method_49_code 80 = .ok (.iload 7, 2) := by decide +kernel
theorem d_X12_heat_82 : decode prog_14_method_49_code 82 = .ok (.iload 5, 2) := by decide +kernel
theorem d_X12_heat_84 : decode prog_14_method_49_code 84 = .ok (.if_icmp .le 8, 3) := by decide +kernel
theorem d_X12_heat_87 : decode prog_14_method_49_code 87 = .ok (.iload 6, 2) := by decide +kernel
theorem d_X12_heat_89 : decode prog_14_method_49_code 89 = .ok (.goto 5, 3) := by decide +kernel
theorem d_X12_heat_92 : decode prog_14_method_49_code 92 = .ok (.iload 4, 2) := by decide +kernel
theorem d_X12_heat_94 : decode prog_14_method_49_code 94 = .ok (.istore 4, 2) := by decide +kernel
theorem d_X12_heat_96 : decode prog_14_method_49_code 96 = .ok (.iload 7, 2) := by decide +kernel
theorem d_X12_heat_98 : decode prog_14_method_49_code 98 = .ok (.iload 5, 2) := by decide +kernel
theorem d_X12_heat_100 : decode prog_14_method_49_code 100 = .ok (.if_icmp .le 8, 3) := by decide +kernel
theorem d_X12_heat_103 : decode prog_14_method_49_code 103 = .ok (.iload 7, 2) := by decide +kernel
theorem d_X12_heat_105 : decode prog_14_method_49_code 105 = .ok (.goto 5, 3) := by decide +kernel
theorem d_X12_heat_108 : decode prog_14_method_49_code 108 = .ok (.iload 5, 2) := by decide +kernel
theorem d_X12_heat_110 : decode prog_14_method_49_code 110 = .ok (.istore 5, 2) := by decide +kernel
theorem d_X12_heat_112 : decode prog_14_method_49_code 112 = .ok (.iinc 6 1, 3) := by decide +kernel
theorem d_X12_heat_115 : decode prog_14_method_49_code 115 = .ok (.goto (-74), 3) := by decide +kernel
theorem d_X12_heat_118 : decode prog_14_method_49_code 118 = .ok (.iload_n 3, 1) := by decide +kernel
theorem d_X12_heat_119 : decode prog_14_method_49_code 119 = .ok (.ifCond .ne 8, 3) := by decide +kernel
theorem d_X12_heat_122 : decode prog_14_method_49_code 122 = .ok (.iload 4, 2) := by decide +kernel
theorem d_X12_heat_124 : decode prog_14_method_49_code 124 = .ok (.goto 5, 3) := by decide +kernel
theorem d_X12_heat_127 : decode prog_14_method_49_code 127 = .ok (.iload 5, 2) := by decide +kernel
theorem d_X12_heat_129 : decode prog_14_method_49_code 129 = .ok (.ireturn, 1) := by decide +kernel
def k_X12_heat_41 (kap lam : Nat → Nat) (go41 : Nat → Int32 → Int32 → Int32 → Int32 → Int32 → Int32 → fm_M → Option (Int32 × fm_M)) (r0 : Nat) (a1 : Int32) (a2 : Int32) (a3 : Int32) (a4 : Int32) (a5 : Int32) (a6 : Int32)  (S : fm_M) : Option (Int32 × fm_M) :=
  if 10 ≤ a6 then (
   if a3 = 0 then (
    some (a4, S)
   ) else (
    some (a5, S)
   )
  ) else (
   fm_ck (kap r0 == 12) <|
   fm_b1 (m_X12_keeps kap lam r0 S) fun S49 =>
   fm_gr kap 12 r0 1 S49 fun q53 =>
   fm_st kap lam q53 (15 + a1) a6 S49 fun S62 =>
   fm_ck (kap r0 == 12) <|
   fm_b1 (m_X12_freezesOn kap lam r0 a1 a2 S62) fun S66 =>
   fm_ck (kap r0 == 12) <|
   fm_b1 (m_X12_offerOf kap lam r0 a1 S66) fun x71 =>
   fm_ck (kap r0 == 12) <|
   fm_b1 (m_X12_goesBack kap lam r0 S66) fun S77 =>
   if x71 ≤ a5 then (
    if x71 ≤ a5 then (
     fm_let (a6 + 1 : Int32) fun x112 =>
     go41 r0 a1 a2 a3 a4 a5 x112 S77
    ) else (
     fm_let (a6 + 1 : Int32) fun x112 =>
     go41 r0 a1 a2 a3 a4 x71 x112 S77
    )
   ) else (
    if x71 ≤ a5 then (
     fm_let (a6 + 1 : Int32) fun x112 =>
     go41 r0 a1 a2 a3 a6 a5 x112 S77
    ) else (
     fm_let (a6 + 1 : Int32) fun x112 =>
     go41 r0 a1 a2 a3 a6 x71 x112 S77
    )
   )
  )
def b_X12_heat_41 (kap lam : Nat → Nat) : Nat → Nat → Int32 → Int32 → Int32 → Int32 → Int32 → Int32 → fm_M → Option (Int32 × fm_M)
  | 0 => fun _ _ _ _ _ _ _ _ => none
  | n + 1 => k_X12_heat_41 kap lam (b_X12_heat_41 kap lam n)
def m_X12_heat (kap lam : Nat → Nat) (r0 : Nat) (a1 : Int32) (a2 : Int32) (a3 : Int32) (S : fm_M) : Option (Int32 × fm_M) :=
  fm_ck (kap r0 == 12) <|
  fm_b1 (m_X12_isPane kap lam r0 a1 S) fun x2 =>
  if x2 = 0 then (
   some ((-1), S)
  ) else (
   fm_b1 (m_X12_in kap lam a3 0 1 S) fun x11 =>
   if x11 = 0 then (
    some ((-1), S)
   ) else (
    fm_b1 (m_X12_in kap lam a2 0 20 S) fun x23 =>
    if x23 = 0 then (
     some ((-2), S)
    ) else (
     fm_let (0 : Int32) fun x33 =>
     fm_let ((-1) : Int32) fun x36 =>
     fm_let (0 : Int32) fun x39 =>
     b_X12_heat_41 kap lam fm_LF r0 a1 a2 a3 x33 x36 x39 S
    )
   )
  )
set_option maxHeartbeats 4000000 in
set_option maxRecDepth 100000 in
theorem c_X12_heat {l : Launch} {D : va_G} {ids kap lam : Nat → Nat} {RL : List Nat} {ad sk sv : Nat → Nat} {S : fm_M} {r0 : Nat} {a1 : Int32} {a2 : Int32} {a3 : Int32} {r : Int32} {u : fm_M} (hE : fm_E kap RL ad) (hf : m_X12_heat kap lam r0 a1 a2 a3 S = some (r, u)) (sz : Nat) : fm_MI l y_X12_heat prog_14_method_49_code 8 (Option.some Jvm.ClassFile.FieldType.int) 6 D ids kap lam RL ad sk sv S [.ref (ad r0), .int a1, .int a2, .int a3] sz r u := by
  refine fm_open rfl hE (Nat.le_of_ble_eq_true rfl) (fun p e s m args below meth c ls Z hr hlk G F N hl hsz => ?_)
  subst hsz
  obtain ⟨hx, hb, hml, hown, hts⟩ := id Z
  have hl : lv_has ls 8 [(0, .ref (ad r0)), (1, .int a1), (2, .int a2), (3, .int a3)] := hl
  generalize hQ : MQ below _ args s 0 0 (fm_A RL ad s.heap.size) = Qf
  have hL : ∀ n : Nat, (∀ (r0 : Nat) (a1 : Int32) (a2 : Int32) (a3 : Int32) (a4 : Int32) (a5 : Int32) (a6 : Int32)  (S : fm_M) (H : Heap) (locs : List Loc) (ls : Array Slot), fm_F D ids kap lam RL ad S (fm_A RL ad s.heap.size) s.heap H locs → lv_has ls 8 [(0, .ref (ad r0)), (1, .int a1), (2, .int a2), (3, .int a3), (4, .int a4), (5, .int a5), (6, .int a6)] → b_X12_heat_41 kap lam n r0 a1 a2 a3 a4 a5 a6 S = some (r, u) → W p l e (fm_rm 6) s m args below meth c H locs 0 0 Qf (F0 m 41 ls [])) := by
    intro n
    induction n with
    | zero => exact fun _ _ _ _ _ _ _ _ _ _ _ _ _ hf => absurd hf (by intro h; cases h)
    | succ n ih =>
      intro r0 a1 a2 a3 a4 a5 a6 S H locs ls F hl hf
      have hf : k_X12_heat_41 kap lam (b_X12_heat_41 kap lam n) r0 a1 a2 a3 a4 a5 a6 S = some (r, u) := hf
      unfold k_X12_heat_41 at hf
      refine lv_iload hx hb d_X12_heat_41 (lv_at hl 6 rfl) ?_
      refine lv_bipush (v := 10) hx hb d_X12_heat_43 (by decide) ?_
      refine lv_icmp_ge (tgt := 118) hx hb d_X12_heat_45 (by decide) (fun c45 => ?_) (fun c45 => ?_)
      · have hf := fm_ip c45 hf
        refine lv_iload_n hx hb d_X12_heat_118 rfl (lv_at hl 3 rfl) ?_
        refine lv_if_ne (tgt := 127) hx hb d_X12_heat_119 (by decide) (fun c119 => ?_) (fun c119 => ?_)
        · have hf := fm_ig c119 hf
          refine lv_iload hx hb d_X12_heat_127 (lv_at hl 5 rfl) ?_
          rw [← hQ]; exact fm_reti Z hr hlk F d_X12_heat_129 (Prod.mk.inj (Option.some.inj hf)).1 (Prod.mk.inj (Option.some.inj hf)).2
        · have hf := fm_ip c119 hf
          refine lv_iload hx hb d_X12_heat_122 (lv_at hl 4 rfl) ?_
          refine lv_goto (tgt := 129) hx hb d_X12_heat_124 (by decide) ?_
          rw [← hQ]; exact fm_reti Z hr hlk F d_X12_heat_129 (Prod.mk.inj (Option.some.inj hf)).1 (Prod.mk.inj (Option.some.inj hf)).2
      · have hf := fm_ig c45 hf
        refine lv_aload_n hx hb d_X12_heat_48 rfl (lv_at hl 0 rfl) ?_
        obtain ⟨hk49, hf⟩ := fm_some hf
        refine fm_rcv G F hf (fun u ho => fm_runV (k := 0) Z G F N (As := []) (rest := []) (c_X12_keeps hE ho _) (by rw [eq_of_beq hk49]; decide) (by rw [eq_of_beq hk49]; rfl) kw_1173 kw_1175 kp_52 kw_6 kw_1176 yd_X12_keeps rfl (by decide) (by decide) hl.1 (Nat.le_of_ble_eq_true rfl) d_X12_heat_49 (Nat.le_refl 0) (Nat.le_refl 0)) (fun S49 H locs _ F hf => ?_)
        refine lv_aload_n hx hb d_X12_heat_52 rfl (lv_at hl 0 rfl) ?_
        refine fm_rgr Z G F hf fr_X12_9 d_X12_heat_53 (fun q53 _ hf => ?_)
        refine lv_bipush (v := 15) hx hb d_X12_heat_56 (by decide) ?_
        refine lv_iload_n hx hb d_X12_heat_58 rfl (lv_at hl 1 rfl) ?_
        refine lv_iadd hx hb d_X12_heat_59 ?_
        refine lv_iload hx hb d_X12_heat_60 (lv_at hl 6 rfl) ?_
        refine fm_rst Z G F hf d_X12_heat_62 (fun S62 H locs _ F hf => ?_)
        refine lv_aload_n hx hb d_X12_heat_63 rfl (lv_at hl 0 rfl) ?_
        refine lv_iload_n hx hb d_X12_heat_64 rfl (lv_at hl 1 rfl) ?_
        refine lv_iload_n hx hb d_X12_heat_65 rfl (lv_at hl 2 rfl) ?_
        obtain ⟨hk66, hf⟩ := fm_some hf
        refine fm_rcv G F hf (fun u ho => fm_runV (k := 2) Z G F N (As := [.int a1, .int a2]) (rest := []) (c_X12_freezesOn hE ho _) (by rw [eq_of_beq hk66]; decide) (by rw [eq_of_beq hk66]; rfl) kw_1185 kw_1187 kp_54 kw_6 kw_1188 yd_X12_freezesOn rfl (by decide) (by decide) hl.1 (Nat.le_of_ble_eq_true rfl) d_X12_heat_66 (Nat.le_refl 0) (Nat.le_refl 0)) (fun S66 H locs _ F hf => ?_)
        refine lv_aload_n hx hb d_X12_heat_69 rfl (lv_at hl 0 rfl) ?_
        refine lv_iload_n hx hb d_X12_heat_70 rfl (lv_at hl 1 rfl) ?_
        obtain ⟨hk71, hf⟩ := fm_some hf
        refine fm_rcr G F hf (fun r ho => fm_runV (k := 1) Z G F N (As := [.int a1]) (rest := []) (c_X12_offerOf hE ho _) (by rw [eq_of_beq hk71]; decide) (by rw [eq_of_beq hk71]; rfl) kw_1079 kw_1081 kp_38 kw_6 kw_1082 yd_X12_offerOf rfl (by decide) (by decide) hl.1 (Nat.le_of_ble_eq_true rfl) d_X12_heat_71 (Nat.le_refl 0) (Nat.le_refl 0)) (fun x71 H locs _ F hf => ?_)
        refine lv_istore (lv' := [(7, .int x71), (0, .ref (ad r0)), (1, .int a1), (2, .int a2), (3, .int a3), (4, .int a4), (5, .int a5), (6, .int a6)]) hx hb d_X12_heat_74 hl (by decide) rfl (fun ls hl => ?_)
        refine lv_aload_n hx hb d_X12_heat_76 rfl (lv_at hl 1 rfl) ?_
        obtain ⟨hk77, hf⟩ := fm_some hf
        refine fm_rcv G F hf (fun u ho => fm_runV (k := 0) Z G F N (As := []) (rest := []) (c_X12_goesBack hE ho _) (by rw [eq_of_beq hk77]; decide) (by rw [eq_of_beq hk77]; rfl) kw_1177 kw_1179 kp_53 kw_6 kw_1180 yd_X12_goesBack rfl (by decide) (by decide) hl.1 (Nat.le_of_ble_eq_true rfl) d_X12_heat_77 (Nat.le_refl 0) (Nat.le_refl 0)) (fun S77 H locs _ F hf => ?_)
        refine lv_iload hx hb d_X12_heat_80 (lv_at hl 0 rfl) ?_
        refine lv_iload hx hb d_X12_heat_82 (lv_at hl 6 rfl) ?_
        refine lv_icmp_le (tgt := 92) hx hb d_X12_heat_84 (by decide) (fun c84 => ?_) (fun c84 => ?_)
        · have hf := fm_ip c84 hf
          refine lv_iload hx hb d_X12_heat_92 (lv_at hl 5 rfl) ?_
          refine lv_istore (lv' := [(4, .int a4), (7, .int x71), (0, .ref (ad r0)), (1, .int a1), (2, .int a2), (3, .int a3), (5, .int a5), (6, .int a6)]) hx hb d_X12_heat_94 hl (by decide) rfl (fun ls hl => ?_)
          refine lv_iload hx hb d_X12_heat_96 (lv_at hl 1 rfl) ?_
          refine lv_iload hx hb d_X12_heat_98 (lv_at hl 6 rfl) ?_
          refine lv_icmp_le (tgt := 108) hx hb d_X12_heat_100 (by decide) (fun c100 => ?_) (fun c100 => ?_)
          · have hf := fm_ip c100 hf
            refine lv_iload hx hb d_X12_heat_108 (lv_at hl 6 rfl) ?_
            refine lv_istore (lv' := [(5, .int a5), (4, .int a4), (7, .int x71), (0, .ref (ad r0)), (1, .int a1), (2, .int a2), (3, .int a3), (6, .int a6)]) hx hb d_X12_heat_110 hl (by decide) rfl (fun ls hl => ?_)
            obtain ⟨x112, ex112⟩ : ∃ y : Int32, y = a6 + 1 := ⟨_, rfl⟩
            have hf := fm_let_at ex112 hf
            refine lv_iinc (v := x112) (lv' := [(6, .int x112), (5, .int a5), (4, .int a4), (7, .int x71), (0, .ref (ad r0)), (1, .int a1), (2, .int a2), (3, .int a3)]) hx hb d_X12_heat_112 hl (k := 7) rfl (by rw [ex112]; rfl) (by decide) rfl (fun ls hl => ?_)
            refine lv_goto (tgt := 41) hx hb d_X12_heat_115 (by decide) ?_
            exact ih r0 a1 a2 a3 a4 a5 x112 S77 _ _ _ F (lv_sub hl [4, 5, 6, 7, 2, 1, 0] rfl) hf
          · have hf := fm_ig c100 hf
            refine lv_iload hx hb d_X12_heat_103 (lv_at hl 1 rfl) ?_
            refine lv_goto (tgt := 110) hx hb d_X12_heat_105 (by decide) ?_
            refine lv_istore (lv' := [(5, .int x71), (4, .int a4), (7, .int x71), (0, .ref (ad r0)), (1, .int a1), (2, .int a2), (3, .int a3), (6, .int a6)]) hx hb d_X12_heat_110 hl (by decide) rfl (fun ls hl => ?_)
            obtain ⟨x112, ex112⟩ : ∃ y : Int32, y = a6 + 1 := ⟨_, rfl⟩
            have hf := fm_let_at ex112 hf
            refine lv_iinc (v := x112) (lv' := [(6, .int x112), (5, .int x71), (4, .int a4), (7, .int x71), (0, .ref (ad r0)), (1, .int a1), (2, .int a2), (3, .int a3)]) hx hb d_X12_heat_112 hl (k := 7) rfl (by rw [ex112]; rfl) (by decide) rfl (fun ls hl => ?_)
            refine lv_goto (tgt := 41) hx hb d_X12_heat_115 (by decide) ?_
            exact ih r0 a1 a2 a3 a4 x71 x112 S77 _ _ _ F (lv_sub hl [4, 5, 6, 7, 2, 1, 0] rfl) hf
        · have hf := fm_ig c84 hf
          refine lv_iload hx hb d_X12_heat_87 (lv_at hl 7 rfl) ?_
          refine lv_goto (tgt := 94) hx hb d_X12_heat_89 (by decide) ?_
          refine lv_istore (lv' := [(4, .int a6), (7, .int x71), (0, .ref (ad r0)), (1, .int a1), (2, .int a2), (3, .int a3), (5, .int a5), (6, .int a6)]) hx hb d_X12_heat_94 hl (by decide) rfl (fun ls hl => ?_)
          refine lv_iload hx hb d_X12_heat_96 (lv_at hl 1 rfl) ?_
          refine lv_iload hx hb d_X12_heat_98 (lv_at hl 6 rfl) ?_
          refine lv_icmp_le (tgt := 108) hx hb d_X12_heat_100 (by decide) (fun c100 => ?_) (fun c100 => ?_)
          · have hf := fm_ip c100 hf
            refine lv_iload hx hb d_X12_heat_108 (lv_at hl 6 rfl) ?_
            refine lv_istore (lv' := [(5, .int a5), (4, .int a6), (7, .int x71), (0, .ref (ad r0)), (1, .int a1), (2, .int a2), (3, .int a3), (6, .int a6)]) hx hb d_X12_heat_110 hl (by decide) rfl (fun ls hl => ?_)
            obtain ⟨x112, ex112⟩ : ∃ y : Int32, y = a6 + 1 := ⟨_, rfl⟩
            have hf := fm_let_at ex112 hf
            refine lv_iinc (v := x112) (lv' := [(6, .int x112), (5, .int a5), (4, .int a6), (7, .int x71), (0, .ref (ad r0)), (1, .int a1), (2, .int a2), (3, .int a3)]) hx hb d_X12_heat_112 hl (k := 7) rfl (by rw [ex112]; rfl) (by decide) rfl (fun ls hl => ?_)
            refine lv_goto (tgt := 41) hx hb d_X12_heat_115 (by decide) ?_
            exact ih r0 a1 a2 a3 a6 a5 x112 S77 _ _ _ F (lv_sub hl [4, 5, 6, 7, 2, 1, 0] rfl) hf
          · have hf := fm_ig c100 hf
            refine lv_iload hx hb d_X12_heat_103 (lv_at hl 1 rfl) ?_
            refine lv_goto (tgt := 110) hx hb d_X12_heat_105 (by decide) ?_
            refine lv_istore (lv' := [(5, .int x71), (4, .int a6), (7, .int x71), (0, .ref (ad r0)), (1, .int a1), (2, .int a2), (3, .int a3), (6, .int a6)]) hx hb d_X12_heat_110 hl (by decide) rfl (fun ls hl => ?_)
            obtain ⟨x112, ex112⟩ : ∃ y : Int32, y = a6 + 1 := ⟨_, rfl⟩
            have hf := fm_let_at ex112 hf
            refine lv_iinc (v := x112) (lv' := [(6, .int x112), (5, .int x71), (4, .int a6), (7, .int x71), (0, .ref (ad r0)), (1, .int a1), (2, .int a2), (3, .int a3)]) hx hb d_X12_heat_112 hl (k := 7) rfl (by rw [ex112]; rfl) (by decide) rfl (fun ls hl => ?_)
            refine lv_goto (tgt := 41) hx hb d_X12_heat_115 (by decide) ?_
            exact ih r0 a1 a2 a3 a6 x71 x112 S77 _ _ _ F (lv_sub hl [4, 5, 6, 7, 2, 1, 0] rfl) hf
  unfold m_X12_heat at hf
  refine lv_aload_n hx hb d_X12_heat_0 rfl (lv_at hl 0 rfl) ?_
  refine lv_iload_n hx hb d_X12_heat_1 rfl (lv_at hl 1 rfl) ?_
  obtain ⟨hk2, hf⟩ := fm_some hf
  refine fm_rcr G F hf (fun r ho => fm_runV (k := 1) Z G F N (As := [.int a1]) (rest := []) (c_X12_isPane hE ho _) (by rw [eq_of_beq hk2]; decide) (by rw [eq_of_beq hk2]; rfl) kw_1075 kw_1077 kp_37 kw_6 kw_1078 yd_X12_isPane rfl (by decide) (by decide) hl.1 (Nat.le_of_ble_eq_true rfl) d_X12_heat_2 (Nat.le_refl 0) (Nat.le_refl 0)) (fun x2 H locs _ F hf => ?_)
  refine lv_if_eq (tgt := 17) hx hb d_X12_heat_5 (by decide) (fun c5 => ?_) (fun c5 => ?_)
  · have hf := fm_ip c5 hf
    refine lv_iconst (v := (-1)) hx hb d_X12_heat_17 (by decide) ?_
    rw [← hQ]; exact fm_reti Z hr hlk F d_X12_heat_18 (Prod.mk.inj (Option.some.inj hf)).1 (Prod.mk.inj (Option.some.inj hf)).2
  · have hf := fm_ig c5 hf
    refine lv_iload_n hx hb d_X12_heat_8 rfl (lv_at hl 3 rfl) ?_
    refine lv_iconst (v := 0) hx hb d_X12_heat_9 (by decide) ?_
    refine lv_iconst (v := 1) hx hb d_X12_heat_10 (by decide) ?_
    refine fm_rcr G F hf (fun r ho => fm_runS (k := 3) Z G F N (As := [.int a3, .int 0, .int 1]) (rest := []) (c_X12_in hE ho _) kw_1004 kw_1005 kw_6 kw_1006 yd_X12_in rfl (by decide) (by decide) hl.1 (Nat.le_of_ble_eq_true rfl) d_X12_heat_11 (Nat.le_refl 0) (Nat.le_refl 0)) (fun x11 H locs _ F hf => ?_)
    refine lv_if_ne (tgt := 19) hx hb d_X12_heat_14 (by decide) (fun c14 => ?_) (fun c14 => ?_)
    · have hf := fm_ig c14 hf
      refine lv_iload_n hx hb d_X12_heat_19 rfl (lv_at hl 2 rfl) ?_
      refine lv_iconst (v := 0) hx hb d_X12_heat_20 (by decide) ?_
      refine lv_bipush (v := 20) hx hb d_X12_heat_21 (by decide) ?_
      refine fm_rcr G F hf (fun r ho => fm_runS (k := 3) Z G F N (As := [.int a2, .int 0, .int 20]) (rest := []) (c_X12_in hE ho _) kw_1004 kw_1005 kw_6 kw_1006 yd_X12_in rfl (by decide) (by decide) hl.1 (Nat.le_of_ble_eq_true rfl) d_X12_heat_23 (Nat.le_refl 0) (Nat.le_refl 0)) (fun x23 H locs _ F hf => ?_)
      refine lv_if_ne (tgt := 32) hx hb d_X12_heat_26 (by decide) (fun c26 => ?_) (fun c26 => ?_)
      · have hf := fm_ig c26 hf
        refine lv_iconst (v := 0) hx hb d_X12_heat_32 (by decide) ?_
        refine lv_topi (fun x33 ex33 => ?_)
        have hf := fm_let_at ex33 hf
        refine lv_istore (lv' := [(4, .int x33), (0, .ref (ad r0)), (1, .int a1), (2, .int a2), (3, .int a3)]) hx hb d_X12_heat_33 hl (by decide) rfl (fun ls hl => ?_)
        refine lv_iconst (v := (-1)) hx hb d_X12_heat_35 (by decide) ?_
        refine lv_topi (fun x36 ex36 => ?_)
        have hf := fm_let_at ex36 hf
        refine lv_istore (lv' := [(5, .int x36), (4, .int x33), (0, .ref (ad r0)), (1, .int a1), (2, .int a2), (3, .int a3)]) hx hb d_X12_heat_36 hl (by decide) rfl (fun ls hl => ?_)
        refine lv_iconst (v := 0) hx hb d_X12_heat_38 (by decide) ?_
        refine lv_topi (fun x39 ex39 => ?_)
        have hf := fm_let_at ex39 hf
        refine lv_istore (lv' := [(6, .int x39), (5, .int x36), (4, .int x33), (0, .ref (ad r0)), (1, .int a1), (2, .int a2), (3, .int a3)]) hx hb d_X12_heat_39 hl (by decide) rfl (fun ls hl => ?_)
        exact (hL fm_LF) r0 a1 a2 a3 x33 x36 x39 S _ _ _ F (lv_sub hl [3, 4, 5, 6, 2, 1, 0] rfl) hf
      · have hf := fm_ip c26 hf
        refine lv_bipush (v := (-2)) hx hb d_X12_heat_29 (by decide) ?_
        rw [← hQ]; exact fm_reti Z hr hlk F d_X12_heat_31 (Prod.mk.inj (Option.some.inj hf)).1 (Prod.mk.inj (Option.some.inj hf)).2
    · have hf := fm_ip c14 hf
      refine lv_iconst (v := (-1)) hx hb d_X12_heat_17 (by decide) ?_
      rw [← hQ]; exact fm_reti Z hr hlk F d_X12_heat_18 (Prod.mk.inj (Option.some.inj hf)).1 (Prod.mk.inj (Option.some.inj hf)).2
theorem d_X12_comes_0 : decode prog_14_method_50_code 0 = .ok (.aload_n 0, 1) := by decide +kernel
theorem d_X12_comes_1 : decode prog_14_method_50_code 1 = .ok (.iload_n 1, 1) := by decide +kernel
theorem d_X12_comes_2 : decode prog_14_method_50_code 2 = .ok (.invokevirtual 140, 3) := by decide +kernel
theorem d_X12_comes_5 : decode prog_14_method_50_code 5 = .ok (.ifCond .ne 5, 3) := by decide +kernel
theorem d_X12_comes_8 : decode prog_14_method_50_code 8 = .ok (.iconst (-1), 1) := by decide +kernel
theorem d_X12_comes_9 : decode prog_14_method_50_code 9 = .ok (.ireturn, 1) := by decide +kernel
theorem d_X12_comes_10 : decode prog_14_method_50_code 10 = .ok (.iload_n 2, 1) := by decide +kernel
theorem d_X12_comes_11 : decode prog_14_method_50_code 11 = .ok (.invokestatic 187, 3) := by decide +kernel
theorem d_X12_comes_14 : decode prog_14_method_50_code 14 = .ok (.ifCond .ne 6, 3) := by decide +kernel
theorem d_X12_comes_17 : decode prog_14_method_50_code 17 = .ok (.bipush (-2), 2) := by decide +kernel
theorem d_X12_comes_19 : decode prog_14_method_50_code 19 = .ok (.ireturn, 1) := by decide +kernel
theorem d_X12_comes_20 : decode prog_14_method_50_code 20 = .ok (.aload_n 0, 1) := by decide +kernel
theorem d_X12_comes_21 : decode prog_14_method_50_code 21 = .ok (.invokevirtual 177, 3) := by decide +kernel
theorem d_X12_comes_24 : decode prog_14_method_50_code 24 = .ok (.bipush (-5), 2) := by decide +kernel
theorem d_X12_comes_26 : decode prog_14_method_50_code 26 = .ok (.istore_n 3, 1) := by decide +kernel
theorem d_X12_comes_27 : decode prog_14_method_50_code 27 = .ok (.iconst 0, 1) := by decide +kernel
theorem d_X12_comes_28 : decode prog_14_method_50_code 28 = .ok (.istore 4, 2) := by decide +kernel
theorem d_X12_comes_30 : decode prog_14_method_50_code 30 = .ok (.iload 4, 2) := by decide +kernel
theorem d_X12_comes_32 : decode prog_14_method_50_code 32 = .ok (.bipush 60, 2) := by decide +kernel
theorem d_X12_comes_34 : decode prog_14_method_50_code 34 = .ok (.if_icmp .gt 41, 3) := by decide +kernel
theorem d_X12_comes_37 : decode prog_14_method_50_code 37 = .ok (.iload_n 3, 1) := by decide +kernel
theorem d_X12_comes_38 : decode prog_14_method_50_code 38 = .ok (.bipush (-5), 2) := by decide +kernel
theorem d_X12_comes_40 : decode prog_14_method_50_code 40 = .ok (.if_icmp .ne 35, 3) := by decide +kernel
theorem d_X12_comes_43 : decode prog_14_method_50_code 43 = .ok (.aload_n 0, 1) := by decide +kernel
theorem d_X12_comes_44 : decode prog_14_method_50_code 44 = .ok (.getfield 9, 3) := by decide +kernel
theorem d_X12_comes_47 : decode prog_14_method_50_code 47 = .ok (.iconst 3, 1) := by decide +kernel
theorem d_X12_comes_48 : decode prog_14_method_50_code 48 = .ok (.iload_n 1, 1) := by decide +kernel
theorem d_X12_comes_49 : decode prog_14_method_50_code 49 = .ok (.iadd, 1) := by decide +kernel
theorem d_X12_comes_50 : decode prog_14_method_50_code 50 = .ok (.iaload, 1) := by decide +kernel
theorem d_X12_comes_51 : decode prog_14_method_50_code 51 = .ok (.iload_n 2, 1) := by decide +kernel
theorem d_X12_comes_52 : decode prog_14_method_50_code 52 = .ok (.if_icmp .ne 8, 3) := by decide +kernel
theorem d_X12_comes_55 : decode prog_14_method_50_code 55 = .ok (.iload 4, 2) := by decide +kernel
theorem d_X12_comes_57 : decode prog_14_method_50_code 57 = .ok (.goto 5, 3) := by decide +kernel
theorem d_X12_comes_60 : decode prog_14_method_50_code 60 = .ok (.bipush (-5), 2) := by decide +kernel
theorem d_X12_comes_62 : decode prog_14_method_50_code 62 = .ok (.istore_n 3, 1) := by decide +kernel
theorem d_X12_comes_63 : decode prog_14_method_50_code 63 = .ok (.aload_n 0, 1) := by decide +kernel
theorem d_X12_comes_64 : decode prog_14_method_50_code 64 = .ok (.iload_n 1, 1) := by decide +kernel
theorem d_X12_comes_65 : decode prog_14_method_50_code 65 = .ok (.iconst 1, 1) := by decide +kernel
theorem d_X12_comes_66 : decode prog_14_method_50_code 66 = .ok (.invokevirtual 183, 3) := by decide +kernel
theorem d_X12_comes_69 : decode prog_14_method_50_code 69 = .ok (.iinc 4 1, 3) := by decide +kernel
theorem d_X12_comes_72 : decode prog_14_method_50_code 72 = .ok (.goto (-42), 3) := by decide +kernel
theorem d_X12_comes_75 : decode prog_14_method_50_code 75 = .ok (.aload_n 0, 1) := by decide +kernel
theorem d_X12_comes_76 : decode prog_14_method_50_code 76 = .ok (.invokevirtual 180, 3) := by decide +kernel
theorem d_X12_comes_79 : decode prog_14_method_50_code 79 = .ok (.iload_n 3, 1) := by decide +kernel
theorem d_X12_comes_80 : decode prog_14_method_50_code 80 = .ok (.ireturn, 1) := by decide +kernel
def k_X12_comes_30 (kap lam : Nat → Nat) (go30 : Nat → Int32 → Int32 → Int32 → Int32 → fm_M → Option (Int32 × fm_M)) (r0 : Nat) (a1 : Int32) (a2 : Int32) (a3 : Int32) (a4 : Int32)  (S : fm_M) : Option (Int32 × fm_M) :=
  if 60 < a4 then (
   fm_ck (kap r0 == 12) <|
   fm_b1 (m_X12_goesBack kap lam r0 S) fun S76 =>
   some (a3, S76)
  ) else (
   if a3 = (-5) then (
    fm_gr kap 12 r0 1 S fun q44 =>
    fm_ld kap lam 13 q44 (3 + a1) S fun x50 =>
    if x50 = a2 then (
     fm_ck (kap r0 == 12) <|
     fm_b1 (m_X12_freezesOn kap lam r0 a1 1 S) fun S66 =>
     fm_let (a4 + 1 : Int32) fun x69 =>
     go30 r0 a1 a2 a4 x69 S66
    ) else (
     fm_let ((-5) : Int32) fun x62 =>
     fm_ck (kap r0 == 12) <|
     fm_b1 (m_X12_freezesOn kap lam r0 a1 1 S) fun S66 =>
     fm_let (a4 + 1 : Int32) fun x69 =>
     go30 r0 a1 a2 x62 x69 S66
    )
   ) else (
    fm_ck (kap r0 == 12) <|
    fm_b1 (m_X12_goesBack kap lam r0 S) fun S76 =>
    some (a3, S76)
   )
  )
def b_X12_comes_30 (kap lam : Nat → Nat) : Nat → Nat → Int32 → Int32 → Int32 → Int32 → fm_M → Option (Int32 × fm_M)
  | 0 => fun _ _ _ _ _ _ => none
  | n + 1 => k_X12_comes_30 kap lam (b_X12_comes_30 kap lam n)
def m_X12_comes (kap lam : Nat → Nat) (r0 : Nat) (a1 : Int32) (a2 : Int32) (S : fm_M) : Option (Int32 × fm_M) :=
  fm_ck (kap r0 == 12) <|
  fm_b1 (m_X12_isPane kap lam r0 a1 S) fun x2 =>
  if x2 = 0 then (
   some ((-1), S)
  ) else (
   fm_b1 (m_X12_isIce kap lam a2 S) fun x11 =>
   if x11 = 0 then (
    some ((-2), S)
   ) else (
    fm_ck (kap r0 == 12) <|
    fm_b1 (m_X12_keeps kap lam r0 S) fun S21 =>
    fm_let ((-5) : Int32) fun x26 =>
    fm_let (0 : Int32) fun x28 =>
    b_X12_comes_30 kap lam fm_LF r0 a1 a2 x26 x28 S21
   )
  )
set_option maxHeartbeats 4000000 in
set_option maxRecDepth 100000 in
theorem c_X12_comes {l : Launch} {D : va_G} {ids kap lam : Nat → Nat} {RL : List Nat} {ad sk sv : Nat → Nat} {S : fm_M} {r0 : Nat} {a1 : Int32} {a2 : Int32} {r : Int32} {u : fm_M} (hE : fm_E kap RL ad) (hf : m_X12_comes kap lam r0 a1 a2 S = some (r, u)) (sz : Nat) : fm_MI l y_X12_comes prog_14_method_50_code 5 (Option.some Jvm.ClassFile.FieldType.int) 6 D ids kap lam RL ad sk sv S [.ref (ad r0), .int a1, .int a2] sz r u := by
  refine fm_open rfl hE (Nat.le_of_ble_eq_true rfl) (fun p e s m args below meth c ls Z hr hlk G F N hl hsz => ?_)
  subst hsz
  obtain ⟨hx, hb, hml, hown, hts⟩ := id Z
  have hl : lv_has ls 5 [(0, .ref (ad r0)), (1, .int a1), (2, .int a2)] := hl
  generalize hQ : MQ below _ args s 0 0 (fm_A RL ad s.heap.size) = Qf
  have hL : ∀ n : Nat, (∀ (r0 : Nat) (a1 : Int32) (a2 : Int32) (a3 : Int32) (a4 : Int32)  (S : fm_M) (H : Heap) (locs : List Loc) (ls : Array Slot), fm_F D ids kap lam RL ad S (fm_A RL ad s.heap.size) s.heap H locs → lv_has ls 5 [(0, .ref (ad r0)), (1, .int a1), (2, .int a2), (3, .int a3), (4, .int a4)] → b_X12_comes_30 kap lam n r0 a1 a2 a3 a4 S = some (r, u) → W p l e (fm_rm 6) s m args below meth c H locs 0 0 Qf (F0 m 30 ls [])) := by
    intro n
    induction n with
    | zero => exact fun _ _ _ _ _ _ _ _ _ _ _ hf => absurd hf (by intro h; cases h)
    | succ n ih =>
      intro r0 a1 a2 a3 a4 S H locs ls F hl hf
      have hf : k_X12_comes_30 kap lam (b_X12_comes_30 kap lam n) r0 a1 a2 a3 a4 S = some (r, u) := hf
      unfold k_X12_comes_30 at hf
      refine lv_iload hx hb d_X12_comes_30 (lv_at hl 4 rfl) ?_
      refine lv_bipush (v := 60) hx hb d_X12_comes_32 (by decide) ?_
      refine lv_icmp_gt (tgt := 75) hx hb d_X12_comes_34 (by decide) (fun c34 => ?_) (fun c34 => ?_)
      · have hf := fm_ip c34 hf
        refine lv_aload_n hx hb d_X12_comes_75 rfl (lv_at hl 0 rfl) ?_
        obtain ⟨hk76, hf⟩ := fm_some hf
        refine fm_rcv G F hf (fun u ho => fm_runV (k := 0) Z G F N (As := []) (rest := []) (c_X12_goesBack hE ho _) (by rw [eq_of_beq hk76]; decide) (by rw [eq_of_beq hk76]; rfl) kw_1177 kw_1179 kp_53 kw_6 kw_1180 yd_X12_goesBack rfl (by decide) (by decide) hl.1 (Nat.le_of_ble_eq_true rfl) d_X12_comes_76 (Nat.le_refl 0) (Nat.le_refl 0)) (fun S76 H locs _ F hf => ?_)
        refine lv_iload_n hx hb d_X12_comes_79 rfl (lv_at hl 3 rfl) ?_
        rw [← hQ]; exact fm_reti Z hr hlk F d_X12_comes_80 (Prod.mk.inj (Option.some.inj hf)).1 (Prod.mk.inj (Option.some.inj hf)).2
      · have hf := fm_ig c34 hf
        refine lv_iload_n hx hb d_X12_comes_37 rfl (lv_at hl 3 rfl) ?_
        refine lv_bipush (v := (-5)) hx hb d_X12_comes_38 (by decide) ?_
        refine lv_icmp_ne (tgt := 75) hx hb d_X12_comes_40 (by decide) (fun c40 => ?_) (fun c40 => ?_)
        · have hf := fm_ig c40 hf
          refine lv_aload_n hx hb d_X12_comes_75 rfl (lv_at hl 0 rfl) ?_
          obtain ⟨hk76, hf⟩ := fm_some hf
          refine fm_rcv G F hf (fun u ho => fm_runV (k := 0) Z G F N (As := []) (rest := []) (c_X12_goesBack hE ho _) (by rw [eq_of_beq hk76]; decide) (by rw [eq_of_beq hk76]; rfl) kw_1177 kw_1179 kp_53 kw_6 kw_1180 yd_X12_goesBack rfl (by decide) (by decide) hl.1 (Nat.le_of_ble_eq_true rfl) d_X12_comes_76 (Nat.le_refl 0) (Nat.le_refl 0)) (fun S76 H locs _ F hf => ?_)
          refine lv_iload_n hx hb d_X12_comes_79 rfl (lv_at hl 3 rfl) ?_
          rw [← hQ]; exact fm_reti Z hr hlk F d_X12_comes_80 (Prod.mk.inj (Option.some.inj hf)).1 (Prod.mk.inj (Option.some.inj hf)).2
        · have hf := fm_ip c40 hf
          refine lv_aload_n hx hb d_X12_comes_43 rfl (lv_at hl 0 rfl) ?_
          refine fm_rgr Z G F hf fr_X12_9 d_X12_comes_44 (fun q44 _ hf => ?_)
          refine lv_iconst (v := 3) hx hb d_X12_comes_47 (by decide) ?_
          refine lv_iload_n hx hb d_X12_comes_48 rfl (lv_at hl 1 rfl) ?_
          refine lv_iadd hx hb d_X12_comes_49 ?_
          refine fm_rld Z G F hf d_X12_comes_50 (fun x50 _ hf => ?_)
          refine lv_iload_n hx hb d_X12_comes_51 rfl (lv_at hl 2 rfl) ?_
          refine lv_icmp_ne (tgt := 60) hx hb d_X12_comes_52 (by decide) (fun c52 => ?_) (fun c52 => ?_)
          · have hf := fm_ig c52 hf
            refine lv_bipush (v := (-5)) hx hb d_X12_comes_60 (by decide) ?_
            refine lv_topi (fun x62 ex62 => ?_)
            have hf := fm_let_at ex62 hf
            refine lv_istore_n (lv' := [(3, .int x62), (0, .ref (ad r0)), (1, .int a1), (2, .int a2), (4, .int a4)]) hx hb d_X12_comes_62 rfl hl (by decide) rfl (fun ls hl => ?_)
            refine lv_aload_n hx hb d_X12_comes_63 rfl (lv_at hl 1 rfl) ?_
            refine lv_iload_n hx hb d_X12_comes_64 rfl (lv_at hl 2 rfl) ?_
            refine lv_iconst (v := 1) hx hb d_X12_comes_65 (by decide) ?_
            obtain ⟨hk66, hf⟩ := fm_some hf
            refine fm_rcv G F hf (fun u ho => fm_runV (k := 2) Z G F N (As := [.int a1, .int 1]) (rest := []) (c_X12_freezesOn hE ho _) (by rw [eq_of_beq hk66]; decide) (by rw [eq_of_beq hk66]; rfl) kw_1185 kw_1187 kp_54 kw_6 kw_1188 yd_X12_freezesOn rfl (by decide) (by decide) hl.1 (Nat.le_of_ble_eq_true rfl) d_X12_comes_66 (Nat.le_refl 0) (Nat.le_refl 0)) (fun S66 H locs _ F hf => ?_)
            obtain ⟨x69, ex69⟩ : ∃ y : Int32, y = a4 + 1 := ⟨_, rfl⟩
            have hf := fm_let_at ex69 hf
            refine lv_iinc (v := x69) (lv' := [(4, .int x69), (3, .int x62), (0, .ref (ad r0)), (1, .int a1), (2, .int a2)]) hx hb d_X12_comes_69 hl (k := 4) rfl (by rw [ex69]; rfl) (by decide) rfl (fun ls hl => ?_)
            refine lv_goto (tgt := 30) hx hb d_X12_comes_72 (by decide) ?_
            exact ih r0 a1 a2 x62 x69 S66 _ _ _ F (lv_sub hl [2, 3, 4, 1, 0] rfl) hf
          · have hf := fm_ip c52 hf
            refine lv_iload hx hb d_X12_comes_55 (lv_at hl 4 rfl) ?_
            refine lv_goto (tgt := 62) hx hb d_X12_comes_57 (by decide) ?_
            refine lv_istore_n (lv' := [(3, .int a4), (0, .ref (ad r0)), (1, .int a1), (2, .int a2), (4, .int a4)]) hx hb d_X12_comes_62 rfl hl (by decide) rfl (fun ls hl => ?_)
            refine lv_aload_n hx hb d_X12_comes_63 rfl (lv_at hl 1 rfl) ?_
            refine lv_iload_n hx hb d_X12_comes_64 rfl (lv_at hl 2 rfl) ?_
            refine lv_iconst (v := 1) hx hb d_X12_comes_65 (by decide) ?_
            obtain ⟨hk66, hf⟩ := fm_some hf
            refine fm_rcv G F hf (fun u ho => fm_runV (k := 2) Z G F N (As := [.int a1, .int 1]) (rest := []) (c_X12_freezesOn hE ho _) (by rw [eq_of_beq hk66]; decide) (by rw [eq_of_beq hk66]; rfl) kw_1185 kw_1187 kp_54 kw_6 kw_1188 yd_X12_freezesOn rfl (by decide) (by decide) hl.1 (Nat.le_of_ble_eq_true rfl) d_X12_comes_66 (Nat.le_refl 0) (Nat.le_refl 0)) (fun S66 H locs _ F hf => ?_)
            obtain ⟨x69, ex69⟩ : ∃ y : Int32, y = a4 + 1 := ⟨_, rfl⟩
            have hf := fm_let_at ex69 hf
            refine lv_iinc (v := x69) (lv' := [(4, .int x69), (3, .int a4), (0, .ref (ad r0)), (1, .int a1), (2, .int a2)]) hx hb d_X12_comes_69 hl (k := 4) rfl (by rw [ex69]; rfl) (by decide) rfl (fun ls hl => ?_)
            refine lv_goto (tgt := 30) hx hb d_X12_comes_72 (by decide) ?_
            exact ih r0 a1 a2 a4 x69 S66 _ _ _ F (lv_sub hl [2, 3, 4, 1, 0] rfl) hf
  unfold m_X12_comes at hf
  refine lv_aload_n hx hb d_X12_comes_0 rfl (lv_at hl 0 rfl) ?_
  refine lv_iload_n hx hb d_X12_comes_1 rfl (lv_at hl 1 rfl) ?_
  obtain ⟨hk2, hf⟩ := fm_some hf
  refine fm_rcr G F hf (fun r ho => fm_runV (k := 1) Z G F N (As := [.int a1]) (rest := []) (c_X12_isPane hE ho _) (by rw [eq_of_beq hk2]; decide) (by rw [eq_of_beq hk2]; rfl) kw_1075 kw_1077 kp_37 kw_6 kw_1078 yd_X12_isPane rfl (by decide) (by decide) hl.1 (Nat.le_of_ble_eq_true rfl) d_X12_comes_2 (Nat.le_refl 0) (Nat.le_refl 0)) (fun x2 H locs _ F hf => ?_)
  refine lv_if_ne (tgt := 10) hx hb d_X12_comes_5 (by decide) (fun c5 => ?_) (fun c5 => ?_)
  · have hf := fm_ig c5 hf
    refine lv_iload_n hx hb d_X12_comes_10 rfl (lv_at hl 2 rfl) ?_
    refine fm_rcr G F hf (fun r ho => fm_runS (k := 1) Z G F N (As := [.int a2]) (rest := []) (c_X12_isIce hE ho _) kw_1197 kw_1198 kw_6 kw_1199 yd_X12_isIce rfl (by decide) (by decide) hl.1 (Nat.le_of_ble_eq_true rfl) d_X12_comes_11 (Nat.le_refl 0) (Nat.le_refl 0)) (fun x11 H locs _ F hf => ?_)
    refine lv_if_ne (tgt := 20) hx hb d_X12_comes_14 (by decide) (fun c14 => ?_) (fun c14 => ?_)
    · have hf := fm_ig c14 hf
      refine lv_aload_n hx hb d_X12_comes_20 rfl (lv_at hl 0 rfl) ?_
      obtain ⟨hk21, hf⟩ := fm_some hf
      refine fm_rcv G F hf (fun u ho => fm_runV (k := 0) Z G F N (As := []) (rest := []) (c_X12_keeps hE ho _) (by rw [eq_of_beq hk21]; decide) (by rw [eq_of_beq hk21]; rfl) kw_1173 kw_1175 kp_52 kw_6 kw_1176 yd_X12_keeps rfl (by decide) (by decide) hl.1 (Nat.le_of_ble_eq_true rfl) d_X12_comes_21 (Nat.le_refl 0) (Nat.le_refl 0)) (fun S21 H locs _ F hf => ?_)
      refine lv_bipush (v := (-5)) hx hb d_X12_comes_24 (by decide) ?_
      refine lv_topi (fun x26 ex26 => ?_)
      have hf := fm_let_at ex26 hf
      refine lv_istore_n (lv' := [(3, .int x26), (0, .ref (ad r0)), (1, .int a1), (2, .int a2)]) hx hb d_X12_comes_26 rfl hl (by decide) rfl (fun ls hl => ?_)
      refine lv_iconst (v := 0) hx hb d_X12_comes_27 (by decide) ?_
      refine lv_topi (fun x28 ex28 => ?_)
      have hf := fm_let_at ex28 hf
      refine lv_istore (lv' := [(4, .int x28), (3, .int x26), (0, .ref (ad r0)), (1, .int a1), (2, .int a2)]) hx hb d_X12_comes_28 hl (by decide) rfl (fun ls hl => ?_)
      exact (hL fm_LF) r0 a1 a2 x26 x28 S21 _ _ _ F (lv_sub hl [2, 3, 4, 1, 0] rfl) hf
    · have hf := fm_ip c14 hf
      refine lv_bipush (v := (-2)) hx hb d_X12_comes_17 (by decide) ?_
      rw [← hQ]; exact fm_reti Z hr hlk F d_X12_comes_19 (Prod.mk.inj (Option.some.inj hf)).1 (Prod.mk.inj (Option.some.inj hf)).2
  · have hf := fm_ip c5 hf
    refine lv_iconst (v := (-1)) hx hb d_X12_comes_8 (by decide) ?_
    rw [← hQ]; exact fm_reti Z hr hlk F d_X12_comes_9 (Prod.mk.inj (Option.some.inj hf)).1 (Prod.mk.inj (Option.some.inj hf)).2
theorem d_X12_looksForPay_0 : decode prog_14_method_51_code 0 = .ok (.iconst 0, 1) := by decide +kernel
theorem d_X12_looksForPay_1 : decode prog_14_method_51_code 1 = .ok (.istore_n 2, 1) := by decide +kernel
theorem d_X12_looksForPay_2 : decode prog_14_method_51_code 2 = .ok (.iload_n 2, 1) := by decide +kernel
theorem d_X12_looksForPay_3 : decode prog_14_method_51_code 3 = .ok (.bipush 8, 2) := by decide +kernel
theorem d_X12_looksForPay_5 : decode prog_14_method_51_code 5 = .ok (.if_icmp .ge 85, 3) := by decide +kernel
theorem d_X12_looksForPay_8 : decode prog_14_method_51_code 8 = .ok (.aload_n 0, 1) := by decide +kernel
theorem d_X12_looksForPay_9 : decode prog_14_method_51_code 9 = .ok (.invokevirtual 177, 3) := by decide +kernel
theorem d_X12_looksForPay_12 : decode prog_14_method_51_code 12 = .ok (.iconst 0, 1) := by decide +kernel
theorem d_X12_looksForPay_13 : decode prog_14_method_51_code 13 = .ok (.istore_n 3, 1) := by decide +kernel
theorem d_X12_looksForPay_14 : decode prog_14_method_51_code 14 = .ok (.iload_n 3, 1) := by decide +kernel
theorem d_X12_looksForPay_15 : decode prog_14_method_51_code 15 = .ok (.iconst 3, 1) := by decide +kernel
theorem d_X12_looksForPay_16 : decode prog_14_method_51_code 16 = .ok (.if_icmp .ge 64, 3) := by decide +kernel
theorem d_X12_looksForPay_19 : decode prog_14_method_51_code 19 = .ok (.aload_n 0, 1) := by decide +kernel
theorem d_X12_looksForPay_20 : decode prog_14_method_51_code 20 = .ok (.getfield 28, 3) := by decide +kernel
theorem d_X12_looksForPay_23 : decode prog_14_method_51_code 23 = .ok (.bipush 24, 2) := by decide +kernel
theorem d_X12_looksForPay_25 : decode prog_14_method_51_code 25 = .ok (.iload_n 1, 1) := by decide +kernel
theorem d_X12_looksForPay_26 : decode prog_14_method_51_code 26 = .ok (.imul, 1) := by decide +kernel
theorem d_X12_looksForPay_27 : decode prog_14_method_51_code 27 = .ok (.iconst 3, 1) := by decide +kernel
theorem d_X12_looksForPay_28 : decode prog_14_method_51_code 28 = .ok (.iload_n 2, 1) := by decide +kernel
theorem d_X12_looksForPay_29 : decode prog_14_method_51_code 29 = .ok (.imul, 1) := by decide +kernel
theorem d_X12_looksForPay_30 : decode prog_14_method_51_code 30 = .ok (.iadd, 1) := by decide +kernel
theorem d_X12_looksForPay_31 : decode prog_14_method_51_code 31 = .ok (.iload_n 3, 1) := by decide +kernel
theorem d_X12_looksForPay_32 : decode prog_14_method_51_code 32 = .ok (.iadd, 1) := by decide +kernel
theorem d_X12_looksForPay_33 : decode prog_14_method_51_code 33 = .ok (.aload_n 0, 1) := by decide +kernel
theorem d_X12_looksForPay_34 : decode prog_14_method_51_code 34 = .ok (.iload_n 1, 1) := by decide +kernel
theorem d_X12_looksForPay_35 : decode prog_14_method_51_code 35 = .ok (.invokevirtual 136, 3) := by decide +kernel
theorem d_X12_looksForPay_38 : decode prog_14_method_51_code 38 = .ok (.iastore, 1) := by decide +kernel
theorem d_X12_looksForPay_39 : decode prog_14_method_51_code 39 = .ok (.aload_n 0, 1) := by decide +kernel
theorem d_X12_looksForPay_40 : decode prog_14_method_51_code 40 = .ok (.getfield 9, 3) := by decide +kernel
theorem d_X12_looksForPay_43 : decode prog_14_method_51_code 43 = .ok (.iconst 3, 1) := by decide +kernel
theorem d_X12_looksForPay_44 : decode prog_14_method_51_code 44 = .ok (.iload_n 1, 1) := by decide +kernel
theorem d_X12_looksForPay_45 : decode prog_14_method_51_code 45 = .ok (.iadd, 1) := by decide +kernel
theorem d_X12_looksForPay_46 : decode prog_14_method_51_code 46 = .ok (.iload_n 2, 1) := by decide +kernel
theorem d_X12_looksForPay_47 : decode prog_14_method_51_code 47 = .ok (.iload_n 3, 1) := by decide +kernel
theorem d_X12_looksForPay_48 : decode prog_14_method_51_code 48 = .ok (.ishr, 1) := by decide +kernel
theorem d_X12_looksForPay_49 : decode prog_14_method_51_code 49 = .ok (.iconst 1, 1) := by decide +kernel
theorem d_X12_looksForPay_50 : decode prog_14_method_51_code 50 = .ok (.iand, 1) := by decide +kernel
theorem d_X12_looksForPay_51 : decode prog_14_method_51_code 51 = .ok (.iconst 1, 1) := by decide +kernel
theorem d_X12_looksForPay_52 : decode prog_14_method_51_code 52 = .ok (.if_icmp .ne 7, 3) := by decide +kernel
theorem d_X12_looksForPay_55 : decode prog_14_method_51_code 55 = .ok (.iconst 0, 1) := by decide +kernel
theorem d_X12_looksForPay_56 : decode prog_14_method_51_code 56 = .ok (.goto 11, 3) := by decide +kernel
theorem d_X12_looksForPay_59 : decode prog_14_method_51_code 59 = .ok (.aload_n 0, 1) := by decide +kernel
theorem d_X12_looksForPay_60 : decode prog_14_method_51_code 60 = .ok (.getfield 9, 3) := by decide +kernel
theorem d_X12_looksForPay_63 : decode prog_14_method_51_code 63 = .ok (.iconst 3, 1) := by decide +kernel
theorem d_X12_looksForPay_64 : decode prog_14_method_51_code 64 = .ok (.iload_n 1, 1) := by decide +kernel
theorem d_X12_looksForPay_65 : decode prog_14_method_51_code 65 = .ok (.iadd, 1) := by decide +kernel
theorem d_X12_looksForPay_66 : decode prog_14_method_51_code 66 = .ok (.iaload, 1) := by decide +kernel
theorem d_X12_looksForPay_67 : decode prog_14_method_51_code 67 = .ok (.iastore, 1) := by decide +kernel
theorem d_X12_looksForPay_68 : decode prog_14_method_51_code 68 = .ok (.aload_n 0, 1) := by decide +kernel
theorem d_X12_looksForPay_69 : decode prog_14_method_51_code 69 = .ok (.iload_n 1, 1) := by decide +kernel
theorem d_X12_looksForPay_70 : decode prog_14_method_51_code 70 = .ok (.iconst 1, 1) := by decide +kernel
theorem d_X12_looksForPay_71 : decode prog_14_method_51_code 71 = .ok (.invokevirtual 183, 3) := by decide +kernel
theorem d_X12_looksForPay_74 : decode prog_14_method_51_code 74 = .ok (.iinc 3 1, 3) := by decide +kernel
theorem d_X12_looksForPay_77 : decode prog_14_method_51_code 77 = .ok (.goto (-63), 3) := by decide +kernel
theorem d_X12_looksForPay_80 : decode prog_14_method_51_code 80 = .ok (.aload_n 0, 1) := by decide +kernel
theorem d_X12_looksForPay_81 : decode prog_14_method_51_code 81 = .ok (.invokevirtual 180, 3) := by decide +kernel
theorem d_X12_looksForPay_84 : decode prog_14_method_51_code 84 = .ok (.iinc 2 1, 3) := by decide +kernel
theorem d_X12_looksForPay_87 : decode prog_14_method_51_code 87 = .ok (.goto (-85), 3) := by decide +kernel
theorem d_X12_looksForPay_90 : decode prog_14_method_51_code 90 = .ok (.return_, 1) := by decide +kernel
def k_X12_looksForPay_2 (kap lam : Nat → Nat) (go2 : Nat → Int32 → Int32 → fm_M → Option fm_M) (go14 : Nat → Int32 → Int32 → Int32 → fm_M → Option fm_M) (r0 : Nat) (a1 : Int32) (a2 : Int32)  (S : fm_M) : Option fm_M :=
  if 8 ≤ a2 then (
   some S
  ) else (
   fm_ck (kap r0 == 12) <|
   fm_b1 (m_X12_keeps kap lam r0 S) fun S9 =>
   fm_let (0 : Int32) fun x13 =>
   go14 r0 a1 a2 x13 S9
  )
def k_X12_looksForPay_14 (kap lam : Nat → Nat) (go2 : Nat → Int32 → Int32 → fm_M → Option fm_M) (go14 : Nat → Int32 → Int32 → Int32 → fm_M → Option fm_M) (r0 : Nat) (a1 : Int32) (a2 : Int32) (a3 : Int32)  (S : fm_M) : Option fm_M :=
  if 3 ≤ a3 then (
   fm_ck (kap r0 == 12) <|
   fm_b1 (m_X12_goesBack kap lam r0 S) fun S81 =>
   fm_let (a2 + 1 : Int32) fun x84 =>
   go2 r0 a1 x84 S81
  ) else (
   fm_gr kap 12 r0 12 S fun q20 =>
   fm_ck (kap r0 == 12) <|
   fm_b1 (m_X12_offerOf kap lam r0 a1 S) fun x35 =>
   fm_st kap lam q20 (((24 * a1) + (3 * a2)) + a3) x35 S fun S38 =>
   fm_gr kap 12 r0 1 S38 fun q40 =>
   if ((a2 >>> (a3 &&& 31)) &&& 1) = 1 then (
    fm_st kap lam q40 (3 + a1) 0 S38 fun S67 =>
    fm_ck (kap r0 == 12) <|
    fm_b1 (m_X12_freezesOn kap lam r0 a1 1 S67) fun S71 =>
    fm_let (a3 + 1 : Int32) fun x74 =>
    go14 r0 a1 a2 x74 S71
   ) else (
    fm_gr kap 12 r0 1 S38 fun q60 =>
    fm_ld kap lam 13 q60 (3 + a1) S38 fun x66 =>
    fm_st kap lam q40 (3 + a1) x66 S38 fun S67 =>
    fm_ck (kap r0 == 12) <|
    fm_b1 (m_X12_freezesOn kap lam r0 a1 1 S67) fun S71 =>
    fm_let (a3 + 1 : Int32) fun x74 =>
    go14 r0 a1 a2 x74 S71
   )
  )
def bs_X12_looksForPay (kap lam : Nat → Nat) : Nat → (Nat → Int32 → Int32 → fm_M → Option fm_M) × (Nat → Int32 → Int32 → Int32 → fm_M → Option fm_M)
  | 0 => ((fun _ _ _ _ => none), (fun _ _ _ _ _ => none))
  | n + 1 => (k_X12_looksForPay_2 kap lam (bs_X12_looksForPay kap lam n).1 (bs_X12_looksForPay kap lam n).2, k_X12_looksForPay_14 kap lam (bs_X12_looksForPay kap lam n).1 (bs_X12_looksForPay kap lam n).2)
def b_X12_looksForPay_2 (kap lam : Nat → Nat) (n : Nat) : Nat → Int32 → Int32 → fm_M → Option fm_M := (bs_X12_looksForPay kap lam n).1
def b_X12_looksForPay_14 (kap lam : Nat → Nat) (n : Nat) : Nat → Int32 → Int32 → Int32 → fm_M → Option fm_M := (bs_X12_looksForPay kap lam n).2
def m_X12_looksForPay (kap lam : Nat → Nat) (r0 : Nat) (a1 : Int32) (S : fm_M) : Option fm_M :=
  fm_let (0 : Int32) fun x1 =>
  b_X12_looksForPay_2 kap lam fm_LF r0 a1 x1 S
set_option maxHeartbeats 4000000 in
set_option maxRecDepth 100000 in
theorem c_X12_looksForPay {l : Launch} {D : va_G} {ids kap lam : Nat → Nat} {RL : List Nat} {ad sk sv : Nat → Nat} {S : fm_M} {r0 : Nat} {a1 : Int32} {u : fm_M} (hE : fm_E kap RL ad) (hf : m_X12_looksForPay kap lam r0 a1 S = some u) (sz : Nat) : fm_MV l y_X12_looksForPay prog_14_method_51_code 4 (Option.none : Option Jvm.ClassFile.FieldType) 6 D ids kap lam RL ad sk sv S [.ref (ad r0), .int a1] sz u := by
  refine fm_open rfl hE (Nat.le_of_ble_eq_true rfl) (fun p e s m args below meth c ls Z hr hlk G F N hl hsz => ?_)
  subst hsz
  obtain ⟨hx, hb, hml, hown, hts⟩ := id Z
  have hl : lv_has ls 4 [(0, .ref (ad r0)), (1, .int a1)] := hl
  generalize hQ : MQ below _ args s 0 0 (fm_A RL ad s.heap.size) = Qf
  have hL : ∀ n : Nat, (∀ (r0 : Nat) (a1 : Int32) (a2 : Int32)  (S : fm_M) (H : Heap) (locs : List Loc) (ls : Array Slot), fm_F D ids kap lam RL ad S (fm_A RL ad s.heap.size) s.heap H locs → lv_has ls 4 [(0, .ref (ad r0)), (1, .int a1), (2, .int a2)] → b_X12_looksForPay_2 kap lam n r0 a1 a2 S = some u → W p l e (fm_rm 6) s m args below meth c H locs 0 0 Qf (F0 m 2 ls [])) ∧ (∀ (r0 : Nat) (a1 : Int32) (a2 : Int32) (a3 : Int32)  (S : fm_M) (H : Heap) (locs : List Loc) (ls : Array Slot), fm_F D ids kap lam RL ad S (fm_A RL ad s.heap.size) s.heap H locs → lv_has ls 4 [(0, .ref (ad r0)), (1, .int a1), (2, .int a2), (3, .int a3)] → b_X12_looksForPay_14 kap lam n r0 a1 a2 a3 S = some u → W p l e (fm_rm 6) s m args below meth c H locs 0 0 Qf (F0 m 14 ls [])) := by
    intro n
    induction n with
    | zero => exact ⟨fun _ _ _ _ _ _ _ _ _ hf => absurd hf (by intro h; cases h), fun _ _ _ _ _ _ _ _ _ _ hf => absurd hf (by intro h; cases h)⟩
    | succ n ih =>
      refine ⟨?_, ?_⟩
      · intro r0 a1 a2 S H locs ls F hl hf
        have hf : k_X12_looksForPay_2 kap lam (b_X12_looksForPay_2 kap lam n) (b_X12_looksForPay_14 kap lam n) r0 a1 a2 S = some u := hf
        unfold k_X12_looksForPay_2 at hf
        refine lv_iload_n hx hb d_X12_looksForPay_2 rfl (lv_at hl 2 rfl) ?_
        refine lv_bipush (v := 8) hx hb d_X12_looksForPay_3 (by decide) ?_
        refine lv_icmp_ge (tgt := 90) hx hb d_X12_looksForPay_5 (by decide) (fun c5 => ?_) (fun c5 => ?_)
        · have hf := fm_ip c5 hf
          rw [← hQ]; exact fm_retv Z hr hlk F d_X12_looksForPay_90 (Option.some.inj hf)
        · have hf := fm_ig c5 hf
          refine lv_aload_n hx hb d_X12_looksForPay_8 rfl (lv_at hl 0 rfl) ?_
          obtain ⟨hk9, hf⟩ := fm_some hf
          refine fm_rcv G F hf (fun u ho => fm_runV (k := 0) Z G F N (As := []) (rest := []) (c_X12_keeps hE ho _) (by rw [eq_of_beq hk9]; decide) (by rw [eq_of_beq hk9]; rfl) kw_1173 kw_1175 kp_52 kw_6 kw_1176 yd_X12_keeps rfl (by decide) (by decide) hl.1 (Nat.le_of_ble_eq_true rfl) d_X12_looksForPay_9 (Nat.le_refl 0) (Nat.le_refl 0)) (fun S9 H locs _ F hf => ?_)
          refine lv_iconst (v := 0) hx hb d_X12_looksForPay_12 (by decide) ?_
          refine lv_topi (fun x13 ex13 => ?_)
          have hf := fm_let_at ex13 hf
          refine lv_istore_n (lv' := [(3, .int x13), (0, .ref (ad r0)), (1, .int a1), (2, .int a2)]) hx hb d_X12_looksForPay_13 rfl hl (by decide) rfl (fun ls hl => ?_)
          exact (ih).2 r0 a1 a2 x13 S9 _ _ _ F (lv_sub hl [1, 2, 3, 0] rfl) hf
      · intro r0 a1 a2 a3 S H locs ls F hl hf
        have hf : k_X12_looksForPay_14 kap lam (b_X12_looksForPay_2 kap lam n) (b_X12_looksForPay_14 kap lam n) r0 a1 a2 a3 S = some u := hf
        unfold k_X12_looksForPay_14 at hf
        refine lv_iload_n hx hb d_X12_looksForPay_14 rfl (lv_at hl 3 rfl) ?_
        refine lv_iconst (v := 3) hx hb d_X12_looksForPay_15 (by decide) ?_
        refine lv_icmp_ge (tgt := 80) hx hb d_X12_looksForPay_16 (by decide) (fun c16 => ?_) (fun c16 => ?_)
        · have hf := fm_ip c16 hf
          refine lv_aload_n hx hb d_X12_looksForPay_80 rfl (lv_at hl 0 rfl) ?_
          obtain ⟨hk81, hf⟩ := fm_some hf
          refine fm_rcv G F hf (fun u ho => fm_runV (k := 0) Z G F N (As := []) (rest := []) (c_X12_goesBack hE ho _) (by rw [eq_of_beq hk81]; decide) (by rw [eq_of_beq hk81]; rfl) kw_1177 kw_1179 kp_53 kw_6 kw_1180 yd_X12_goesBack rfl (by decide) (by decide) hl.1 (Nat.le_of_ble_eq_true rfl) d_X12_looksForPay_81 (Nat.le_refl 0) (Nat.le_refl 0)) (fun S81 H locs _ F hf => ?_)
          obtain ⟨x84, ex84⟩ : ∃ y : Int32, y = a2 + 1 := ⟨_, rfl⟩
          have hf := fm_let_at ex84 hf
          refine lv_iinc (v := x84) (lv' := [(2, .int x84), (0, .ref (ad r0)), (1, .int a1), (3, .int a3)]) hx hb d_X12_looksForPay_84 hl (k := 2) rfl (by rw [ex84]; rfl) (by decide) rfl (fun ls hl => ?_)
          refine lv_goto (tgt := 2) hx hb d_X12_looksForPay_87 (by decide) ?_
          exact (ih).1 r0 a1 x84 S81 _ _ _ F (lv_sub hl [1, 2, 0] rfl) hf
        · have hf := fm_ig c16 hf
          refine lv_aload_n hx hb d_X12_looksForPay_19 rfl (lv_at hl 0 rfl) ?_
          refine fm_rgr Z G F hf fr_X12_28 d_X12_looksForPay_20 (fun q20 _ hf => ?_)
          refine lv_bipush (v := 24) hx hb d_X12_looksForPay_23 (by decide) ?_
          refine lv_iload_n hx hb d_X12_looksForPay_25 rfl (lv_at hl 1 rfl) ?_
          refine lv_imul hx hb d_X12_looksForPay_26 ?_
          refine lv_iconst (v := 3) hx hb d_X12_looksForPay_27 (by decide) ?_
          refine lv_iload_n hx hb d_X12_looksForPay_28 rfl (lv_at hl 2 rfl) ?_
          refine lv_imul hx hb d_X12_looksForPay_29 ?_
          refine lv_iadd hx hb d_X12_looksForPay_30 ?_
          refine lv_iload_n hx hb d_X12_looksForPay_31 rfl (lv_at hl 3 rfl) ?_
          refine lv_iadd hx hb d_X12_looksForPay_32 ?_
          refine lv_aload_n hx hb d_X12_looksForPay_33 rfl (lv_at hl 0 rfl) ?_
          refine lv_iload_n hx hb d_X12_looksForPay_34 rfl (lv_at hl 1 rfl) ?_
          obtain ⟨hk35, hf⟩ := fm_some hf
          refine fm_rcr G F hf (fun r ho => fm_runV (k := 1) Z G F N (As := [.int a1]) (rest := [.int (((24 * a1) + (3 * a2)) + a3), .ref (ad q20)]) (c_X12_offerOf hE ho _) (by rw [eq_of_beq hk35]; decide) (by rw [eq_of_beq hk35]; rfl) kw_1079 kw_1081 kp_38 kw_6 kw_1082 yd_X12_offerOf rfl (by decide) (by decide) hl.1 (Nat.le_of_ble_eq_true rfl) d_X12_looksForPay_35 (Nat.le_refl 0) (Nat.le_refl 0)) (fun x35 H locs _ F hf => ?_)
          refine fm_rst Z G F hf d_X12_looksForPay_38 (fun S38 H locs _ F hf => ?_)
          refine lv_aload_n hx hb d_X12_looksForPay_39 rfl (lv_at hl 0 rfl) ?_
          refine fm_rgr Z G F hf fr_X12_9 d_X12_looksForPay_40 (fun q40 _ hf => ?_)
          refine lv_iconst (v := 3) hx hb d_X12_looksForPay_43 (by decide) ?_
          refine lv_iload_n hx hb d_X12_looksForPay_44 rfl (lv_at hl 1 rfl) ?_
          refine lv_iadd hx hb d_X12_looksForPay_45 ?_
          refine lv_iload_n hx hb d_X12_looksForPay_46 rfl (lv_at hl 2 rfl) ?_
          refine lv_iload_n hx hb d_X12_looksForPay_47 rfl (lv_at hl 3 rfl) ?_
          refine lv_ishr hx hb d_X12_looksForPay_48 ?_
          refine lv_iconst (v := 1) hx hb d_X12_looksForPay_49 (by decide) ?_
          refine lv_iand hx hb d_X12_looksForPay_50 ?_
          refine lv_iconst (v := 1) hx hb d_X12_looksForPay_51 (by decide) ?_
          refine lv_icmp_ne (tgt := 59) hx hb d_X12_looksForPay_52 (by decide) (fun c52 => ?_) (fun c52 => ?_)
          · have hf := fm_ig c52 hf
            refine lv_aload_n hx hb d_X12_looksForPay_59 rfl (lv_at hl 0 rfl) ?_
            refine fm_rgr Z G F hf fr_X12_9 d_X12_looksForPay_60 (fun q60 _ hf => ?_)
            refine lv_iconst (v := 3) hx hb d_X12_looksForPay_63 (by decide) ?_
            refine lv_iload_n hx hb d_X12_looksForPay_64 rfl (lv_at hl 1 rfl) ?_
            refine lv_iadd hx hb d_X12_looksForPay_65 ?_
            refine fm_rld Z G F hf d_X12_looksForPay_66 (fun x66 _ hf => ?_)
            refine fm_rst Z G F hf d_X12_looksForPay_67 (fun S67 H locs _ F hf => ?_)
            refine lv_aload_n hx hb d_X12_looksForPay_68 rfl (lv_at hl 0 rfl) ?_
            refine lv_iload_n hx hb d_X12_looksForPay_69 rfl (lv_at hl 1 rfl) ?_
            refine lv_iconst (v := 1) hx hb d_X12_looksForPay_70 (by decide) ?_
            obtain ⟨hk71, hf⟩ := fm_some hf
            refine fm_rcv G F hf (fun u ho => fm_runV (k := 2) Z G F N (As := [.int a1, .int 1]) (rest := []) (c_X12_freezesOn hE ho _) (by rw [eq_of_beq hk71]; decide) (by rw [eq_of_beq hk71]; rfl) kw_1185 kw_1187 kp_54 kw_6 kw_1188 yd_X12_freezesOn rfl (by decide) (by decide) hl.1 (Nat.le_of_ble_eq_true rfl) d_X12_looksForPay_71 (Nat.le_refl 0) (Nat.le_refl 0)) (fun S71 H locs _ F hf => ?_)
            obtain ⟨x74, ex74⟩ : ∃ y : Int32, y = a3 + 1 := ⟨_, rfl⟩
            have hf := fm_let_at ex74 hf
            refine lv_iinc (v := x74) (lv' := [(3, .int x74), (0, .ref (ad r0)), (1, .int a1), (2, .int a2)]) hx hb d_X12_looksForPay_74 hl (k := 3) rfl (by rw [ex74]; rfl) (by decide) rfl (fun ls hl => ?_)
            refine lv_goto (tgt := 14) hx hb d_X12_looksForPay_77 (by decide) ?_
            exact (ih).2 r0 a1 a2 x74 S71 _ _ _ F (lv_sub hl [1, 2, 3, 0] rfl) hf
          · have hf := fm_ip c52 hf
            refine lv_iconst (v := 0) hx hb d_X12_looksForPay_55 (by decide) ?_
            refine lv_goto (tgt := 67) hx hb d_X12_looksForPay_56 (by decide) ?_
            refine fm_rst Z G F hf d_X12_looksForPay_67 (fun S67 H locs _ F hf => ?_)
            refine lv_aload_n hx hb d_X12_looksForPay_68 rfl (lv_at hl 0 rfl) ?_
            refine lv_iload_n hx hb d_X12_looksForPay_69 rfl (lv_at hl 1 rfl) ?_
            refine lv_iconst (v := 1) hx hb d_X12_looksForPay_70 (by decide) ?_
            obtain ⟨hk71, hf⟩ := fm_some hf
            refine fm_rcv G F hf (fun u ho => fm_runV (k := 2) Z G F N (As := [.int a1, .int 1]) (rest := []) (c_X12_freezesOn hE ho _) (by rw [eq_of_beq hk71]; decide) (by rw [eq_of_beq hk71]; rfl) kw_1185 kw_1187 kp_54 kw_6 kw_1188 yd_X12_freezesOn rfl (by decide) (by decide) hl.1 (Nat.le_of_ble_eq_true rfl) d_X12_looksForPay_71 (Nat.le_refl 0) (Nat.le_refl 0)) (fun S71 H locs _ F hf => ?_)
            obtain ⟨x74, ex74⟩ : ∃ y : Int32, y = a3 + 1 := ⟨_, rfl⟩
            have hf := fm_let_at ex74 hf
            refine lv_iinc (v := x74) (lv' := [(3, .int x74), (0, .ref (ad r0)), (1, .int a1), (2, .int a2)]) hx hb d_X12_looksForPay_74 hl (k := 3) rfl (by rw [ex74]; rfl) (by decide) rfl (fun ls hl => ?_)
            refine lv_goto (tgt := 14) hx hb d_X12_looksForPay_77 (by decide) ?_
            exact (ih).2 r0 a1 a2 x74 S71 _ _ _ F (lv_sub hl [1, 2, 3, 0] rfl) hf
  unfold m_X12_looksForPay at hf
  refine lv_iconst (v := 0) hx hb d_X12_looksForPay_0 (by decide) ?_
  refine lv_topi (fun x1 ex1 => ?_)
  have hf := fm_let_at ex1 hf
  refine lv_istore_n (lv' := [(2, .int x1), (0, .ref (ad r0)), (1, .int a1)]) hx hb d_X12_looksForPay_1 rfl hl (by decide) rfl (fun ls hl => ?_)
  exact (hL fm_LF).1 r0 a1 x1 S _ _ _ F (lv_sub hl [1, 2, 0] rfl) hf
theorem d_X12_paidBy_0 : decode prog_14_method_52_code 0 = .ok (.iconst 0, 1) := by decide +kernel
theorem d_X12_paidBy_1 : decode prog_14_method_52_code 1 = .ok (.istore_n 2, 1) := by decide +kernel
theorem d_X12_paidBy_2 : decode prog_14_method_52_code 2 = .ok (.iconst 0, 1) := by decide +kernel
theorem d_X12_paidBy_3 : decode prog_14_method_52_code 3 = .ok (.istore_n 3, 1) := by decide +kernel
theorem d_X12_paidBy_4 : decode prog_14_method_52_code 4 = .ok (.iload_n 3, 1) := by decide +kernel
theorem d_X12_paidBy_5 : decode prog_14_method_52_code 5 = .ok (.iload_n 1, 1) := by decide +kernel
theorem d_X12_paidBy_6 : decode prog_14_method_52_code 6 = .ok (.if_icmp .ge 95, 3) := by decide +kernel
theorem d_X12_paidBy_9 : decode prog_14_method_52_code 9 = .ok (.iconst 0, 1) := by decide +kernel
theorem d_X12_paidBy_10 : decode prog_14_method_52_code 10 = .ok (.istore 4, 2) := by decide +kernel
theorem d_X12_paidBy_12 : decode prog_14_method_52_code 12 = .ok (.iconst 0, 1) := by decide +kernel
theorem d_X12_paidBy_13 : decode prog_14_method_52_code 13 = .ok (.istore 5, 2) := by decide +kernel
theorem d_X12_paidBy_15 : decode prog_14_method_52_code 15 = .ok (.iload 5, 2) := by decide +kernel
theorem d_X12_paidBy_17 : decode prog_14_method_52_code 17 = .ok (.iload_n 3, 1) := by decide +kernel
theorem d_X12_paidBy_18 : decode prog_14_method_52_code 18 = .ok (.if_icmp .ge 38, 3) := by decide +kernel
theorem d_X12_paidBy_21 : decode prog_14_method_52_code 21 = .ok (.iload 4, 2) := by decide +kernel
theorem d_X12_paidBy_23 : decode prog_14_method_52_code 23 = .ok (.aload_n 0, 1) := by decide +kernel
theorem d_X12_paidBy_24 : decode prog_14_method_52_code 24 = .ok (.getfield 31, 3) := by decide +kernel
theorem d_X12_paidBy_27 : decode prog_14_method_52_code 27 = .ok (.iload 5, 2) := by decide +kernel
theorem d_X12_paidBy_29 : decode prog_14_method_52_code 29 = .ok (.iaload, 1) := by decide +kernel
theorem d_X12_paidBy_30 : decode prog_14_method_52_code 30 = .ok (.aload_n 0, 1) := by decide +kernel
theorem d_X12_paidBy_31 : decode prog_14_method_52_code 31 = .ok (.getfield 31, 3) := by decide +kernel
theorem d_X12_paidBy_34 : decode prog_14_method_52_code 34 = .ok (.iload_n 3, 1) := by decide +kernel
theorem d_X12_paidBy_35 : decode prog_14_method_52_code 35 = .ok (.iaload, 1) := by decide +kernel
theorem d_X12_paidBy_36 : decode prog_14_method_52_code 36 = .ok (.if_icmp .ne 10, 3) := by decide +kernel
theorem d_X12_paidBy_39 : decode prog_14_method_52_code 39 = .ok (.iconst 1, 1) := by decide +kernel
theorem d_X12_paidBy_40 : decode prog_14_method_52_code 40 = .ok (.iload 5, 2) := by decide +kernel
theorem d_X12_paidBy_42 : decode prog_14_method_52_code 42 = .ok (.ishl, 1) := by decide +kernel
theorem d_X12_paidBy_43 : decode prog_14_method_52_code 43 = .ok (.goto 4, 3) := by decide +kernel
theorem d_X12_paidBy_46 : decode prog_14_method_52_code 46 = .ok (.iconst 0, 1) := by decide +kernel
theorem d_X12_paidBy_47 : decode prog_14_method_52_code 47 = .ok (.ior, 1) := by decide +kernel
theorem d_X12_paidBy_48 : decode prog_14_method_52_code 48 = .ok (.istore 4, 2) := by decide +kernel
theorem d_X12_paidBy_50 : decode prog_14_method_52_code 50 = .ok (.iinc 5 1, 3) := by decide +kernel
theorem d_X12_paidBy_53 : decode prog_14_method_52_code 53 = .ok (.goto (-38), 3) := by decide +kernel
theorem d_X12_paidBy_56 : decode prog_14_method_52_code 56 = .ok (.iload_n 2, 1) := by decide +kernel
theorem d_X12_paidBy_57 : decode prog_14_method_52_code 57 = .ok (.aload_n 0, 1) := by decide +kernel
theorem d_X12_paidBy_58 : decode prog_14_method_52_code 58 = .ok (.getfield 31, 3) := by decide +kernel
theorem d_X12_paidBy_61 : decode prog_14_method_52_code 61 = .ok (.iload_n 3, 1) := by decide +kernel
theorem d_X12_paidBy_62 : decode prog_14_method_52_code 62 = .ok (.iaload, 1) := by decide +kernel
theorem d_X12_paidBy_63 : decode prog_14_method_52_code 63 = .ok (.bipush 9, 2) := by decide +kernel
theorem d_X12_paidBy_65 : decode prog_14_method_52_code 65 = .ok (.if_icmp .ne 7, 3) := by decide +kernel
theorem d_X12_paidBy_68 : decode prog_14_method_52_code 68 = .ok (.iconst 0, 1) := by decide +kernel
theorem d_X12_paidBy_69 : decode prog_14_method_52_code 69 = .ok (.goto 24, 3) := by decide +kernel
theorem d_X12_paidBy_72 : decode prog_14_method_52_code 72 = .ok (.aload_n 0, 1) := by decide +kernel
theorem d_X12_paidBy_73 : decode prog_14_method_52_code 73 = .ok (.getfield 28, 3) := by decide +kernel
theorem d_X12_paidBy_76 : decode prog_14_method_52_code 76 = .ok (.bipush 24, 2) := by decide +kernel
theorem d_X12_paidBy_78 : decode prog_14_method_52_code 78 = .ok (.aload_n 0, 1) := by decide +kernel
theorem d_X12_paidBy_79 : decode prog_14_method_52_code 79 = .ok (.getfield 31, 3) := by decide +kernel
theorem d_X12_paidBy_82 : decode prog_14_method_52_code 82 = .ok (.iload_n 3, 1) := by decide +kernel
theorem d_X12_paidBy_83 : decode prog_14_method_52_code 83 = .ok (.iaload, 1) := by decide +kernel
theorem d_X12_paidBy_84 : decode prog_14_method_52_code 84 = .ok (.imul, 1) := by decide +kernel
theorem d_X12_paidBy_85 : decode prog_14_method_52_code 85 = .ok (.iconst 3, 1) := by decide +kernel
theorem d_X12_paidBy_86 : decode prog_14_method_52_code 86 = .ok (.iload 4, 2) := by decide +kernel
theorem d_X12_paidBy_88 : decode prog_14_method_52_code 88 = .ok (.imul, 1) := by decide +kernel
theorem d_X12_paidBy_89 : decode prog_14_method_52_code 89 = .ok (.iadd, 1) := by decide +kernel
theorem d_X12_paidBy_90 : decode prog_14_method_52_code 90 = .ok (.iload_n 3, 1) := by decide +kernel
theorem d_X12_paidBy_91 : decode prog_14_method_52_code 91 = .ok (.iadd, 1) := by decide +kernel
theorem d_X12_paidBy_92 : decode prog_14_method_52_code 92 = .ok (.iaload, 1) := by decide +kernel
theorem d_X12_paidBy_93 : decode prog_14_method_52_code 93 = .ok (.iadd, 1) := by decide +kernel
theorem d_X12_paidBy_94 : decode prog_14_method_52_code 94 = .ok (.istore_n 2, 1) := by decide +kernel
theorem d_X12_paidBy_95 : decode prog_14_method_52_code 95 = .ok (.iinc 3 1, 3) := by decide +kernel
theorem d_X12_paidBy_98 : decode prog_14_method_52_code 98 = .ok (.goto (-94), 3) := by decide +kernel
theorem d_X12_paidBy_101 : decode prog_14_method_52_code 101 = .ok (.iload_n 2, 1) := by decide +kernel
theorem d_X12_paidBy_102 : decode prog_14_method_52_code 102 = .ok (.ireturn, 1) := by decide +kernel
def k_X12_paidBy_4 (kap lam : Nat → Nat) (S : fm_M) (go4 : Nat → Int32 → Int32 → Int32 → Option Int32) (go15 : Nat → Int32 → Int32 → Int32 → Int32 → Int32 → Option Int32) (r0 : Nat) (a1 : Int32) (a2 : Int32) (a3 : Int32)  : Option Int32 :=
  if a1 ≤ a3 then (
   some a2
  ) else (
   fm_let (0 : Int32) fun x10 =>
   fm_let (0 : Int32) fun x13 =>
   go15 r0 a1 a2 a3 x10 x13
  )
def k_X12_paidBy_15 (kap lam : Nat → Nat) (S : fm_M) (go4 : Nat → Int32 → Int32 → Int32 → Option Int32) (go15 : Nat → Int32 → Int32 → Int32 → Int32 → Int32 → Option Int32) (r0 : Nat) (a1 : Int32) (a2 : Int32) (a3 : Int32) (a4 : Int32) (a5 : Int32)  : Option Int32 :=
  if a3 ≤ a5 then (
   fm_gr kap 12 r0 13 S fun q58 =>
   fm_ld kap lam 13 q58 a3 S fun x62 =>
   if x62 = 9 then (
    fm_let (a2 + 0 : Int32) fun x94 =>
    fm_let (a3 + 1 : Int32) fun x95 =>
    go4 r0 a1 x94 x95
   ) else (
    fm_gr kap 12 r0 12 S fun q73 =>
    fm_gr kap 12 r0 13 S fun q79 =>
    fm_ld kap lam 13 q79 a3 S fun x83 =>
    fm_ld kap lam 13 q73 (((24 * x83) + (3 * a4)) + a3) S fun x92 =>
    fm_let (a2 + x92 : Int32) fun x94 =>
    fm_let (a3 + 1 : Int32) fun x95 =>
    go4 r0 a1 x94 x95
   )
  ) else (
   fm_gr kap 12 r0 13 S fun q24 =>
   fm_ld kap lam 13 q24 a5 S fun x29 =>
   fm_gr kap 12 r0 13 S fun q31 =>
   fm_ld kap lam 13 q31 a3 S fun x35 =>
   if x29 = x35 then (
    fm_let (a4 ||| ((1 : Int32) <<< (a5 &&& 31)) : Int32) fun x48 =>
    fm_let (a5 + 1 : Int32) fun x50 =>
    go15 r0 a1 a2 a3 x48 x50
   ) else (
    fm_let (a4 ||| 0 : Int32) fun x48 =>
    fm_let (a5 + 1 : Int32) fun x50 =>
    go15 r0 a1 a2 a3 x48 x50
   )
  )
def bs_X12_paidBy (kap lam : Nat → Nat) (S : fm_M) : Nat → (Nat → Int32 → Int32 → Int32 → Option Int32) × (Nat → Int32 → Int32 → Int32 → Int32 → Int32 → Option Int32)
  | 0 => ((fun _ _ _ _ => none), (fun _ _ _ _ _ _ => none))
  | n + 1 => (k_X12_paidBy_4 kap lam S (bs_X12_paidBy kap lam S n).1 (bs_X12_paidBy kap lam S n).2, k_X12_paidBy_15 kap lam S (bs_X12_paidBy kap lam S n).1 (bs_X12_paidBy kap lam S n).2)
def b_X12_paidBy_4 (kap lam : Nat → Nat) (S : fm_M) (n : Nat) : Nat → Int32 → Int32 → Int32 → Option Int32 := (bs_X12_paidBy kap lam S n).1
def b_X12_paidBy_15 (kap lam : Nat → Nat) (S : fm_M) (n : Nat) : Nat → Int32 → Int32 → Int32 → Int32 → Int32 → Option Int32 := (bs_X12_paidBy kap lam S n).2
def m_X12_paidBy (kap lam : Nat → Nat) (r0 : Nat) (a1 : Int32) (S : fm_M) : Option Int32 :=
  fm_let (0 : Int32) fun x1 =>
  fm_let (0 : Int32) fun x3 =>
  b_X12_paidBy_4 kap lam S fm_LF r0 a1 x1 x3
set_option maxHeartbeats 4000000 in
set_option maxRecDepth 100000 in
theorem c_X12_paidBy {l : Launch} {D : va_G} {ids kap lam : Nat → Nat} {RL : List Nat} {ad sk sv : Nat → Nat} {S : fm_M} {r0 : Nat} {a1 : Int32} {r : Int32} (hE : fm_E kap RL ad) (hf : m_X12_paidBy kap lam r0 a1 S = some r) (sz : Nat) : fm_MI l y_X12_paidBy prog_14_method_52_code 6 (Option.some Jvm.ClassFile.FieldType.int) 0 D ids kap lam RL ad sk sv S [.ref (ad r0), .int a1] sz r S := by
  refine fm_open rfl hE (Nat.le_of_ble_eq_true rfl) (fun p e s m args below meth c ls Z hr hlk G F N hl hsz => ?_)
  subst hsz
  obtain ⟨hx, hb, hml, hown, hts⟩ := id Z
  have hl : lv_has ls 6 [(0, .ref (ad r0)), (1, .int a1)] := hl
  generalize hQ : MQ below _ args s 0 0 (fm_A RL ad s.heap.size) = Qf
  have hL : ∀ n : Nat, (∀ (r0 : Nat) (a1 : Int32) (a2 : Int32) (a3 : Int32)  (H : Heap) (locs : List Loc) (ls : Array Slot), fm_F D ids kap lam RL ad S (fm_A RL ad s.heap.size) s.heap H locs → lv_has ls 6 [(0, .ref (ad r0)), (1, .int a1), (2, .int a2), (3, .int a3)] → b_X12_paidBy_4 kap lam S n r0 a1 a2 a3 = some r → W p l e (fm_rm 0) s m args below meth c H locs 0 0 Qf (F0 m 4 ls [])) ∧ (∀ (r0 : Nat) (a1 : Int32) (a2 : Int32) (a3 : Int32) (a4 : Int32) (a5 : Int32)  (H : Heap) (locs : List Loc) (ls : Array Slot), fm_F D ids kap lam RL ad S (fm_A RL ad s.heap.size) s.heap H locs → lv_has ls 6 [(0, .ref (ad r0)), (1, .int a1), (2, .int a2), (3, .int a3), (4, .int a4), (5, .int a5)] → b_X12_paidBy_15 kap lam S n r0 a1 a2 a3 a4 a5 = some r → W p l e (fm_rm 0) s m args below meth c H locs 0 0 Qf (F0 m 15 ls [])) := by
    intro n
    induction n with
    | zero => exact ⟨fun _ _ _ _ _ _ _ _ _ hf => absurd hf (by intro h; cases h), fun _ _ _ _ _ _ _ _ _ _ _ hf => absurd hf (by intro h; cases h)⟩
    | succ n ih =>
      refine ⟨?_, ?_⟩
      · intro r0 a1 a2 a3 H locs ls F hl hf
        have hf : k_X12_paidBy_4 kap lam S (b_X12_paidBy_4 kap lam S n) (b_X12_paidBy_15 kap lam S n) r0 a1 a2 a3 = some r := hf
        unfold k_X12_paidBy_4 at hf
        refine lv_iload_n hx hb d_X12_paidBy_4 rfl (lv_at hl 3 rfl) ?_
        refine lv_iload_n hx hb d_X12_paidBy_5 rfl (lv_at hl 1 rfl) ?_
        refine lv_icmp_ge (tgt := 101) hx hb d_X12_paidBy_6 (by decide) (fun c6 => ?_) (fun c6 => ?_)
        · have hf := fm_ip c6 hf
          refine lv_iload_n hx hb d_X12_paidBy_101 rfl (lv_at hl 2 rfl) ?_
          rw [← hQ]; exact fm_reti Z hr hlk F d_X12_paidBy_102 (Option.some.inj hf) rfl
        · have hf := fm_ig c6 hf
          refine lv_iconst (v := 0) hx hb d_X12_paidBy_9 (by decide) ?_
          refine lv_topi (fun x10 ex10 => ?_)
          have hf := fm_let_at ex10 hf
          refine lv_istore (lv' := [(4, .int x10), (0, .ref (ad r0)), (1, .int a1), (2, .int a2), (3, .int a3)]) hx hb d_X12_paidBy_10 hl (by decide) rfl (fun ls hl => ?_)
          refine lv_iconst (v := 0) hx hb d_X12_paidBy_12 (by decide) ?_
          refine lv_topi (fun x13 ex13 => ?_)
          have hf := fm_let_at ex13 hf
          refine lv_istore (lv' := [(5, .int x13), (4, .int x10), (0, .ref (ad r0)), (1, .int a1), (2, .int a2), (3, .int a3)]) hx hb d_X12_paidBy_13 hl (by decide) rfl (fun ls hl => ?_)
          exact (ih).2 r0 a1 a2 a3 x10 x13 _ _ _ F (lv_sub hl [2, 3, 4, 5, 1, 0] rfl) hf
      · intro r0 a1 a2 a3 a4 a5 H locs ls F hl hf
        have hf : k_X12_paidBy_15 kap lam S (b_X12_paidBy_4 kap lam S n) (b_X12_paidBy_15 kap lam S n) r0 a1 a2 a3 a4 a5 = some r := hf
        unfold k_X12_paidBy_15 at hf
        refine lv_iload hx hb d_X12_paidBy_15 (lv_at hl 5 rfl) ?_
        refine lv_iload_n hx hb d_X12_paidBy_17 rfl (lv_at hl 3 rfl) ?_
        refine lv_icmp_ge (tgt := 56) hx hb d_X12_paidBy_18 (by decide) (fun c18 => ?_) (fun c18 => ?_)
        · have hf := fm_ip c18 hf
          refine lv_iload_n hx hb d_X12_paidBy_56 rfl (lv_at hl 2 rfl) ?_
          refine lv_aload_n hx hb d_X12_paidBy_57 rfl (lv_at hl 0 rfl) ?_
          refine fm_rgr Z G F hf fr_X12_31 d_X12_paidBy_58 (fun q58 _ hf => ?_)
          refine lv_iload_n hx hb d_X12_paidBy_61 rfl (lv_at hl 3 rfl) ?_
          refine fm_rld Z G F hf d_X12_paidBy_62 (fun x62 _ hf => ?_)
          refine lv_bipush (v := 9) hx hb d_X12_paidBy_63 (by decide) ?_
          refine lv_icmp_ne (tgt := 72) hx hb d_X12_paidBy_65 (by decide) (fun c65 => ?_) (fun c65 => ?_)
          · have hf := fm_ig c65 hf
            refine lv_aload_n hx hb d_X12_paidBy_72 rfl (lv_at hl 0 rfl) ?_
            refine fm_rgr Z G F hf fr_X12_28 d_X12_paidBy_73 (fun q73 _ hf => ?_)
            refine lv_bipush (v := 24) hx hb d_X12_paidBy_76 (by decide) ?_
            refine lv_aload_n hx hb d_X12_paidBy_78 rfl (lv_at hl 0 rfl) ?_
            refine fm_rgr Z G F hf fr_X12_31 d_X12_paidBy_79 (fun q79 _ hf => ?_)
            refine lv_iload_n hx hb d_X12_paidBy_82 rfl (lv_at hl 3 rfl) ?_
            refine fm_rld Z G F hf d_X12_paidBy_83 (fun x83 _ hf => ?_)
            refine lv_imul hx hb d_X12_paidBy_84 ?_
            refine lv_iconst (v := 3) hx hb d_X12_paidBy_85 (by decide) ?_
            refine lv_iload hx hb d_X12_paidBy_86 (lv_at hl 4 rfl) ?_
            refine lv_imul hx hb d_X12_paidBy_88 ?_
            refine lv_iadd hx hb d_X12_paidBy_89 ?_
            refine lv_iload_n hx hb d_X12_paidBy_90 rfl (lv_at hl 3 rfl) ?_
            refine lv_iadd hx hb d_X12_paidBy_91 ?_
            refine fm_rld Z G F hf d_X12_paidBy_92 (fun x92 _ hf => ?_)
            refine lv_iadd hx hb d_X12_paidBy_93 ?_
            refine lv_topi (fun x94 ex94 => ?_)
            have hf := fm_let_at ex94 hf
            refine lv_istore_n (lv' := [(2, .int x94), (0, .ref (ad r0)), (1, .int a1), (3, .int a3), (4, .int a4), (5, .int a5)]) hx hb d_X12_paidBy_94 rfl hl (by decide) rfl (fun ls hl => ?_)
            obtain ⟨x95, ex95⟩ : ∃ y : Int32, y = a3 + 1 := ⟨_, rfl⟩
            have hf := fm_let_at ex95 hf
            refine lv_iinc (v := x95) (lv' := [(3, .int x95), (2, .int x94), (0, .ref (ad r0)), (1, .int a1), (4, .int a4), (5, .int a5)]) hx hb d_X12_paidBy_95 hl (k := 3) rfl (by rw [ex95]; rfl) (by decide) rfl (fun ls hl => ?_)
            refine lv_goto (tgt := 4) hx hb d_X12_paidBy_98 (by decide) ?_
            exact (ih).1 r0 a1 x94 x95 _ _ _ F (lv_sub hl [2, 3, 1, 0] rfl) hf
          · have hf := fm_ip c65 hf
            refine lv_iconst (v := 0) hx hb d_X12_paidBy_68 (by decide) ?_
            refine lv_goto (tgt := 93) hx hb d_X12_paidBy_69 (by decide) ?_
            refine lv_iadd hx hb d_X12_paidBy_93 ?_
            refine lv_topi (fun x94 ex94 => ?_)
            have hf := fm_let_at ex94 hf
            refine lv_istore_n (lv' := [(2, .int x94), (0, .ref (ad r0)), (1, .int a1), (3, .int a3), (4, .int a4), (5, .int a5)]) hx hb d_X12_paidBy_94 rfl hl (by decide) rfl (fun ls hl => ?_)
            obtain ⟨x95, ex95⟩ : ∃ y : Int32, y = a3 + 1 := ⟨_, rfl⟩
            have hf := fm_let_at ex95 hf
            refine lv_iinc (v := x95) (lv' := [(3, .int x95), (2, .int x94), (0, .ref (ad r0)), (1, .int a1), (4, .int a4), (5, .int a5)]) hx hb d_X12_paidBy_95 hl (k := 3) rfl (by rw [ex95]; rfl) (by decide) rfl (fun ls hl => ?_)
            refine lv_goto (tgt := 4) hx hb d_X12_paidBy_98 (by decide) ?_
            exact (ih).1 r0 a1 x94 x95 _ _ _ F (lv_sub hl [2, 3, 1, 0] rfl) hf
        · have hf := fm_ig c18 hf
          refine lv_iload hx hb d_X12_paidBy_21 (lv_at hl 4 rfl) ?_
          refine lv_aload_n hx hb d_X12_paidBy_23 rfl (lv_at hl 0 rfl) ?_
          refine fm_rgr Z G F hf fr_X12_31 d_X12_paidBy_24 (fun q24 _ hf => ?_)
          refine lv_iload hx hb d_X12_paidBy_27 (lv_at hl 5 rfl) ?_
          refine fm_rld Z G F hf d_X12_paidBy_29 (fun x29 _ hf => ?_)
          refine lv_aload_n hx hb d_X12_paidBy_30 rfl (lv_at hl 0 rfl) ?_
          refine fm_rgr Z G F hf fr_X12_31 d_X12_paidBy_31 (fun q31 _ hf => ?_)
          refine lv_iload_n hx hb d_X12_paidBy_34 rfl (lv_at hl 3 rfl) ?_
          refine fm_rld Z G F hf d_X12_paidBy_35 (fun x35 _ hf => ?_)
          refine lv_icmp_ne (tgt := 46) hx hb d_X12_paidBy_36 (by decide) (fun c36 => ?_) (fun c36 => ?_)
          · have hf := fm_ig c36 hf
            refine lv_iconst (v := 0) hx hb d_X12_paidBy_46 (by decide) ?_
            refine lv_ior hx hb d_X12_paidBy_47 ?_
            refine lv_topi (fun x48 ex48 => ?_)
            have hf := fm_let_at ex48 hf
            refine lv_istore (lv' := [(4, .int x48), (0, .ref (ad r0)), (1, .int a1), (2, .int a2), (3, .int a3), (5, .int a5)]) hx hb d_X12_paidBy_48 hl (by decide) rfl (fun ls hl => ?_)
            obtain ⟨x50, ex50⟩ : ∃ y : Int32, y = a5 + 1 := ⟨_, rfl⟩
            have hf := fm_let_at ex50 hf
            refine lv_iinc (v := x50) (lv' := [(5, .int x50), (4, .int x48), (0, .ref (ad r0)), (1, .int a1), (2, .int a2), (3, .int a3)]) hx hb d_X12_paidBy_50 hl (k := 5) rfl (by rw [ex50]; rfl) (by decide) rfl (fun ls hl => ?_)
            refine lv_goto (tgt := 15) hx hb d_X12_paidBy_53 (by decide) ?_
            exact (ih).2 r0 a1 a2 a3 x48 x50 _ _ _ F (lv_sub hl [2, 3, 4, 5, 1, 0] rfl) hf
          · have hf := fm_ip c36 hf
            refine lv_iconst (v := 1) hx hb d_X12_paidBy_39 (by decide) ?_
            refine lv_iload hx hb d_X12_paidBy_40 (lv_at hl 5 rfl) ?_
            refine lv_ishl hx hb d_X12_paidBy_42 ?_
            refine lv_goto (tgt := 47) hx hb d_X12_paidBy_43 (by decide) ?_
            refine lv_ior hx hb d_X12_paidBy_47 ?_
            refine lv_topi (fun x48 ex48 => ?_)
            have hf := fm_let_at ex48 hf
            refine lv_istore (lv' := [(4, .int x48), (0, .ref (ad r0)), (1, .int a1), (2, .int a2), (3, .int a3), (5, .int a5)]) hx hb d_X12_paidBy_48 hl (by decide) rfl (fun ls hl => ?_)
            obtain ⟨x50, ex50⟩ : ∃ y : Int32, y = a5 + 1 := ⟨_, rfl⟩
            have hf := fm_let_at ex50 hf
            refine lv_iinc (v := x50) (lv' := [(5, .int x50), (4, .int x48), (0, .ref (ad r0)), (1, .int a1), (2, .int a2), (3, .int a3)]) hx hb d_X12_paidBy_50 hl (k := 5) rfl (by rw [ex50]; rfl) (by decide) rfl (fun ls hl => ?_)
            refine lv_goto (tgt := 15) hx hb d_X12_paidBy_53 (by decide) ?_
            exact (ih).2 r0 a1 a2 a3 x48 x50 _ _ _ F (lv_sub hl [2, 3, 4, 5, 1, 0] rfl) hf
  unfold m_X12_paidBy at hf
  refine lv_iconst (v := 0) hx hb d_X12_paidBy_0 (by decide) ?_
  refine lv_topi (fun x1 ex1 => ?_)
  have hf := fm_let_at ex1 hf
  refine lv_istore_n (lv' := [(2, .int x1), (0, .ref (ad r0)), (1, .int a1)]) hx hb d_X12_paidBy_1 rfl hl (by decide) rfl (fun ls hl => ?_)
  refine lv_iconst (v := 0) hx hb d_X12_paidBy_2 (by decide) ?_
  refine lv_topi (fun x3 ex3 => ?_)
  have hf := fm_let_at ex3 hf
  refine lv_istore_n (lv' := [(3, .int x3), (2, .int x1), (0, .ref (ad r0)), (1, .int a1)]) hx hb d_X12_paidBy_3 rfl hl (by decide) rfl (fun ls hl => ?_)
  exact (hL fm_LF).1 r0 a1 x1 x3 _ _ _ F (lv_sub hl [2, 3, 1, 0] rfl) hf
theorem d_X12_keepsLine_0 : decode prog_14_method_53_code 0 = .ok (.aload_n 0, 1) := by decide +kernel
theorem d_X12_keepsLine_1 : decode prog_14_method_53_code 1 = .ok (.iload_n 1, 1) := by decide +kernel
theorem d_X12_keepsLine_2 : decode prog_14_method_53_code 2 = .ok (.invokevirtual 190, 3) := by decide +kernel
theorem d_X12_keepsLine_5 : decode prog_14_method_53_code 5 = .ok (.istore_n 2, 1) := by decide +kernel
theorem d_X12_keepsLine_6 : decode prog_14_method_53_code 6 = .ok (.iload_n 2, 1) := by decide +kernel
theorem d_X12_keepsLine_7 : decode prog_14_method_53_code 7 = .ok (.aload_n 0, 1) := by decide +kernel
theorem d_X12_keepsLine_8 : decode prog_14_method_53_code 8 = .ok (.getfield 193, 3) := by decide +kernel
theorem d_X12_keepsLine_11 : decode prog_14_method_53_code 11 = .ok (.if_icmp .le 33, 3) := by decide +kernel
theorem d_X12_keepsLine_14 : decode prog_14_method_53_code 14 = .ok (.aload_n 0, 1) := by decide +kernel
theorem d_X12_keepsLine_15 : decode prog_14_method_53_code 15 = .ok (.iload_n 2, 1) := by decide +kernel
theorem d_X12_keepsLine_16 : decode prog_14_method_53_code 16 = .ok (.putfield 193, 3) := by decide +kernel
theorem d_X12_keepsLine_19 : decode prog_14_method_53_code 19 = .ok (.iconst 0, 1) := by decide +kernel
theorem d_X12_keepsLine_20 : decode prog_14_method_53_code 20 = .ok (.istore_n 3, 1) := by decide +kernel
theorem d_X12_keepsLine_21 : decode prog_14_method_53_code 21 = .ok (.iload_n 3, 1) := by decide +kernel
theorem d_X12_keepsLine_22 : decode prog_14_method_53_code 22 = .ok (.iconst 3, 1) := by decide +kernel
theorem d_X12_keepsLine_23 : decode prog_14_method_53_code 23 = .ok (.if_icmp .ge 21, 3) := by decide +kernel
theorem d_X12_keepsLine_26 : decode prog_14_method_53_code 26 = .ok (.aload_n 0, 1) := by decide +kernel
theorem d_X12_keepsLine_27 : decode prog_14_method_53_code 27 = .ok (.getfield 34, 3) := by decide +kernel
theorem d_X12_keepsLine_30 : decode prog_14_method_53_code 30 = .ok (.iload_n 3, 1) := by decide +kernel
theorem d_X12_keepsLine_31 : decode prog_14_method_53_code 31 = .ok (.aload_n 0, 1) := by decide +kernel
theorem d_X12_keepsLine_32 : decode prog_14_method_53_code 32 = .ok (.getfield 31, 3) := by decide +kernel
theorem d_X12_keepsLine_35 : decode prog_14_method_53_code 35 = .ok (.iload_n 3, 1) := by decide +kernel
theorem d_X12_keepsLine_36 : decode prog_14_method_53_code 36 = .ok (.iaload, 1) := by decide +kernel
theorem d_X12_keepsLine_37 : decode prog_14_method_53_code 37 = .ok (.iastore, 1) := by decide +kernel
theorem d_X12_keepsLine_38 : decode prog_14_method_53_code 38 = .ok (.iinc 3 1, 3) := by decide +kernel
theorem d_X12_keepsLine_41 : decode prog_14_method_53_code 41 = .ok (.goto (-20), 3) := by decide +kernel
theorem d_X12_keepsLine_44 : decode prog_14_method_53_code 44 = .ok (.return_, 1) := by decide +kernel
def k_X12_keepsLine_21 (kap lam : Nat → Nat) (go21 : Nat → Int32 → fm_M → Option fm_M) (r0 : Nat) (a3 : Int32)  (S : fm_M) : Option fm_M :=
  if 3 ≤ a3 then (
   some S
  ) else (
   fm_gr kap 12 r0 14 S fun q27 =>
   fm_gr kap 12 r0 13 S fun q32 =>
   fm_ld kap lam 13 q32 a3 S fun x36 =>
   fm_st kap lam q27 a3 x36 S fun S37 =>
   fm_let (a3 + 1 : Int32) fun x38 =>
   go21 r0 x38 S37
  )
def b_X12_keepsLine_21 (kap lam : Nat → Nat) : Nat → Nat → Int32 → fm_M → Option fm_M
  | 0 => fun _ _ _ => none
  | n + 1 => k_X12_keepsLine_21 kap lam (b_X12_keepsLine_21 kap lam n)
def m_X12_keepsLine (kap lam : Nat → Nat) (r0 : Nat) (a1 : Int32) (S : fm_M) : Option fm_M :=
  fm_ck (kap r0 == 12) <|
  fm_b1 (m_X12_paidBy kap lam r0 a1 S) fun x2 =>
  fm_gi kap 12 r0 15 S fun x8 =>
  if x2 ≤ x8 then (
   some S
  ) else (
   fm_pi kap 12 r0 15 S x2 fun S16 =>
   fm_let (0 : Int32) fun x20 =>
   b_X12_keepsLine_21 kap lam fm_LF r0 x20 S16
  )
set_option maxHeartbeats 4000000 in
set_option maxRecDepth 100000 in
theorem c_X12_keepsLine {l : Launch} {D : va_G} {ids kap lam : Nat → Nat} {RL : List Nat} {ad sk sv : Nat → Nat} {S : fm_M} {r0 : Nat} {a1 : Int32} {u : fm_M} (hE : fm_E kap RL ad) (hf : m_X12_keepsLine kap lam r0 a1 S = some u) (sz : Nat) : fm_MV l y_X12_keepsLine prog_14_method_53_code 4 (Option.none : Option Jvm.ClassFile.FieldType) 1 D ids kap lam RL ad sk sv S [.ref (ad r0), .int a1] sz u := by
  refine fm_open rfl hE (Nat.le_of_ble_eq_true rfl) (fun p e s m args below meth c ls Z hr hlk G F N hl hsz => ?_)
  subst hsz
  obtain ⟨hx, hb, hml, hown, hts⟩ := id Z
  have hl : lv_has ls 4 [(0, .ref (ad r0)), (1, .int a1)] := hl
  generalize hQ : MQ below _ args s 0 0 (fm_A RL ad s.heap.size) = Qf
  have hL : ∀ n : Nat, (∀ (r0 : Nat) (a3 : Int32)  (S : fm_M) (H : Heap) (locs : List Loc) (ls : Array Slot), fm_F D ids kap lam RL ad S (fm_A RL ad s.heap.size) s.heap H locs → lv_has ls 4 [(0, .ref (ad r0)), (3, .int a3)] → b_X12_keepsLine_21 kap lam n r0 a3 S = some u → W p l e (fm_rm 1) s m args below meth c H locs 0 0 Qf (F0 m 21 ls [])) := by
    intro n
    induction n with
    | zero => exact fun _ _ _ _ _ _ _ _ hf => absurd hf (by intro h; cases h)
    | succ n ih =>
      intro r0 a3 S H locs ls F hl hf
      have hf : k_X12_keepsLine_21 kap lam (b_X12_keepsLine_21 kap lam n) r0 a3 S = some u := hf
      unfold k_X12_keepsLine_21 at hf
      refine lv_iload_n hx hb d_X12_keepsLine_21 rfl (lv_at hl 1 rfl) ?_
      refine lv_iconst (v := 3) hx hb d_X12_keepsLine_22 (by decide) ?_
      refine lv_icmp_ge (tgt := 44) hx hb d_X12_keepsLine_23 (by decide) (fun c23 => ?_) (fun c23 => ?_)
      · have hf := fm_ip c23 hf
        rw [← hQ]; exact fm_retv Z hr hlk F d_X12_keepsLine_44 (Option.some.inj hf)
      · have hf := fm_ig c23 hf
        refine lv_aload_n hx hb d_X12_keepsLine_26 rfl (lv_at hl 0 rfl) ?_
        refine fm_rgr Z G F hf fr_X12_34 d_X12_keepsLine_27 (fun q27 _ hf => ?_)
        refine lv_iload_n hx hb d_X12_keepsLine_30 rfl (lv_at hl 1 rfl) ?_
        refine lv_aload_n hx hb d_X12_keepsLine_31 rfl (lv_at hl 0 rfl) ?_
        refine fm_rgr Z G F hf fr_X12_31 d_X12_keepsLine_32 (fun q32 _ hf => ?_)
        refine lv_iload_n hx hb d_X12_keepsLine_35 rfl (lv_at hl 1 rfl) ?_
        refine fm_rld Z G F hf d_X12_keepsLine_36 (fun x36 _ hf => ?_)
        refine fm_rst Z G F hf d_X12_keepsLine_37 (fun S37 H locs _ F hf => ?_)
        obtain ⟨x38, ex38⟩ : ∃ y : Int32, y = a3 + 1 := ⟨_, rfl⟩
        have hf := fm_let_at ex38 hf
        refine lv_iinc (v := x38) (lv' := [(3, .int x38), (0, .ref (ad r0))]) hx hb d_X12_keepsLine_38 hl (k := 1) rfl (by rw [ex38]; rfl) (by decide) rfl (fun ls hl => ?_)
        refine lv_goto (tgt := 21) hx hb d_X12_keepsLine_41 (by decide) ?_
        exact ih r0 x38 S37 _ _ _ F (lv_sub hl [1, 0] rfl) hf
  unfold m_X12_keepsLine at hf
  refine lv_aload_n hx hb d_X12_keepsLine_0 rfl (lv_at hl 0 rfl) ?_
  refine lv_iload_n hx hb d_X12_keepsLine_1 rfl (lv_at hl 1 rfl) ?_
  obtain ⟨hk2, hf⟩ := fm_some hf
  refine fm_rcr G F hf (fun r ho => fm_runV (k := 1) Z G F N (As := [.int a1]) (rest := []) (c_X12_paidBy hE ho _) (by rw [eq_of_beq hk2]; decide) (by rw [eq_of_beq hk2]; rfl) kw_1216 kw_1218 kp_58 kw_6 kw_1219 yd_X12_paidBy rfl (by decide) (by decide) hl.1 (Nat.le_of_ble_eq_true rfl) d_X12_keepsLine_2 (Nat.le_refl 0) (Nat.le_refl 0)) (fun x2 H locs _ F hf => ?_)
  refine lv_istore_n (lv' := [(2, .int x2), (0, .ref (ad r0)), (1, .int a1)]) hx hb d_X12_keepsLine_5 rfl hl (by decide) rfl (fun ls hl => ?_)
  refine lv_iload_n hx hb d_X12_keepsLine_6 rfl (lv_at hl 0 rfl) ?_
  refine lv_aload_n hx hb d_X12_keepsLine_7 rfl (lv_at hl 1 rfl) ?_
  refine fm_rgi Z G F hf fr_X12_193 d_X12_keepsLine_8 (fun x8 _ hf => ?_)
  refine lv_icmp_le (tgt := 44) hx hb d_X12_keepsLine_11 (by decide) (fun c11 => ?_) (fun c11 => ?_)
  · have hf := fm_ip c11 hf
    rw [← hQ]; exact fm_retv Z hr hlk F d_X12_keepsLine_44 (Option.some.inj hf)
  · have hf := fm_ig c11 hf
    refine lv_aload_n hx hb d_X12_keepsLine_14 rfl (lv_at hl 1 rfl) ?_
    refine lv_iload_n hx hb d_X12_keepsLine_15 rfl (lv_at hl 0 rfl) ?_
    refine fm_rpi Z G F hf fs_X12_193 d_X12_keepsLine_16 (fun c h => by have h := eq_of_beq (show (c == 12) = true from h); subst h; rfl) (fun S16 H locs _ F hf => ?_)
    refine lv_iconst (v := 0) hx hb d_X12_keepsLine_19 (by decide) ?_
    refine lv_topi (fun x20 ex20 => ?_)
    have hf := fm_let_at ex20 hf
    refine lv_istore_n (lv' := [(3, .int x20), (2, .int x2), (0, .ref (ad r0)), (1, .int a1)]) hx hb d_X12_keepsLine_20 rfl hl (by decide) rfl (fun ls hl => ?_)
    exact (hL fm_LF) r0 x20 S16 _ _ _ F (lv_sub hl [2, 0] rfl) hf
