/-! models and contracts (tool/gen.py prints them) -/
theorem d_X11_isPane_0 : decode prog_1_method_36_code 0 = .ok (.iload_n 1, 1) := by decide +kernel
theorem d_X11_isPane_1 : decode prog_1_method_36_code 1 = .ok (.aload_n 0, 1) := by decide +kernel
theorem d_X11_isPane_2 : decode prog_1_method_36_code 2 = .ok (.getfield 23, 3) := by decide +kernel
theorem d_X11_isPane_5 : decode prog_1_method_36_code 5 = .ok (.iconst 1, 1) := by decide +kernel
theorem d_X11_isPane_6 : decode prog_1_method_36_code 6 = .ok (.isub, 1) := by decide +kernel
theorem d_X11_isPane_7 : decode prog_1_method_36_code 7 = .ok (.invokestatic 85, 3) := by decide +kernel
theorem d_X11_isPane_10 : decode prog_1_method_36_code 10 = .ok (.ireturn, 1) := by decide +kernel
def m_X11_isPane (kap lam : Nat → Nat) (r0 : Nat) (a1 : Int32) (S : fm_M) : Option Int32 :=
  fm_gi kap 11 r0 2 S fun x2 =>
  fm_b1 (m_X11_isWithin kap lam a1 (x2 - 1) S) fun x7 =>
  fm_z x7 (some x7)
set_option maxHeartbeats 4000000 in
set_option maxRecDepth 100000 in
theorem c_X11_isPane {l : Launch} {D : va_G} {ids kap lam : Nat → Nat} {RL : List Nat} {ad sk sv : Nat → Nat} {S : fm_M} {r0 : Nat} {a1 : Int32} {r : Int32} (hE : fm_E kap RL ad) (hf : m_X11_isPane kap lam r0 a1 S = some r) (sz : Nat) : fm_MI l y_X11_isPane prog_1_method_36_code 2 (Option.some Jvm.ClassFile.FieldType.boolean) 1 D ids kap lam RL ad sk sv S [.ref (ad r0), .int a1] sz r S := by
  refine fm_open rfl hE (Nat.le_of_ble_eq_true rfl) (fun p e s m args below meth c ls Z hr hlk G F N hl hsz => ?_)
  subst hsz
  obtain ⟨hx, hb, hml, hown, hts⟩ := id Z
  have hl : lv_has ls 2 [(0, .ref (ad r0)), (1, .int a1)] := hl
  unfold m_X11_isPane at hf
  refine lv_iload_n hx hb d_X11_isPane_0 rfl (lv_at hl 1 rfl) ?_
  refine lv_aload_n hx hb d_X11_isPane_1 rfl (lv_at hl 0 rfl) ?_
  refine fm_rgi Z G F hf fr_X11_23 d_X11_isPane_2 (fun x2 _ hf => ?_)
  refine lv_iconst (v := 1) hx hb d_X11_isPane_5 (by decide) ?_
  refine lv_isub hx hb d_X11_isPane_6 ?_
  refine fm_rcr G F hf (fun r ho => fm_runS (k := 2) Z G F N (As := [.int a1, .int (x2 - 1)]) (rest := []) (c_X11_isWithin hE ho _) kw_182 kw_183 kw_1 kw_184 yd_X11_isWithin rfl (by decide) (by decide) hl.1 (Nat.le_of_ble_eq_true rfl) d_X11_isPane_7 (Nat.le_refl 0) (Nat.le_refl 0)) (fun x7 H locs _ F hf => ?_)
  obtain ⟨hz, hf⟩ := fm_some hf
  exact fm_retz Z hr hlk F d_X11_isPane_10 hz (Option.some.inj hf) rfl
theorem d_X11_heldTown_0 : decode prog_1_method_37_code 0 = .ok (.aload_n 0, 1) := by decide +kernel
theorem d_X11_heldTown_1 : decode prog_1_method_37_code 1 = .ok (.getfield 38, 3) := by decide +kernel
theorem d_X11_heldTown_4 : decode prog_1_method_37_code 4 = .ok (.iconst 1, 1) := by decide +kernel
theorem d_X11_heldTown_5 : decode prog_1_method_37_code 5 = .ok (.isub, 1) := by decide +kernel
theorem d_X11_heldTown_6 : decode prog_1_method_37_code 6 = .ok (.iconst 4, 1) := by decide +kernel
theorem d_X11_heldTown_7 : decode prog_1_method_37_code 7 = .ok (.invokestatic 85, 3) := by decide +kernel
theorem d_X11_heldTown_10 : decode prog_1_method_37_code 10 = .ok (.ifCond .eq 17, 3) := by decide +kernel
theorem d_X11_heldTown_13 : decode prog_1_method_37_code 13 = .ok (.aload_n 0, 1) := by decide +kernel
theorem d_X11_heldTown_14 : decode prog_1_method_37_code 14 = .ok (.getfield 34, 3) := by decide +kernel
theorem d_X11_heldTown_17 : decode prog_1_method_37_code 17 = .ok (.aload_n 0, 1) := by decide +kernel
theorem d_X11_heldTown_18 : decode prog_1_method_37_code 18 = .ok (.getfield 38, 3) := by decide +kernel
theorem d_X11_heldTown_21 : decode prog_1_method_37_code 21 = .ok (.iconst 1, 1) := by decide +kernel
theorem d_X11_heldTown_22 : decode prog_1_method_37_code 22 = .ok (.isub, 1) := by decide +kernel
theorem d_X11_heldTown_23 : decode prog_1_method_37_code 23 = .ok (.aaload, 1) := by decide +kernel
theorem d_X11_heldTown_24 : decode prog_1_method_37_code 24 = .ok (.goto 7, 3) := by decide +kernel
theorem d_X11_heldTown_27 : decode prog_1_method_37_code 27 = .ok (.aload_n 0, 1) := by decide +kernel
theorem d_X11_heldTown_28 : decode prog_1_method_37_code 28 = .ok (.getfield 30, 3) := by decide +kernel
theorem d_X11_heldTown_31 : decode prog_1_method_37_code 31 = .ok (.areturn, 1) := by decide +kernel
def m_X11_heldTown (kap lam : Nat → Nat) (r0 : Nat) (S : fm_M) : Option Nat :=
  fm_gi kap 11 r0 5 S fun x1 =>
  fm_b1 (m_X11_isWithin kap lam (x1 - 1) 4 S) fun x7 =>
  if x7 = 0 then (
   fm_gr kap 11 r0 3 S fun q28 =>
   some q28
  ) else (
   fm_gr kap 11 r0 4 S fun q14 =>
   fm_gi kap 11 r0 5 S fun x18 =>
   fm_lr kap lam 17 q14 (x18 - 1) S fun q23 =>
   some q23
  )
set_option maxHeartbeats 4000000 in
set_option maxRecDepth 100000 in
theorem c_X11_heldTown {l : Launch} {D : va_G} {ids kap lam : Nat → Nat} {RL : List Nat} {ad sk sv : Nat → Nat} {S : fm_M} {r0 : Nat} {r : Nat} (hE : fm_E kap RL ad) (hf : m_X11_heldTown kap lam r0 S = some r) (sz : Nat) : fm_MR l y_X11_heldTown prog_1_method_37_code 1 (Option.some (Jvm.ClassFile.FieldType.object "FrostBids$Town")) 1 D ids kap lam RL ad sk sv S [.ref (ad r0)] sz r S := by
  refine fm_open rfl hE (Nat.le_of_ble_eq_true rfl) (fun p e s m args below meth c ls Z hr hlk G F N hl hsz => ?_)
  subst hsz
  obtain ⟨hx, hb, hml, hown, hts⟩ := id Z
  have hl : lv_has ls 1 [(0, .ref (ad r0))] := hl
  unfold m_X11_heldTown at hf
  refine lv_aload_n hx hb d_X11_heldTown_0 rfl (lv_at hl 0 rfl) ?_
  refine fm_rgi Z G F hf fr_X11_38 d_X11_heldTown_1 (fun x1 _ hf => ?_)
  refine lv_iconst (v := 1) hx hb d_X11_heldTown_4 (by decide) ?_
  refine lv_isub hx hb d_X11_heldTown_5 ?_
  refine lv_iconst (v := 4) hx hb d_X11_heldTown_6 (by decide) ?_
  refine fm_rcr G F hf (fun r ho => fm_runS (k := 2) Z G F N (As := [.int (x1 - 1), .int 4]) (rest := []) (c_X11_isWithin hE ho _) kw_182 kw_183 kw_1 kw_184 yd_X11_isWithin rfl (by decide) (by decide) hl.1 (Nat.le_of_ble_eq_true rfl) d_X11_heldTown_7 (Nat.le_refl 0) (Nat.le_refl 0)) (fun x7 H locs _ F hf => ?_)
  refine lv_if_eq (tgt := 27) hx hb d_X11_heldTown_10 (by decide) (fun c10 => ?_) (fun c10 => ?_)
  · have hf := fm_ip c10 hf
    refine lv_aload_n hx hb d_X11_heldTown_27 rfl (lv_at hl 0 rfl) ?_
    refine fm_rgr Z G F hf fr_X11_30 d_X11_heldTown_28 (fun q28 _ hf => ?_)
    exact fm_retq Z hr (Or.inl ⟨_, rfl⟩) hlk F d_X11_heldTown_31 (Option.some.inj hf) rfl
  · have hf := fm_ig c10 hf
    refine lv_aload_n hx hb d_X11_heldTown_13 rfl (lv_at hl 0 rfl) ?_
    refine fm_rgr Z G F hf fr_X11_34 d_X11_heldTown_14 (fun q14 _ hf => ?_)
    refine lv_aload_n hx hb d_X11_heldTown_17 rfl (lv_at hl 0 rfl) ?_
    refine fm_rgi Z G F hf fr_X11_38 d_X11_heldTown_18 (fun x18 _ hf => ?_)
    refine lv_iconst (v := 1) hx hb d_X11_heldTown_21 (by decide) ?_
    refine lv_isub hx hb d_X11_heldTown_22 ?_
    refine fm_rlr Z G F (by decide) (by decide) hf d_X11_heldTown_23 (fun q23 _ hf => ?_)
    refine lv_goto (tgt := 31) hx hb d_X11_heldTown_24 (by decide) ?_
    exact fm_retq Z hr (Or.inl ⟨_, rfl⟩) hlk F d_X11_heldTown_31 (Option.some.inj hf) rfl
theorem d_X11_isTakenFor_0 : decode prog_1_method_39_code 0 = .ok (.iload_n 1, 1) := by decide +kernel
theorem d_X11_isTakenFor_1 : decode prog_1_method_39_code 1 = .ok (.tableswitch 66 0 5 #[39, 41, 46, 51, 56, 61], 39) := by decide +kernel
theorem d_X11_isTakenFor_40 : decode prog_1_method_39_code 40 = .ok (.iconst 1, 1) := by decide +kernel
theorem d_X11_isTakenFor_41 : decode prog_1_method_39_code 41 = .ok (.ireturn, 1) := by decide +kernel
theorem d_X11_isTakenFor_42 : decode prog_1_method_39_code 42 = .ok (.aload_n 0, 1) := by decide +kernel
theorem d_X11_isTakenFor_43 : decode prog_1_method_39_code 43 = .ok (.instanceof 242, 3) := by decide +kernel
theorem d_X11_isTakenFor_46 : decode prog_1_method_39_code 46 = .ok (.ireturn, 1) := by decide +kernel
theorem d_X11_isTakenFor_47 : decode prog_1_method_39_code 47 = .ok (.aload_n 0, 1) := by decide +kernel
theorem d_X11_isTakenFor_48 : decode prog_1_method_39_code 48 = .ok (.instanceof 247, 3) := by decide +kernel
theorem d_X11_isTakenFor_51 : decode prog_1_method_39_code 51 = .ok (.ireturn, 1) := by decide +kernel
theorem d_X11_isTakenFor_52 : decode prog_1_method_39_code 52 = .ok (.aload_n 0, 1) := by decide +kernel
theorem d_X11_isTakenFor_53 : decode prog_1_method_39_code 53 = .ok (.instanceof 250, 3) := by decide +kernel
theorem d_X11_isTakenFor_56 : decode prog_1_method_39_code 56 = .ok (.ireturn, 1) := by decide +kernel
theorem d_X11_isTakenFor_57 : decode prog_1_method_39_code 57 = .ok (.aload_n 0, 1) := by decide +kernel
theorem d_X11_isTakenFor_58 : decode prog_1_method_39_code 58 = .ok (.instanceof 253, 3) := by decide +kernel
theorem d_X11_isTakenFor_61 : decode prog_1_method_39_code 61 = .ok (.ireturn, 1) := by decide +kernel
theorem d_X11_isTakenFor_62 : decode prog_1_method_39_code 62 = .ok (.aload_n 0, 1) := by decide +kernel
theorem d_X11_isTakenFor_63 : decode prog_1_method_39_code 63 = .ok (.instanceof 256, 3) := by decide +kernel
theorem d_X11_isTakenFor_66 : decode prog_1_method_39_code 66 = .ok (.ireturn, 1) := by decide +kernel
theorem d_X11_isTakenFor_67 : decode prog_1_method_39_code 67 = .ok (.aload_n 0, 1) := by decide +kernel
theorem d_X11_isTakenFor_68 : decode prog_1_method_39_code 68 = .ok (.instanceof 151, 3) := by decide +kernel
theorem d_X11_isTakenFor_71 : decode prog_1_method_39_code 71 = .ok (.ireturn, 1) := by decide +kernel
def m_X11_isTakenFor (kap lam : Nat → Nat) (r0 : Nat) (a1 : Int32) (S : fm_M) : Option Int32 :=
  if a1 = 0 then (
   fm_z 1 (some 1)
  ) else (
   if a1 = 1 then (
    fm_ins kap 3 r0 fun x43 =>
    fm_z x43 (some x43)
   ) else (
    if a1 = 2 then (
     fm_ins kap 4 r0 fun x48 =>
     fm_z x48 (some x48)
    ) else (
     if a1 = 3 then (
      fm_ins kap 7 r0 fun x53 =>
      fm_z x53 (some x53)
     ) else (
      if a1 = 4 then (
       fm_ins kap 2 r0 fun x58 =>
       fm_z x58 (some x58)
      ) else (
       if a1 = 5 then (
        fm_ins kap 0 r0 fun x63 =>
        fm_z x63 (some x63)
       ) else (
        fm_ins kap 9 r0 fun x68 =>
        fm_z x68 (some x68)
       )
      )
     )
    )
   )
  )
set_option maxHeartbeats 4000000 in
set_option maxRecDepth 100000 in
theorem c_X11_isTakenFor {l : Launch} {D : va_G} {ids kap lam : Nat → Nat} {RL : List Nat} {ad sk sv : Nat → Nat} {S : fm_M} {r0 : Nat} {a1 : Int32} {r : Int32} (hE : fm_E kap RL ad) (hf : m_X11_isTakenFor kap lam r0 a1 S = some r) (sz : Nat) : fm_MI l y_X11_isTakenFor prog_1_method_39_code 2 (Option.some Jvm.ClassFile.FieldType.boolean) 0 D ids kap lam RL ad sk sv S [.ref (ad r0), .int a1] sz r S := by
  refine fm_open rfl hE (Nat.le_of_ble_eq_true rfl) (fun p e s m args below meth c ls Z hr hlk G F N hl hsz => ?_)
  subst hsz
  obtain ⟨hx, hb, hml, hown, hts⟩ := id Z
  have hl : lv_has ls 2 [(0, .ref (ad r0)), (1, .int a1)] := hl
  unfold m_X11_isTakenFor at hf
  refine lv_iload_n hx hb d_X11_isTakenFor_0 rfl (lv_at hl 1 rfl) ?_
  by_cases w1_0 : a1 = 0
  · have hf := fm_ip w1_0 hf
    refine lv_tableIn (off := 39) (tgt := 40) hx hb d_X11_isTakenFor_1 (by rw [w1_0]; decide) (by rw [w1_0]; decide) (by rw [w1_0]; rfl) (by decide) ?_
    refine lv_iconst (v := 1) hx hb d_X11_isTakenFor_40 (by decide) ?_
    obtain ⟨hz, hf⟩ := fm_some hf
    exact fm_retz Z hr hlk F d_X11_isTakenFor_41 hz (Option.some.inj hf) rfl
  have hf := fm_ig w1_0 hf
  by_cases w1_1 : a1 = 1
  · have hf := fm_ip w1_1 hf
    refine lv_tableIn (off := 41) (tgt := 42) hx hb d_X11_isTakenFor_1 (by rw [w1_1]; decide) (by rw [w1_1]; decide) (by rw [w1_1]; rfl) (by decide) ?_
    refine lv_aload_n hx hb d_X11_isTakenFor_42 rfl (lv_at hl 0 rfl) ?_
    refine fm_rins 3 _ fm_iy3 fm_ni3 Z G F N hf kw_328 d_X11_isTakenFor_43 (fun x43 _ hf => ?_)
    obtain ⟨hz, hf⟩ := fm_some hf
    exact fm_retz Z hr hlk F d_X11_isTakenFor_46 hz (Option.some.inj hf) rfl
  have hf := fm_ig w1_1 hf
  by_cases w1_2 : a1 = 2
  · have hf := fm_ip w1_2 hf
    refine lv_tableIn (off := 46) (tgt := 47) hx hb d_X11_isTakenFor_1 (by rw [w1_2]; decide) (by rw [w1_2]; decide) (by rw [w1_2]; rfl) (by decide) ?_
    refine lv_aload_n hx hb d_X11_isTakenFor_47 rfl (lv_at hl 0 rfl) ?_
    refine fm_rins 4 _ fm_iy4 fm_ni4 Z G F N hf kw_395 d_X11_isTakenFor_48 (fun x48 _ hf => ?_)
    obtain ⟨hz, hf⟩ := fm_some hf
    exact fm_retz Z hr hlk F d_X11_isTakenFor_51 hz (Option.some.inj hf) rfl
  have hf := fm_ig w1_2 hf
  by_cases w1_3 : a1 = 3
  · have hf := fm_ip w1_3 hf
    refine lv_tableIn (off := 51) (tgt := 52) hx hb d_X11_isTakenFor_1 (by rw [w1_3]; decide) (by rw [w1_3]; decide) (by rw [w1_3]; rfl) (by decide) ?_
    refine lv_aload_n hx hb d_X11_isTakenFor_52 rfl (lv_at hl 0 rfl) ?_
    refine fm_rins 7 _ fm_iy7 fm_ni7 Z G F N hf kw_412 d_X11_isTakenFor_53 (fun x53 _ hf => ?_)
    obtain ⟨hz, hf⟩ := fm_some hf
    exact fm_retz Z hr hlk F d_X11_isTakenFor_56 hz (Option.some.inj hf) rfl
  have hf := fm_ig w1_3 hf
  by_cases w1_4 : a1 = 4
  · have hf := fm_ip w1_4 hf
    refine lv_tableIn (off := 56) (tgt := 57) hx hb d_X11_isTakenFor_1 (by rw [w1_4]; decide) (by rw [w1_4]; decide) (by rw [w1_4]; rfl) (by decide) ?_
    refine lv_aload_n hx hb d_X11_isTakenFor_57 rfl (lv_at hl 0 rfl) ?_
    refine fm_rins 2 _ fm_iy2 fm_ni2 Z G F N hf kw_429 d_X11_isTakenFor_58 (fun x58 _ hf => ?_)
    obtain ⟨hz, hf⟩ := fm_some hf
    exact fm_retz Z hr hlk F d_X11_isTakenFor_61 hz (Option.some.inj hf) rfl
  have hf := fm_ig w1_4 hf
  by_cases w1_5 : a1 = 5
  · have hf := fm_ip w1_5 hf
    refine lv_tableIn (off := 61) (tgt := 62) hx hb d_X11_isTakenFor_1 (by rw [w1_5]; decide) (by rw [w1_5]; decide) (by rw [w1_5]; rfl) (by decide) ?_
    refine lv_aload_n hx hb d_X11_isTakenFor_62 rfl (lv_at hl 0 rfl) ?_
    refine fm_rins 0 _ fm_iy0 fm_ni0 Z G F N hf kw_446 d_X11_isTakenFor_63 (fun x63 _ hf => ?_)
    obtain ⟨hz, hf⟩ := fm_some hf
    exact fm_retz Z hr hlk F d_X11_isTakenFor_66 hz (Option.some.inj hf) rfl
  have hf := fm_ig w1_5 hf
  have z1_0 := lv_neT (a := 0) w1_0 (by decide)
  have z1_1 := lv_neT (a := 1) w1_1 (by decide)
  have z1_2 := lv_neT (a := 2) w1_2 (by decide)
  have z1_3 := lv_neT (a := 3) w1_3 (by decide)
  have z1_4 := lv_neT (a := 4) w1_4 (by decide)
  have z1_5 := lv_neT (a := 5) w1_5 (by decide)
  refine lv_tableOut (tgt := 67) hx hb d_X11_isTakenFor_1 (by omega) (by decide) ?_
  refine lv_aload_n hx hb d_X11_isTakenFor_67 rfl (lv_at hl 0 rfl) ?_
  refine fm_rins 9 _ fm_iy9 fm_ni9 Z G F N hf kw_463 d_X11_isTakenFor_68 (fun x68 _ hf => ?_)
  obtain ⟨hz, hf⟩ := fm_some hf
  exact fm_retz Z hr hlk F d_X11_isTakenFor_71 hz (Option.some.inj hf) rfl
theorem d_X11_shutPanes_0 : decode prog_1_method_40_code 0 = .ok (.iconst 0, 1) := by decide +kernel
theorem d_X11_shutPanes_1 : decode prog_1_method_40_code 1 = .ok (.istore_n 1, 1) := by decide +kernel
theorem d_X11_shutPanes_2 : decode prog_1_method_40_code 2 = .ok (.iconst 0, 1) := by decide +kernel
theorem d_X11_shutPanes_3 : decode prog_1_method_40_code 3 = .ok (.istore_n 2, 1) := by decide +kernel
theorem d_X11_shutPanes_4 : decode prog_1_method_40_code 4 = .ok (.iload_n 2, 1) := by decide +kernel
theorem d_X11_shutPanes_5 : decode prog_1_method_40_code 5 = .ok (.aload_n 0, 1) := by decide +kernel
theorem d_X11_shutPanes_6 : decode prog_1_method_40_code 6 = .ok (.getfield 23, 3) := by decide +kernel
theorem d_X11_shutPanes_9 : decode prog_1_method_40_code 9 = .ok (.if_icmp .ge 27, 3) := by decide +kernel
theorem d_X11_shutPanes_12 : decode prog_1_method_40_code 12 = .ok (.aload_n 0, 1) := by decide +kernel
theorem d_X11_shutPanes_13 : decode prog_1_method_40_code 13 = .ok (.getfield 13, 3) := by decide +kernel
theorem d_X11_shutPanes_16 : decode prog_1_method_40_code 16 = .ok (.iload_n 2, 1) := by decide +kernel
theorem d_X11_shutPanes_17 : decode prog_1_method_40_code 17 = .ok (.aaload, 1) := by decide +kernel
theorem d_X11_shutPanes_18 : decode prog_1_method_40_code 18 = .ok (.getfield 131, 3) := by decide +kernel
theorem d_X11_shutPanes_21 : decode prog_1_method_40_code 21 = .ok (.ifCond .eq 9, 3) := by decide +kernel
theorem d_X11_shutPanes_24 : decode prog_1_method_40_code 24 = .ok (.iload_n 1, 1) := by decide +kernel
theorem d_X11_shutPanes_25 : decode prog_1_method_40_code 25 = .ok (.iconst 1, 1) := by decide +kernel
theorem d_X11_shutPanes_26 : decode prog_1_method_40_code 26 = .ok (.iload_n 2, 1) := by decide +kernel
theorem d_X11_shutPanes_27 : decode prog_1_method_40_code 27 = .ok (.ishl, 1) := by decide +kernel
theorem d_X11_shutPanes_28 : decode prog_1_method_40_code 28 = .ok (.ior, 1) := by decide +kernel
theorem d_X11_shutPanes_29 : decode prog_1_method_40_code 29 = .ok (.istore_n 1, 1) := by decide +kernel
theorem d_X11_shutPanes_30 : decode prog_1_method_40_code 30 = .ok (.iinc 2 1, 3) := by decide +kernel
theorem d_X11_shutPanes_33 : decode prog_1_method_40_code 33 = .ok (.goto (-29), 3) := by decide +kernel
theorem d_X11_shutPanes_36 : decode prog_1_method_40_code 36 = .ok (.iload_n 1, 1) := by decide +kernel
theorem d_X11_shutPanes_37 : decode prog_1_method_40_code 37 = .ok (.ireturn, 1) := by decide +kernel
def k_X11_shutPanes_4 (kap lam : Nat → Nat) (S : fm_M) (go4 : Nat → Int32 → Int32 → Option Int32) (r0 : Nat) (a1 : Int32) (a2 : Int32)  : Option Int32 :=
  fm_gi kap 11 r0 2 S fun x6 =>
  if x6 ≤ a2 then (
   some a1
  ) else (
   fm_gr kap 11 r0 0 S fun q13 =>
   fm_lr kap lam 16 q13 a2 S fun q17 =>
   fm_gi kap 5 q17 5 S fun x18 =>
   if x18 = 0 then (
    fm_let (a2 + 1 : Int32) fun x30 =>
    go4 r0 a1 x30
   ) else (
    fm_let (a1 ||| ((1 : Int32) <<< (a2 &&& 31)) : Int32) fun x29 =>
    fm_let (a2 + 1 : Int32) fun x30 =>
    go4 r0 x29 x30
   )
  )
def b_X11_shutPanes_4 (kap lam : Nat → Nat) (S : fm_M) : Nat → Nat → Int32 → Int32 → Option Int32
  | 0 => fun _ _ _ => none
  | n + 1 => k_X11_shutPanes_4 kap lam S (b_X11_shutPanes_4 kap lam S n)
def m_X11_shutPanes (kap lam : Nat → Nat) (r0 : Nat) (S : fm_M) : Option Int32 :=
  fm_let (0 : Int32) fun x1 =>
  fm_let (0 : Int32) fun x3 =>
  b_X11_shutPanes_4 kap lam S fm_LF r0 x1 x3
set_option maxHeartbeats 4000000 in
set_option maxRecDepth 100000 in
theorem c_X11_shutPanes {l : Launch} {D : va_G} {ids kap lam : Nat → Nat} {RL : List Nat} {ad sk sv : Nat → Nat} {S : fm_M} {r0 : Nat} {r : Int32} (hE : fm_E kap RL ad) (hf : m_X11_shutPanes kap lam r0 S = some r) (sz : Nat) : fm_MI l y_X11_shutPanes prog_1_method_40_code 3 (Option.some Jvm.ClassFile.FieldType.int) 0 D ids kap lam RL ad sk sv S [.ref (ad r0)] sz r S := by
  refine fm_open rfl hE (Nat.le_of_ble_eq_true rfl) (fun p e s m args below meth c ls Z hr hlk G F N hl hsz => ?_)
  subst hsz
  obtain ⟨hx, hb, hml, hown, hts⟩ := id Z
  have hl : lv_has ls 3 [(0, .ref (ad r0))] := hl
  generalize hQ : MQ below _ args s 0 0 (fm_A RL ad s.heap.size) = Qf
  have hL : ∀ n : Nat, (∀ (r0 : Nat) (a1 : Int32) (a2 : Int32)  (H : Heap) (locs : List Loc) (ls : Array Slot), fm_F D ids kap lam RL ad S (fm_A RL ad s.heap.size) s.heap H locs → lv_has ls 3 [(0, .ref (ad r0)), (1, .int a1), (2, .int a2)] → b_X11_shutPanes_4 kap lam S n r0 a1 a2 = some r → W p l e (fm_rm 0) s m args below meth c H locs 0 0 Qf (F0 m 4 ls [])) := by
    intro n
    induction n with
    | zero => exact fun _ _ _ _ _ _ _ _ hf => absurd hf (by intro h; cases h)
    | succ n ih =>
      intro r0 a1 a2 H locs ls F hl hf
      have hf : k_X11_shutPanes_4 kap lam S (b_X11_shutPanes_4 kap lam S n) r0 a1 a2 = some r := hf
      unfold k_X11_shutPanes_4 at hf
      refine lv_iload_n hx hb d_X11_shutPanes_4 rfl (lv_at hl 2 rfl) ?_
      refine lv_aload_n hx hb d_X11_shutPanes_5 rfl (lv_at hl 0 rfl) ?_
      refine fm_rgi Z G F hf fr_X11_23 d_X11_shutPanes_6 (fun x6 _ hf => ?_)
      refine lv_icmp_ge (tgt := 36) hx hb d_X11_shutPanes_9 (by decide) (fun c9 => ?_) (fun c9 => ?_)
      · have hf := fm_ip c9 hf
        refine lv_iload_n hx hb d_X11_shutPanes_36 rfl (lv_at hl 1 rfl) ?_
        rw [← hQ]; exact fm_reti Z hr hlk F d_X11_shutPanes_37 (Option.some.inj hf) rfl
      · have hf := fm_ig c9 hf
        refine lv_aload_n hx hb d_X11_shutPanes_12 rfl (lv_at hl 0 rfl) ?_
        refine fm_rgr Z G F hf fr_X11_13 d_X11_shutPanes_13 (fun q13 _ hf => ?_)
        refine lv_iload_n hx hb d_X11_shutPanes_16 rfl (lv_at hl 2 rfl) ?_
        refine fm_rlr Z G F (by decide) (by decide) hf d_X11_shutPanes_17 (fun q17 _ hf => ?_)
        refine fm_rgi Z G F hf fr_X11_131 d_X11_shutPanes_18 (fun x18 _ hf => ?_)
        refine lv_if_eq (tgt := 30) hx hb d_X11_shutPanes_21 (by decide) (fun c21 => ?_) (fun c21 => ?_)
        · have hf := fm_ip c21 hf
          obtain ⟨x30, ex30⟩ : ∃ y : Int32, y = a2 + 1 := ⟨_, rfl⟩
          have hf := fm_let_at ex30 hf
          refine lv_iinc (v := x30) (lv' := [(2, .int x30), (0, .ref (ad r0)), (1, .int a1)]) hx hb d_X11_shutPanes_30 hl (k := 2) rfl (by rw [ex30]; rfl) (by decide) rfl (fun ls hl => ?_)
          refine lv_goto (tgt := 4) hx hb d_X11_shutPanes_33 (by decide) ?_
          exact ih r0 a1 x30 _ _ _ F (lv_sub hl [1, 2, 0] rfl) hf
        · have hf := fm_ig c21 hf
          refine lv_iload_n hx hb d_X11_shutPanes_24 rfl (lv_at hl 1 rfl) ?_
          refine lv_iconst (v := 1) hx hb d_X11_shutPanes_25 (by decide) ?_
          refine lv_iload_n hx hb d_X11_shutPanes_26 rfl (lv_at hl 2 rfl) ?_
          refine lv_ishl hx hb d_X11_shutPanes_27 ?_
          refine lv_ior hx hb d_X11_shutPanes_28 ?_
          refine lv_topi (fun x29 ex29 => ?_)
          have hf := fm_let_at ex29 hf
          refine lv_istore_n (lv' := [(1, .int x29), (0, .ref (ad r0)), (2, .int a2)]) hx hb d_X11_shutPanes_29 rfl hl (by decide) rfl (fun ls hl => ?_)
          obtain ⟨x30, ex30⟩ : ∃ y : Int32, y = a2 + 1 := ⟨_, rfl⟩
          have hf := fm_let_at ex30 hf
          refine lv_iinc (v := x30) (lv' := [(2, .int x30), (1, .int x29), (0, .ref (ad r0))]) hx hb d_X11_shutPanes_30 hl (k := 2) rfl (by rw [ex30]; rfl) (by decide) rfl (fun ls hl => ?_)
          refine lv_goto (tgt := 4) hx hb d_X11_shutPanes_33 (by decide) ?_
          exact ih r0 x29 x30 _ _ _ F (lv_sub hl [2, 1, 0] rfl) hf
  unfold m_X11_shutPanes at hf
  refine lv_iconst (v := 0) hx hb d_X11_shutPanes_0 (by decide) ?_
  refine lv_topi (fun x1 ex1 => ?_)
  have hf := fm_let_at ex1 hf
  refine lv_istore_n (lv' := [(1, .int x1), (0, .ref (ad r0))]) hx hb d_X11_shutPanes_1 rfl hl (by decide) rfl (fun ls hl => ?_)
  refine lv_iconst (v := 0) hx hb d_X11_shutPanes_2 (by decide) ?_
  refine lv_topi (fun x3 ex3 => ?_)
  have hf := fm_let_at ex3 hf
  refine lv_istore_n (lv' := [(2, .int x3), (1, .int x1), (0, .ref (ad r0))]) hx hb d_X11_shutPanes_3 rfl hl (by decide) rfl (fun ls hl => ?_)
  exact (hL fm_LF) r0 x1 x3 _ _ _ F (lv_sub hl [2, 1, 0] rfl) hf
theorem d_X11_courseFromNow_0 : decode prog_1_method_41_code 0 = .ok (.aload_n 0, 1) := by decide +kernel
theorem d_X11_courseFromNow_1 : decode prog_1_method_41_code 1 = .ok (.getfield 19, 3) := by decide +kernel
theorem d_X11_courseFromNow_4 : decode prog_1_method_41_code 4 = .ok (.iload_n 1, 1) := by decide +kernel
theorem d_X11_courseFromNow_5 : decode prog_1_method_41_code 5 = .ok (.aaload, 1) := by decide +kernel
theorem d_X11_courseFromNow_6 : decode prog_1_method_41_code 6 = .ok (.astore_n 3, 1) := by decide +kernel
theorem d_X11_courseFromNow_7 : decode prog_1_method_41_code 7 = .ok (.aload_n 3, 1) := by decide +kernel
theorem d_X11_courseFromNow_8 : decode prog_1_method_41_code 8 = .ok (.aload_n 0, 1) := by decide +kernel
theorem d_X11_courseFromNow_9 : decode prog_1_method_41_code 9 = .ok (.invokevirtual 135, 3) := by decide +kernel
theorem d_X11_courseFromNow_12 : decode prog_1_method_41_code 12 = .ok (.iload_n 2, 1) := by decide +kernel
theorem d_X11_courseFromNow_13 : decode prog_1_method_41_code 13 = .ok (.aload_n 0, 1) := by decide +kernel
theorem d_X11_courseFromNow_14 : decode prog_1_method_41_code 14 = .ok (.getfield 63, 3) := by decide +kernel
theorem d_X11_courseFromNow_17 : decode prog_1_method_41_code 17 = .ok (.invokevirtual 261, 3) := by decide +kernel
theorem d_X11_courseFromNow_20 : decode prog_1_method_41_code 20 = .ok (.aload_n 3, 1) := by decide +kernel
theorem d_X11_courseFromNow_21 : decode prog_1_method_41_code 21 = .ok (.areturn, 1) := by decide +kernel
def m_X11_courseFromNow (kap lam : Nat → Nat) (r0 : Nat) (a1 : Int32) (a2 : Int32) (S : fm_M) : Option (Nat × fm_M) :=
  fm_gr kap 11 r0 1 S fun q1 =>
  fm_lr kap lam 15 q1 a1 S fun q5 =>
  fm_ck (kap r0 == 11) <|
  fm_b1 (m_X11_heldTown kap lam r0 S) fun q9 =>
  fm_gi kap 11 r0 10 S fun x14 =>
  fm_ck (kap q5 == 1) <|
  fm_b1 (m_X1_start kap lam q5 q9 a2 x14 S) fun S17 =>
  some (q5, S17)
set_option maxHeartbeats 4000000 in
set_option maxRecDepth 100000 in
theorem c_X11_courseFromNow {l : Launch} {D : va_G} {ids kap lam : Nat → Nat} {RL : List Nat} {ad sk sv : Nat → Nat} {S : fm_M} {r0 : Nat} {a1 : Int32} {a2 : Int32} {r : Nat} {u : fm_M} (hE : fm_E kap RL ad) (hf : m_X11_courseFromNow kap lam r0 a1 a2 S = some (r, u)) (sz : Nat) : fm_MR l y_X11_courseFromNow prog_1_method_41_code 4 (Option.some (Jvm.ClassFile.FieldType.object "FrostBids$Course")) 2 D ids kap lam RL ad sk sv S [.ref (ad r0), .int a1, .int a2] sz r u := by
  refine fm_open rfl hE (Nat.le_of_ble_eq_true rfl) (fun p e s m args below meth c ls Z hr hlk G F N hl hsz => ?_)
  subst hsz
  obtain ⟨hx, hb, hml, hown, hts⟩ := id Z
  have hl : lv_has ls 4 [(0, .ref (ad r0)), (1, .int a1), (2, .int a2)] := hl
  unfold m_X11_courseFromNow at hf
  refine lv_aload_n hx hb d_X11_courseFromNow_0 rfl (lv_at hl 0 rfl) ?_
  refine fm_rgr Z G F hf fr_X11_19 d_X11_courseFromNow_1 (fun q1 _ hf => ?_)
  refine lv_iload_n hx hb d_X11_courseFromNow_4 rfl (lv_at hl 1 rfl) ?_
  refine fm_rlr Z G F (by decide) (by decide) hf d_X11_courseFromNow_5 (fun q5 _ hf => ?_)
  refine lv_astore_n (lv' := [(3, .ref (ad q5)), (0, .ref (ad r0)), (1, .int a1), (2, .int a2)]) hx hb d_X11_courseFromNow_6 rfl hl (by decide) rfl (fun ls hl => ?_)
  refine lv_aload_n hx hb d_X11_courseFromNow_7 rfl (lv_at hl 0 rfl) ?_
  refine lv_aload_n hx hb d_X11_courseFromNow_8 rfl (lv_at hl 1 rfl) ?_
  obtain ⟨hk9, hf⟩ := fm_some hf
  refine fm_rcq G F hf (fun r ho => fm_runV (k := 0) Z G F N (As := []) (rest := [.ref (ad q5)]) (c_X11_heldTown hE ho _) (by rw [eq_of_beq hk9]; decide) (by rw [eq_of_beq hk9]; rfl) kw_550 kw_552 kp_10 kw_1 kw_553 yd_X11_heldTown rfl (by decide) (by decide) hl.1 (Nat.le_of_ble_eq_true rfl) d_X11_courseFromNow_9 (Nat.le_refl 0) (Nat.le_refl 0)) (fun q9 H locs _ F hf => ?_)
  refine lv_iload_n hx hb d_X11_courseFromNow_12 rfl (lv_at hl 3 rfl) ?_
  refine lv_aload_n hx hb d_X11_courseFromNow_13 rfl (lv_at hl 1 rfl) ?_
  refine fm_rgi Z G F hf fr_X11_63 d_X11_courseFromNow_14 (fun x14 _ hf => ?_)
  obtain ⟨hk17, hf⟩ := fm_some hf
  refine fm_rcv G F hf (fun u ho => fm_runV (k := 3) Z G F N (As := [.ref (ad q9), .int a2, .int x14]) (rest := []) (c_X1_start hE ho _) (by rw [eq_of_beq hk17]; decide) (by rw [eq_of_beq hk17]; rfl) kw_568 kw_569 kw_570 kw_18 kw_571 yd_X1_start rfl (by decide) (by decide) hl.1 (Nat.le_of_ble_eq_true rfl) d_X11_courseFromNow_17 (Nat.le_refl 0) (Nat.le_refl 0)) (fun S17 H locs _ F hf => ?_)
  refine lv_aload_n hx hb d_X11_courseFromNow_20 rfl (lv_at hl 0 rfl) ?_
  exact fm_retq Z hr (Or.inl ⟨_, rfl⟩) hlk F d_X11_courseFromNow_21 (Prod.mk.inj (Option.some.inj hf)).1 (Prod.mk.inj (Option.some.inj hf)).2
theorem d_X11_iceBehind_0 : decode prog_1_method_42_code 0 = .ok (.aload_n 0, 1) := by decide +kernel
theorem d_X11_iceBehind_1 : decode prog_1_method_42_code 1 = .ok (.iload_n 1, 1) := by decide +kernel
theorem d_X11_iceBehind_2 : decode prog_1_method_42_code 2 = .ok (.aload_n 0, 1) := by decide +kernel
theorem d_X11_iceBehind_3 : decode prog_1_method_42_code 3 = .ok (.getfield 57, 3) := by decide +kernel
theorem d_X11_iceBehind_6 : decode prog_1_method_42_code 6 = .ok (.invokevirtual 144, 3) := by decide +kernel
theorem d_X11_iceBehind_9 : decode prog_1_method_42_code 9 = .ok (.astore_n 3, 1) := by decide +kernel
theorem d_X11_iceBehind_10 : decode prog_1_method_42_code 10 = .ok (.aload_n 3, 1) := by decide +kernel
theorem d_X11_iceBehind_11 : decode prog_1_method_42_code 11 = .ok (.iload_n 2, 1) := by decide +kernel
theorem d_X11_iceBehind_12 : decode prog_1_method_42_code 12 = .ok (.invokevirtual 185, 3) := by decide +kernel
theorem d_X11_iceBehind_15 : decode prog_1_method_42_code 15 = .ok (.aload_n 3, 1) := by decide +kernel
theorem d_X11_iceBehind_16 : decode prog_1_method_42_code 16 = .ok (.getfield 188, 3) := by decide +kernel
theorem d_X11_iceBehind_19 : decode prog_1_method_42_code 19 = .ok (.ireturn, 1) := by decide +kernel
def m_X11_iceBehind (kap lam : Nat → Nat) (r0 : Nat) (a1 : Int32) (a2 : Int32) (S : fm_M) : Option (Int32 × fm_M) :=
  fm_gi kap 11 r0 8 S fun x3 =>
  fm_ck (kap r0 == 11) <|
  fm_bi (m_X11_courseFromNow kap lam r0 a1 x3 S) fun q6 S6 =>
  fm_ck (kap q6 == 1) <|
  fm_b1 (m_X1_goHours kap lam q6 a2 S6) fun S12 =>
  fm_gi kap 1 q6 6 S12 fun x16 =>
  some (x16, S12)
set_option maxHeartbeats 4000000 in
set_option maxRecDepth 100000 in
theorem c_X11_iceBehind {l : Launch} {D : va_G} {ids kap lam : Nat → Nat} {RL : List Nat} {ad sk sv : Nat → Nat} {S : fm_M} {r0 : Nat} {a1 : Int32} {a2 : Int32} {r : Int32} {u : fm_M} (hE : fm_E kap RL ad) (hf : m_X11_iceBehind kap lam r0 a1 a2 S = some (r, u)) (sz : Nat) : fm_MI l y_X11_iceBehind prog_1_method_42_code 4 (Option.some Jvm.ClassFile.FieldType.int) 6 D ids kap lam RL ad sk sv S [.ref (ad r0), .int a1, .int a2] sz r u := by
  refine fm_open rfl hE (Nat.le_of_ble_eq_true rfl) (fun p e s m args below meth c ls Z hr hlk G F N hl hsz => ?_)
  subst hsz
  obtain ⟨hx, hb, hml, hown, hts⟩ := id Z
  have hl : lv_has ls 4 [(0, .ref (ad r0)), (1, .int a1), (2, .int a2)] := hl
  unfold m_X11_iceBehind at hf
  refine lv_aload_n hx hb d_X11_iceBehind_0 rfl (lv_at hl 0 rfl) ?_
  refine lv_iload_n hx hb d_X11_iceBehind_1 rfl (lv_at hl 1 rfl) ?_
  refine lv_aload_n hx hb d_X11_iceBehind_2 rfl (lv_at hl 0 rfl) ?_
  refine fm_rgi Z G F hf fr_X11_57 d_X11_iceBehind_3 (fun x3 _ hf => ?_)
  obtain ⟨hk6, hf⟩ := fm_some hf
  refine fm_rcqq G F hf (fun r u ho => fm_runV (k := 2) Z G F N (As := [.int a1, .int x3]) (rest := []) (c_X11_courseFromNow hE ho _) (by rw [eq_of_beq hk6]; decide) (by rw [eq_of_beq hk6]; rfl) kw_564 kw_566 kp_11 kw_1 kw_567 yd_X11_courseFromNow rfl (by decide) (by decide) hl.1 (Nat.le_of_ble_eq_true rfl) d_X11_iceBehind_6 (Nat.le_refl 0) (Nat.le_refl 0)) (fun q6 S6 H locs _ F hf => ?_)
  refine lv_astore_n (lv' := [(3, .ref (ad q6)), (0, .ref (ad r0)), (1, .int a1), (2, .int a2)]) hx hb d_X11_iceBehind_9 rfl hl (by decide) rfl (fun ls hl => ?_)
  refine lv_aload_n hx hb d_X11_iceBehind_10 rfl (lv_at hl 0 rfl) ?_
  refine lv_iload_n hx hb d_X11_iceBehind_11 rfl (lv_at hl 3 rfl) ?_
  obtain ⟨hk12, hf⟩ := fm_some hf
  refine fm_rcv G F hf (fun u ho => fm_runV (k := 1) Z G F N (As := [.int a2]) (rest := []) (c_X1_goHours hE ho _) (by rw [eq_of_beq hk12]; decide) (by rw [eq_of_beq hk12]; rfl) kw_662 kw_663 kw_664 kw_18 kw_665 yd_X1_goHours rfl (by decide) (by decide) hl.1 (Nat.le_of_ble_eq_true rfl) d_X11_iceBehind_12 (Nat.le_refl 0) (Nat.le_refl 0)) (fun S12 H locs _ F hf => ?_)
  refine lv_aload_n hx hb d_X11_iceBehind_15 rfl (lv_at hl 0 rfl) ?_
  refine fm_rgi Z G F hf fr_X11_188 d_X11_iceBehind_16 (fun x16 _ hf => ?_)
  exact fm_reti Z hr hlk F d_X11_iceBehind_19 (Prod.mk.inj (Option.some.inj hf)).1 (Prod.mk.inj (Option.some.inj hf)).2
theorem d_X11_offersBehind_0 : decode prog_1_method_43_code 0 = .ok (.iconst 0, 1) := by decide +kernel
theorem d_X11_offersBehind_1 : decode prog_1_method_43_code 1 = .ok (.istore_n 2, 1) := by decide +kernel
theorem d_X11_offersBehind_2 : decode prog_1_method_43_code 2 = .ok (.iconst 0, 1) := by decide +kernel
theorem d_X11_offersBehind_3 : decode prog_1_method_43_code 3 = .ok (.istore_n 3, 1) := by decide +kernel
theorem d_X11_offersBehind_4 : decode prog_1_method_43_code 4 = .ok (.iload_n 3, 1) := by decide +kernel
theorem d_X11_offersBehind_5 : decode prog_1_method_43_code 5 = .ok (.aload_n 0, 1) := by decide +kernel
theorem d_X11_offersBehind_6 : decode prog_1_method_43_code 6 = .ok (.getfield 23, 3) := by decide +kernel
theorem d_X11_offersBehind_9 : decode prog_1_method_43_code 9 = .ok (.if_icmp .ge 34, 3) := by decide +kernel
theorem d_X11_offersBehind_12 : decode prog_1_method_43_code 12 = .ok (.aload_n 0, 1) := by decide +kernel
theorem d_X11_offersBehind_13 : decode prog_1_method_43_code 13 = .ok (.iload_n 3, 1) := by decide +kernel
theorem d_X11_offersBehind_14 : decode prog_1_method_43_code 14 = .ok (.aload_n 0, 1) := by decide +kernel
theorem d_X11_offersBehind_15 : decode prog_1_method_43_code 15 = .ok (.getfield 57, 3) := by decide +kernel
theorem d_X11_offersBehind_18 : decode prog_1_method_43_code 18 = .ok (.invokevirtual 144, 3) := by decide +kernel
theorem d_X11_offersBehind_21 : decode prog_1_method_43_code 21 = .ok (.astore 4, 2) := by decide +kernel
theorem d_X11_offersBehind_23 : decode prog_1_method_43_code 23 = .ok (.aload 4, 2) := by decide +kernel
theorem d_X11_offersBehind_25 : decode prog_1_method_43_code 25 = .ok (.iload_n 1, 1) := by decide +kernel
theorem d_X11_offersBehind_26 : decode prog_1_method_43_code 26 = .ok (.invokevirtual 185, 3) := by decide +kernel
theorem d_X11_offersBehind_29 : decode prog_1_method_43_code 29 = .ok (.iload_n 2, 1) := by decide +kernel
theorem d_X11_offersBehind_30 : decode prog_1_method_43_code 30 = .ok (.aload 4, 2) := by decide +kernel
theorem d_X11_offersBehind_32 : decode prog_1_method_43_code 32 = .ok (.invokevirtual 178, 3) := by decide +kernel
theorem d_X11_offersBehind_35 : decode prog_1_method_43_code 35 = .ok (.iadd, 1) := by decide +kernel
theorem d_X11_offersBehind_36 : decode prog_1_method_43_code 36 = .ok (.istore_n 2, 1) := by decide +kernel
theorem d_X11_offersBehind_37 : decode prog_1_method_43_code 37 = .ok (.iinc 3 1, 3) := by decide +kernel
theorem d_X11_offersBehind_40 : decode prog_1_method_43_code 40 = .ok (.goto (-36), 3) := by decide +kernel
theorem d_X11_offersBehind_43 : decode prog_1_method_43_code 43 = .ok (.iload_n 2, 1) := by decide +kernel
theorem d_X11_offersBehind_44 : decode prog_1_method_43_code 44 = .ok (.ireturn, 1) := by decide +kernel
def k_X11_offersBehind_4 (kap lam : Nat → Nat) (go4 : Nat → Int32 → Int32 → Int32 → fm_M → Option (Int32 × fm_M)) (r0 : Nat) (a1 : Int32) (a2 : Int32) (a3 : Int32)  (S : fm_M) : Option (Int32 × fm_M) :=
  fm_gi kap 11 r0 2 S fun x6 =>
  if x6 ≤ a3 then (
   some (a2, S)
  ) else (
   fm_gi kap 11 r0 8 S fun x15 =>
   fm_ck (kap r0 == 11) <|
   fm_bi (m_X11_courseFromNow kap lam r0 a3 x15 S) fun q18 S18 =>
   fm_ck (kap q18 == 1) <|
   fm_b1 (m_X1_goHours kap lam q18 a1 S18) fun S26 =>
   fm_ck (kap q18 == 1) <|
   fm_b1 (m_X1_offer kap lam q18 S26) fun x32 =>
   fm_let (a2 + x32 : Int32) fun x36 =>
   fm_let (a3 + 1 : Int32) fun x37 =>
   go4 r0 a1 x36 x37 S26
  )
def b_X11_offersBehind_4 (kap lam : Nat → Nat) : Nat → Nat → Int32 → Int32 → Int32 → fm_M → Option (Int32 × fm_M)
  | 0 => fun _ _ _ _ _ => none
  | n + 1 => k_X11_offersBehind_4 kap lam (b_X11_offersBehind_4 kap lam n)
def m_X11_offersBehind (kap lam : Nat → Nat) (r0 : Nat) (a1 : Int32) (S : fm_M) : Option (Int32 × fm_M) :=
  fm_let (0 : Int32) fun x1 =>
  fm_let (0 : Int32) fun x3 =>
  b_X11_offersBehind_4 kap lam fm_LF r0 a1 x1 x3 S
set_option maxHeartbeats 4000000 in
set_option maxRecDepth 100000 in
theorem c_X11_offersBehind {l : Launch} {D : va_G} {ids kap lam : Nat → Nat} {RL : List Nat} {ad sk sv : Nat → Nat} {S : fm_M} {r0 : Nat} {a1 : Int32} {r : Int32} {u : fm_M} (hE : fm_E kap RL ad) (hf : m_X11_offersBehind kap lam r0 a1 S = some (r, u)) (sz : Nat) : fm_MI l y_X11_offersBehind prog_1_method_43_code 5 (Option.some Jvm.ClassFile.FieldType.int) 6 D ids kap lam RL ad sk sv S [.ref (ad r0), .int a1] sz r u := by
  refine fm_open rfl hE (Nat.le_of_ble_eq_true rfl) (fun p e s m args below meth c ls Z hr hlk G F N hl hsz => ?_)
  subst hsz
  obtain ⟨hx, hb, hml, hown, hts⟩ := id Z
  have hl : lv_has ls 5 [(0, .ref (ad r0)), (1, .int a1)] := hl
  generalize hQ : MQ below _ args s 0 0 (fm_A RL ad s.heap.size) = Qf
  have hL : ∀ n : Nat, (∀ (r0 : Nat) (a1 : Int32) (a2 : Int32) (a3 : Int32)  (S : fm_M) (H : Heap) (locs : List Loc) (ls : Array Slot), fm_F D ids kap lam RL ad S (fm_A RL ad s.heap.size) s.heap H locs → lv_has ls 5 [(0, .ref (ad r0)), (1, .int a1), (2, .int a2), (3, .int a3)] → b_X11_offersBehind_4 kap lam n r0 a1 a2 a3 S = some (r, u) → W p l e (fm_rm 6) s m args below meth c H locs 0 0 Qf (F0 m 4 ls [])) := by
    intro n
    induction n with
    | zero => exact fun _ _ _ _ _ _ _ _ _ _ hf => absurd hf (by intro h; cases h)
    | succ n ih =>
      intro r0 a1 a2 a3 S H locs ls F hl hf
      have hf : k_X11_offersBehind_4 kap lam (b_X11_offersBehind_4 kap lam n) r0 a1 a2 a3 S = some (r, u) := hf
      unfold k_X11_offersBehind_4 at hf
      refine lv_iload_n hx hb d_X11_offersBehind_4 rfl (lv_at hl 3 rfl) ?_
      refine lv_aload_n hx hb d_X11_offersBehind_5 rfl (lv_at hl 0 rfl) ?_
      refine fm_rgi Z G F hf fr_X11_23 d_X11_offersBehind_6 (fun x6 _ hf => ?_)
      refine lv_icmp_ge (tgt := 43) hx hb d_X11_offersBehind_9 (by decide) (fun c9 => ?_) (fun c9 => ?_)
      · have hf := fm_ip c9 hf
        refine lv_iload_n hx hb d_X11_offersBehind_43 rfl (lv_at hl 2 rfl) ?_
        rw [← hQ]; exact fm_reti Z hr hlk F d_X11_offersBehind_44 (Prod.mk.inj (Option.some.inj hf)).1 (Prod.mk.inj (Option.some.inj hf)).2
      · have hf := fm_ig c9 hf
        refine lv_aload_n hx hb d_X11_offersBehind_12 rfl (lv_at hl 0 rfl) ?_
        refine lv_iload_n hx hb d_X11_offersBehind_13 rfl (lv_at hl 3 rfl) ?_
        refine lv_aload_n hx hb d_X11_offersBehind_14 rfl (lv_at hl 0 rfl) ?_
        refine fm_rgi Z G F hf fr_X11_57 d_X11_offersBehind_15 (fun x15 _ hf => ?_)
        obtain ⟨hk18, hf⟩ := fm_some hf
        refine fm_rcqq G F hf (fun r u ho => fm_runV (k := 2) Z G F N (As := [.int a3, .int x15]) (rest := []) (c_X11_courseFromNow hE ho _) (by rw [eq_of_beq hk18]; decide) (by rw [eq_of_beq hk18]; rfl) kw_564 kw_566 kp_11 kw_1 kw_567 yd_X11_courseFromNow rfl (by decide) (by decide) hl.1 (Nat.le_of_ble_eq_true rfl) d_X11_offersBehind_18 (Nat.le_refl 0) (Nat.le_refl 0)) (fun q18 S18 H locs _ F hf => ?_)
        refine lv_astore (lv' := [(4, .ref (ad q18)), (0, .ref (ad r0)), (1, .int a1), (2, .int a2), (3, .int a3)]) hx hb d_X11_offersBehind_21 hl (by decide) rfl (fun ls hl => ?_)
        refine lv_aload hx hb d_X11_offersBehind_23 (lv_at hl 0 rfl) ?_
        refine lv_iload_n hx hb d_X11_offersBehind_25 rfl (lv_at hl 2 rfl) ?_
        obtain ⟨hk26, hf⟩ := fm_some hf
        refine fm_rcv G F hf (fun u ho => fm_runV (k := 1) Z G F N (As := [.int a1]) (rest := []) (c_X1_goHours hE ho _) (by rw [eq_of_beq hk26]; decide) (by rw [eq_of_beq hk26]; rfl) kw_662 kw_663 kw_664 kw_18 kw_665 yd_X1_goHours rfl (by decide) (by decide) hl.1 (Nat.le_of_ble_eq_true rfl) d_X11_offersBehind_26 (Nat.le_refl 0) (Nat.le_refl 0)) (fun S26 H locs _ F hf => ?_)
        refine lv_iload_n hx hb d_X11_offersBehind_29 rfl (lv_at hl 3 rfl) ?_
        refine lv_aload hx hb d_X11_offersBehind_30 (lv_at hl 0 rfl) ?_
        obtain ⟨hk32, hf⟩ := fm_some hf
        refine fm_rcr G F hf (fun r ho => fm_runV (k := 0) Z G F N (As := []) (rest := [.int a2]) (c_X1_offer hE ho _) (by rw [eq_of_beq hk32]; decide) (by rw [eq_of_beq hk32]; rfl) kw_671 kw_672 kw_673 kw_18 kw_674 yd_X1_offer rfl (by decide) (by decide) hl.1 (Nat.le_of_ble_eq_true rfl) d_X11_offersBehind_32 (Nat.le_refl 0) (Nat.le_refl 0)) (fun x32 H locs _ F hf => ?_)
        refine lv_iadd hx hb d_X11_offersBehind_35 ?_
        refine lv_topi (fun x36 ex36 => ?_)
        have hf := fm_let_at ex36 hf
        refine lv_istore_n (lv' := [(2, .int x36), (4, .ref (ad q18)), (0, .ref (ad r0)), (1, .int a1), (3, .int a3)]) hx hb d_X11_offersBehind_36 rfl hl (by decide) rfl (fun ls hl => ?_)
        obtain ⟨x37, ex37⟩ : ∃ y : Int32, y = a3 + 1 := ⟨_, rfl⟩
        have hf := fm_let_at ex37 hf
        refine lv_iinc (v := x37) (lv' := [(3, .int x37), (2, .int x36), (4, .ref (ad q18)), (0, .ref (ad r0)), (1, .int a1)]) hx hb d_X11_offersBehind_37 hl (k := 4) rfl (by rw [ex37]; rfl) (by decide) rfl (fun ls hl => ?_)
        refine lv_goto (tgt := 4) hx hb d_X11_offersBehind_40 (by decide) ?_
        exact ih r0 a1 x36 x37 S26 _ _ _ F (lv_sub hl [3, 4, 1, 0] rfl) hf
  unfold m_X11_offersBehind at hf
  refine lv_iconst (v := 0) hx hb d_X11_offersBehind_0 (by decide) ?_
  refine lv_topi (fun x1 ex1 => ?_)
  have hf := fm_let_at ex1 hf
  refine lv_istore_n (lv' := [(2, .int x1), (0, .ref (ad r0)), (1, .int a1)]) hx hb d_X11_offersBehind_1 rfl hl (by decide) rfl (fun ls hl => ?_)
  refine lv_iconst (v := 0) hx hb d_X11_offersBehind_2 (by decide) ?_
  refine lv_topi (fun x3 ex3 => ?_)
  have hf := fm_let_at ex3 hf
  refine lv_istore_n (lv' := [(3, .int x3), (2, .int x1), (0, .ref (ad r0)), (1, .int a1)]) hx hb d_X11_offersBehind_3 rfl hl (by decide) rfl (fun ls hl => ?_)
  exact (hL fm_LF) r0 a1 x1 x3 S _ _ _ F (lv_sub hl [2, 3, 1, 0] rfl) hf
theorem d_X11_isSeenSo_0 : decode prog_1_method_44_code 0 = .ok (.iconst 0, 1) := by decide +kernel
theorem d_X11_isSeenSo_1 : decode prog_1_method_44_code 1 = .ok (.istore 5, 2) := by decide +kernel
theorem d_X11_isSeenSo_3 : decode prog_1_method_44_code 3 = .ok (.iload 5, 2) := by decide +kernel
theorem d_X11_isSeenSo_5 : decode prog_1_method_44_code 5 = .ok (.aload_n 0, 1) := by decide +kernel
theorem d_X11_isSeenSo_6 : decode prog_1_method_44_code 6 = .ok (.getfield 66, 3) := by decide +kernel
theorem d_X11_isSeenSo_9 : decode prog_1_method_44_code 9 = .ok (.invokevirtual 97, 3) := by decide +kernel
theorem d_X11_isSeenSo_12 : decode prog_1_method_44_code 12 = .ok (.if_icmp .ge 95, 3) := by decide +kernel
theorem d_X11_isSeenSo_15 : decode prog_1_method_44_code 15 = .ok (.aload_n 0, 1) := by decide +kernel
theorem d_X11_isSeenSo_16 : decode prog_1_method_44_code 16 = .ok (.getfield 66, 3) := by decide +kernel
theorem d_X11_isSeenSo_19 : decode prog_1_method_44_code 19 = .ok (.iload 5, 2) := by decide +kernel
theorem d_X11_isSeenSo_21 : decode prog_1_method_44_code 21 = .ok (.iconst 0, 1) := by decide +kernel
theorem d_X11_isSeenSo_22 : decode prog_1_method_44_code 22 = .ok (.invokevirtual 215, 3) := by decide +kernel
theorem d_X11_isSeenSo_25 : decode prog_1_method_44_code 25 = .ok (.istore 6, 2) := by decide +kernel
theorem d_X11_isSeenSo_27 : decode prog_1_method_44_code 27 = .ok (.aload_n 0, 1) := by decide +kernel
theorem d_X11_isSeenSo_28 : decode prog_1_method_44_code 28 = .ok (.iload 6, 2) := by decide +kernel
theorem d_X11_isSeenSo_30 : decode prog_1_method_44_code 30 = .ok (.invokevirtual 115, 3) := by decide +kernel
theorem d_X11_isSeenSo_33 : decode prog_1_method_44_code 33 = .ok (.ifCond .ne 5, 3) := by decide +kernel
theorem d_X11_isSeenSo_36 : decode prog_1_method_44_code 36 = .ok (.iconst 0, 1) := by decide +kernel
theorem d_X11_isSeenSo_37 : decode prog_1_method_44_code 37 = .ok (.ireturn, 1) := by decide +kernel
theorem d_X11_isSeenSo_38 : decode prog_1_method_44_code 38 = .ok (.aload_n 0, 1) := by decide +kernel
theorem d_X11_isSeenSo_39 : decode prog_1_method_44_code 39 = .ok (.iload 6, 2) := by decide +kernel
theorem d_X11_isSeenSo_41 : decode prog_1_method_44_code 41 = .ok (.iload_n 1, 1) := by decide +kernel
theorem d_X11_isSeenSo_42 : decode prog_1_method_44_code 42 = .ok (.invokevirtual 144, 3) := by decide +kernel
theorem d_X11_isSeenSo_45 : decode prog_1_method_44_code 45 = .ok (.astore 7, 2) := by decide +kernel
theorem d_X11_isSeenSo_47 : decode prog_1_method_44_code 47 = .ok (.iload 6, 2) := by decide +kernel
theorem d_X11_isSeenSo_49 : decode prog_1_method_44_code 49 = .ok (.iload_n 2, 1) := by decide +kernel
theorem d_X11_isSeenSo_50 : decode prog_1_method_44_code 50 = .ok (.if_icmp .ne 16, 3) := by decide +kernel
theorem d_X11_isSeenSo_53 : decode prog_1_method_44_code 53 = .ok (.aload 7, 2) := by decide +kernel
theorem d_X11_isSeenSo_55 : decode prog_1_method_44_code 55 = .ok (.iload_n 3, 1) := by decide +kernel
theorem d_X11_isSeenSo_56 : decode prog_1_method_44_code 56 = .ok (.putfield 184, 3) := by decide +kernel
theorem d_X11_isSeenSo_59 : decode prog_1_method_44_code 59 = .ok (.aload 7, 2) := by decide +kernel
theorem d_X11_isSeenSo_61 : decode prog_1_method_44_code 61 = .ok (.iload 4, 2) := by decide +kernel
theorem d_X11_isSeenSo_63 : decode prog_1_method_44_code 63 = .ok (.putfield 265, 3) := by decide +kernel
theorem d_X11_isSeenSo_66 : decode prog_1_method_44_code 66 = .ok (.aload 7, 2) := by decide +kernel
theorem d_X11_isSeenSo_68 : decode prog_1_method_44_code 68 = .ok (.aload_n 0, 1) := by decide +kernel
theorem d_X11_isSeenSo_69 : decode prog_1_method_44_code 69 = .ok (.getfield 66, 3) := by decide +kernel
theorem d_X11_isSeenSo_72 : decode prog_1_method_44_code 72 = .ok (.iload 5, 2) := by decide +kernel
theorem d_X11_isSeenSo_74 : decode prog_1_method_44_code 74 = .ok (.iconst 1, 1) := by decide +kernel
theorem d_X11_isSeenSo_75 : decode prog_1_method_44_code 75 = .ok (.invokevirtual 215, 3) := by decide +kernel
theorem d_X11_isSeenSo_78 : decode prog_1_method_44_code 78 = .ok (.invokevirtual 185, 3) := by decide +kernel
theorem d_X11_isSeenSo_81 : decode prog_1_method_44_code 81 = .ok (.aload 7, 2) := by decide +kernel
theorem d_X11_isSeenSo_83 : decode prog_1_method_44_code 83 = .ok (.getfield 188, 3) := by decide +kernel
theorem d_X11_isSeenSo_86 : decode prog_1_method_44_code 86 = .ok (.aload_n 0, 1) := by decide +kernel
theorem d_X11_isSeenSo_87 : decode prog_1_method_44_code 87 = .ok (.getfield 66, 3) := by decide +kernel
theorem d_X11_isSeenSo_90 : decode prog_1_method_44_code 90 = .ok (.iload 5, 2) := by decide +kernel
theorem d_X11_isSeenSo_92 : decode prog_1_method_44_code 92 = .ok (.iconst 2, 1) := by decide +kernel
theorem d_X11_isSeenSo_93 : decode prog_1_method_44_code 93 = .ok (.invokevirtual 215, 3) := by decide +kernel
theorem d_X11_isSeenSo_96 : decode prog_1_method_44_code 96 = .ok (.if_icmp .eq 5, 3) := by decide +kernel
theorem d_X11_isSeenSo_99 : decode prog_1_method_44_code 99 = .ok (.iconst 0, 1) := by decide +kernel
theorem d_X11_isSeenSo_100 : decode prog_1_method_44_code 100 = .ok (.ireturn, 1) := by decide +kernel
theorem d_X11_isSeenSo_101 : decode prog_1_method_44_code 101 = .ok (.iinc 5 1, 3) := by decide +kernel
theorem d_X11_isSeenSo_104 : decode prog_1_method_44_code 104 = .ok (.goto (-101), 3) := by decide +kernel
theorem d_X11_isSeenSo_107 : decode prog_1_method_44_code 107 = .ok (.iconst 1, 1) := by decide +kernel
theorem d_X11_isSeenSo_108 : decode prog_1_method_44_code 108 = .ok (.ireturn, 1) := by decide +kernel
def k_X11_isSeenSo_3 (kap lam : Nat → Nat) (go3 : Nat → Int32 → Int32 → Int32 → Int32 → Int32 → fm_M → Option (Int32 × fm_M)) (r0 : Nat) (a1 : Int32) (a2 : Int32) (a3 : Int32) (a4 : Int32) (a5 : Int32)  (S : fm_M) : Option (Int32 × fm_M) :=
  fm_gr kap 11 r0 11 S fun q6 =>
  fm_ck (kap q6 == 8) <|
  fm_b1 (m_X8_size kap lam q6 S) fun x9 =>
  if x9 ≤ a5 then (
   fm_z 1 (some (1, S))
  ) else (
   fm_gr kap 11 r0 11 S fun q16 =>
   fm_ck (kap q16 == 8) <|
   fm_b1 (m_X8_at kap lam q16 a5 0 S) fun x22 =>
   fm_ck (kap r0 == 11) <|
   fm_b1 (m_X11_isPane kap lam r0 x22 S) fun x30 =>
   if x30 = 0 then (
    fm_z 0 (some (0, S))
   ) else (
    fm_ck (kap r0 == 11) <|
    fm_bi (m_X11_courseFromNow kap lam r0 x22 a1 S) fun q42 S42 =>
    if x22 = a2 then (
     fm_pi kap 1 q42 3 S42 a3 fun S56 =>
     fm_pi kap 1 q42 4 S56 a4 fun S63 =>
     fm_gr kap 11 r0 11 S63 fun q69 =>
     fm_ck (kap q69 == 8) <|
     fm_b1 (m_X8_at kap lam q69 a5 1 S63) fun x75 =>
     fm_ck (kap q42 == 1) <|
     fm_b1 (m_X1_goHours kap lam q42 x75 S63) fun S78 =>
     fm_gi kap 1 q42 6 S78 fun x83 =>
     fm_gr kap 11 r0 11 S78 fun q87 =>
     fm_ck (kap q87 == 8) <|
     fm_b1 (m_X8_at kap lam q87 a5 2 S78) fun x93 =>
     if x83 = x93 then (
      fm_let (a5 + 1 : Int32) fun x101 =>
      go3 r0 a1 a2 a3 a4 x101 S78
     ) else (
      fm_z 0 (some (0, S78))
     )
    ) else (
     fm_gr kap 11 r0 11 S42 fun q69 =>
     fm_ck (kap q69 == 8) <|
     fm_b1 (m_X8_at kap lam q69 a5 1 S42) fun x75 =>
     fm_ck (kap q42 == 1) <|
     fm_b1 (m_X1_goHours kap lam q42 x75 S42) fun S78 =>
     fm_gi kap 1 q42 6 S78 fun x83 =>
     fm_gr kap 11 r0 11 S78 fun q87 =>
     fm_ck (kap q87 == 8) <|
     fm_b1 (m_X8_at kap lam q87 a5 2 S78) fun x93 =>
     if x83 = x93 then (
      fm_let (a5 + 1 : Int32) fun x101 =>
      go3 r0 a1 a2 a3 a4 x101 S78
     ) else (
      fm_z 0 (some (0, S78))
     )
    )
   )
  )
def b_X11_isSeenSo_3 (kap lam : Nat → Nat) : Nat → Nat → Int32 → Int32 → Int32 → Int32 → Int32 → fm_M → Option (Int32 × fm_M)
  | 0 => fun _ _ _ _ _ _ _ => none
  | n + 1 => k_X11_isSeenSo_3 kap lam (b_X11_isSeenSo_3 kap lam n)
def m_X11_isSeenSo (kap lam : Nat → Nat) (r0 : Nat) (a1 : Int32) (a2 : Int32) (a3 : Int32) (a4 : Int32) (S : fm_M) : Option (Int32 × fm_M) :=
  fm_let (0 : Int32) fun x1 =>
  b_X11_isSeenSo_3 kap lam fm_LF r0 a1 a2 a3 a4 x1 S
set_option maxHeartbeats 4000000 in
set_option maxRecDepth 100000 in
theorem c_X11_isSeenSo {l : Launch} {D : va_G} {ids kap lam : Nat → Nat} {RL : List Nat} {ad sk sv : Nat → Nat} {S : fm_M} {r0 : Nat} {a1 : Int32} {a2 : Int32} {a3 : Int32} {a4 : Int32} {r : Int32} {u : fm_M} (hE : fm_E kap RL ad) (hf : m_X11_isSeenSo kap lam r0 a1 a2 a3 a4 S = some (r, u)) (sz : Nat) : fm_MI l y_X11_isSeenSo prog_1_method_44_code 8 (Option.some Jvm.ClassFile.FieldType.boolean) 6 D ids kap lam RL ad sk sv S [.ref (ad r0), .int a1, .int a2, .int a3, .int a4] sz r u := by
  refine fm_open rfl hE (Nat.le_of_ble_eq_true rfl) (fun p e s m args below meth c ls Z hr hlk G F N hl hsz => ?_)
  subst hsz
  obtain ⟨hx, hb, hml, hown, hts⟩ := id Z
  have hl : lv_has ls 8 [(0, .ref (ad r0)), (1, .int a1), (2, .int a2), (3, .int a3), (4, .int a4)] := hl
  generalize hQ : MQ below _ args s 0 0 (fm_A RL ad s.heap.size) = Qf
  have hL : ∀ n : Nat, (∀ (r0 : Nat) (a1 : Int32) (a2 : Int32) (a3 : Int32) (a4 : Int32) (a5 : Int32)  (S : fm_M) (H : Heap) (locs : List Loc) (ls : Array Slot), fm_F D ids kap lam RL ad S (fm_A RL ad s.heap.size) s.heap H locs → lv_has ls 8 [(0, .ref (ad r0)), (1, .int a1), (2, .int a2), (3, .int a3), (4, .int a4), (5, .int a5)] → b_X11_isSeenSo_3 kap lam n r0 a1 a2 a3 a4 a5 S = some (r, u) → W p l e (fm_rm 6) s m args below meth c H locs 0 0 Qf (F0 m 3 ls [])) := by
    intro n
    induction n with
    | zero => exact fun _ _ _ _ _ _ _ _ _ _ _ _ hf => absurd hf (by intro h; cases h)
    | succ n ih =>
      intro r0 a1 a2 a3 a4 a5 S H locs ls F hl hf
      have hf : k_X11_isSeenSo_3 kap lam (b_X11_isSeenSo_3 kap lam n) r0 a1 a2 a3 a4 a5 S = some (r, u) := hf
      unfold k_X11_isSeenSo_3 at hf
      refine lv_iload hx hb d_X11_isSeenSo_3 (lv_at hl 5 rfl) ?_
      refine lv_aload_n hx hb d_X11_isSeenSo_5 rfl (lv_at hl 0 rfl) ?_
      refine fm_rgr Z G F hf fr_X11_66 d_X11_isSeenSo_6 (fun q6 _ hf => ?_)
      obtain ⟨hk9, hf⟩ := fm_some hf
      refine fm_rcr G F hf (fun r ho => fm_runV (k := 0) Z G F N (As := []) (rest := [.int a5]) (c_X8_size hE ho _) (by rw [eq_of_beq hk9]; decide) (by rw [eq_of_beq hk9]; rfl) kw_193 kw_194 kw_195 kw_3 kw_196 yd_X8_size rfl (by decide) (by decide) hl.1 (Nat.le_of_ble_eq_true rfl) d_X11_isSeenSo_9 (Nat.le_refl 0) (Nat.le_refl 0)) (fun x9 H locs _ F hf => ?_)
      refine lv_icmp_ge (tgt := 107) hx hb d_X11_isSeenSo_12 (by decide) (fun c12 => ?_) (fun c12 => ?_)
      · have hf := fm_ip c12 hf
        refine lv_iconst (v := 1) hx hb d_X11_isSeenSo_107 (by decide) ?_
        obtain ⟨hz, hf⟩ := fm_some hf
        rw [← hQ]; exact fm_retz Z hr hlk F d_X11_isSeenSo_108 hz (Prod.mk.inj (Option.some.inj hf)).1 (Prod.mk.inj (Option.some.inj hf)).2
      · have hf := fm_ig c12 hf
        refine lv_aload_n hx hb d_X11_isSeenSo_15 rfl (lv_at hl 0 rfl) ?_
        refine fm_rgr Z G F hf fr_X11_66 d_X11_isSeenSo_16 (fun q16 _ hf => ?_)
        refine lv_iload hx hb d_X11_isSeenSo_19 (lv_at hl 5 rfl) ?_
        refine lv_iconst (v := 0) hx hb d_X11_isSeenSo_21 (by decide) ?_
        obtain ⟨hk22, hf⟩ := fm_some hf
        refine fm_rcr G F hf (fun r ho => fm_runV (k := 2) Z G F N (As := [.int a5, .int 0]) (rest := []) (c_X8_at hE ho _) (by rw [eq_of_beq hk22]; decide) (by rw [eq_of_beq hk22]; rfl) kw_746 kw_211 kw_212 kw_3 kw_213 yd_X8_at rfl (by decide) (by decide) hl.1 (Nat.le_of_ble_eq_true rfl) d_X11_isSeenSo_22 (Nat.le_refl 0) (Nat.le_refl 0)) (fun x22 H locs _ F hf => ?_)
        refine lv_istore (lv' := [(6, .int x22), (0, .ref (ad r0)), (1, .int a1), (2, .int a2), (3, .int a3), (4, .int a4), (5, .int a5)]) hx hb d_X11_isSeenSo_25 hl (by decide) rfl (fun ls hl => ?_)
        refine lv_aload_n hx hb d_X11_isSeenSo_27 rfl (lv_at hl 1 rfl) ?_
        refine lv_iload hx hb d_X11_isSeenSo_28 (lv_at hl 0 rfl) ?_
        obtain ⟨hk30, hf⟩ := fm_some hf
        refine fm_rcr G F hf (fun r ho => fm_runV (k := 1) Z G F N (As := [.int x22]) (rest := []) (c_X11_isPane hE ho _) (by rw [eq_of_beq hk30]; decide) (by rw [eq_of_beq hk30]; rfl) kw_546 kw_548 kp_9 kw_1 kw_549 yd_X11_isPane rfl (by decide) (by decide) hl.1 (Nat.le_of_ble_eq_true rfl) d_X11_isSeenSo_30 (Nat.le_refl 0) (Nat.le_refl 0)) (fun x30 H locs _ F hf => ?_)
        refine lv_if_ne (tgt := 38) hx hb d_X11_isSeenSo_33 (by decide) (fun c33 => ?_) (fun c33 => ?_)
        · have hf := fm_ig c33 hf
          refine lv_aload_n hx hb d_X11_isSeenSo_38 rfl (lv_at hl 1 rfl) ?_
          refine lv_iload hx hb d_X11_isSeenSo_39 (lv_at hl 0 rfl) ?_
          refine lv_iload_n hx hb d_X11_isSeenSo_41 rfl (lv_at hl 2 rfl) ?_
          obtain ⟨hk42, hf⟩ := fm_some hf
          refine fm_rcqq G F hf (fun r u ho => fm_runV (k := 2) Z G F N (As := [.int x22, .int a1]) (rest := []) (c_X11_courseFromNow hE ho _) (by rw [eq_of_beq hk42]; decide) (by rw [eq_of_beq hk42]; rfl) kw_564 kw_566 kp_11 kw_1 kw_567 yd_X11_courseFromNow rfl (by decide) (by decide) hl.1 (Nat.le_of_ble_eq_true rfl) d_X11_isSeenSo_42 (Nat.le_refl 0) (Nat.le_refl 0)) (fun q42 S42 H locs _ F hf => ?_)
          refine lv_astore (lv' := [(7, .ref (ad q42)), (6, .int x22), (0, .ref (ad r0)), (1, .int a1), (2, .int a2), (3, .int a3), (4, .int a4), (5, .int a5)]) hx hb d_X11_isSeenSo_45 hl (by decide) rfl (fun ls hl => ?_)
          refine lv_iload hx hb d_X11_isSeenSo_47 (lv_at hl 1 rfl) ?_
          refine lv_iload_n hx hb d_X11_isSeenSo_49 rfl (lv_at hl 4 rfl) ?_
          refine lv_icmp_ne (tgt := 66) hx hb d_X11_isSeenSo_50 (by decide) (fun c50 => ?_) (fun c50 => ?_)
          · have hf := fm_ig c50 hf
            refine lv_aload hx hb d_X11_isSeenSo_66 (lv_at hl 0 rfl) ?_
            refine lv_aload_n hx hb d_X11_isSeenSo_68 rfl (lv_at hl 2 rfl) ?_
            refine fm_rgr Z G F hf fr_X11_66 d_X11_isSeenSo_69 (fun q69 _ hf => ?_)
            refine lv_iload hx hb d_X11_isSeenSo_72 (lv_at hl 7 rfl) ?_
            refine lv_iconst (v := 1) hx hb d_X11_isSeenSo_74 (by decide) ?_
            obtain ⟨hk75, hf⟩ := fm_some hf
            refine fm_rcr G F hf (fun r ho => fm_runV (k := 2) Z G F N (As := [.int a5, .int 1]) (rest := [.ref (ad q42)]) (c_X8_at hE ho _) (by rw [eq_of_beq hk75]; decide) (by rw [eq_of_beq hk75]; rfl) kw_746 kw_211 kw_212 kw_3 kw_213 yd_X8_at rfl (by decide) (by decide) hl.1 (Nat.le_of_ble_eq_true rfl) d_X11_isSeenSo_75 (Nat.le_refl 0) (Nat.le_refl 0)) (fun x75 H locs _ F hf => ?_)
            obtain ⟨hk78, hf⟩ := fm_some hf
            refine fm_rcv G F hf (fun u ho => fm_runV (k := 1) Z G F N (As := [.int x75]) (rest := []) (c_X1_goHours hE ho _) (by rw [eq_of_beq hk78]; decide) (by rw [eq_of_beq hk78]; rfl) kw_662 kw_663 kw_664 kw_18 kw_665 yd_X1_goHours rfl (by decide) (by decide) hl.1 (Nat.le_of_ble_eq_true rfl) d_X11_isSeenSo_78 (Nat.le_refl 0) (Nat.le_refl 0)) (fun S78 H locs _ F hf => ?_)
            refine lv_aload hx hb d_X11_isSeenSo_81 (lv_at hl 0 rfl) ?_
            refine fm_rgi Z G F hf fr_X11_188 d_X11_isSeenSo_83 (fun x83 _ hf => ?_)
            refine lv_aload_n hx hb d_X11_isSeenSo_86 rfl (lv_at hl 2 rfl) ?_
            refine fm_rgr Z G F hf fr_X11_66 d_X11_isSeenSo_87 (fun q87 _ hf => ?_)
            refine lv_iload hx hb d_X11_isSeenSo_90 (lv_at hl 7 rfl) ?_
            refine lv_iconst (v := 2) hx hb d_X11_isSeenSo_92 (by decide) ?_
            obtain ⟨hk93, hf⟩ := fm_some hf
            refine fm_rcr G F hf (fun r ho => fm_runV (k := 2) Z G F N (As := [.int a5, .int 2]) (rest := [.int x83]) (c_X8_at hE ho _) (by rw [eq_of_beq hk93]; decide) (by rw [eq_of_beq hk93]; rfl) kw_746 kw_211 kw_212 kw_3 kw_213 yd_X8_at rfl (by decide) (by decide) hl.1 (Nat.le_of_ble_eq_true rfl) d_X11_isSeenSo_93 (Nat.le_refl 0) (Nat.le_refl 0)) (fun x93 H locs _ F hf => ?_)
            refine lv_icmp_eq (tgt := 101) hx hb d_X11_isSeenSo_96 (by decide) (fun c96 => ?_) (fun c96 => ?_)
            · have hf := fm_ip c96 hf
              obtain ⟨x101, ex101⟩ : ∃ y : Int32, y = a5 + 1 := ⟨_, rfl⟩
              have hf := fm_let_at ex101 hf
              refine lv_iinc (v := x101) (lv' := [(5, .int x101), (7, .ref (ad q42)), (6, .int x22), (0, .ref (ad r0)), (1, .int a1), (2, .int a2), (3, .int a3), (4, .int a4)]) hx hb d_X11_isSeenSo_101 hl (k := 7) rfl (by rw [ex101]; rfl) (by decide) rfl (fun ls hl => ?_)
              refine lv_goto (tgt := 3) hx hb d_X11_isSeenSo_104 (by decide) ?_
              exact ih r0 a1 a2 a3 a4 x101 S78 _ _ _ F (lv_sub hl [3, 4, 5, 6, 7, 0] rfl) hf
            · have hf := fm_ig c96 hf
              refine lv_iconst (v := 0) hx hb d_X11_isSeenSo_99 (by decide) ?_
              obtain ⟨hz, hf⟩ := fm_some hf
              rw [← hQ]; exact fm_retz Z hr hlk F d_X11_isSeenSo_100 hz (Prod.mk.inj (Option.some.inj hf)).1 (Prod.mk.inj (Option.some.inj hf)).2
          · have hf := fm_ip c50 hf
            refine lv_aload hx hb d_X11_isSeenSo_53 (lv_at hl 0 rfl) ?_
            refine lv_iload_n hx hb d_X11_isSeenSo_55 rfl (lv_at hl 5 rfl) ?_
            refine fm_rpi Z G F hf fs_X11_184 d_X11_isSeenSo_56 (fun c h => by have h := eq_of_beq (show (c == 1) = true from h); subst h; rfl) (fun S56 H locs _ F hf => ?_)
            refine lv_aload hx hb d_X11_isSeenSo_59 (lv_at hl 0 rfl) ?_
            refine lv_iload hx hb d_X11_isSeenSo_61 (lv_at hl 6 rfl) ?_
            refine fm_rpi Z G F hf fs_X11_265 d_X11_isSeenSo_63 (fun c h => by have h := eq_of_beq (show (c == 1) = true from h); subst h; rfl) (fun S63 H locs _ F hf => ?_)
            refine lv_aload hx hb d_X11_isSeenSo_66 (lv_at hl 0 rfl) ?_
            refine lv_aload_n hx hb d_X11_isSeenSo_68 rfl (lv_at hl 2 rfl) ?_
            refine fm_rgr Z G F hf fr_X11_66 d_X11_isSeenSo_69 (fun q69 _ hf => ?_)
            refine lv_iload hx hb d_X11_isSeenSo_72 (lv_at hl 7 rfl) ?_
            refine lv_iconst (v := 1) hx hb d_X11_isSeenSo_74 (by decide) ?_
            obtain ⟨hk75, hf⟩ := fm_some hf
            refine fm_rcr G F hf (fun r ho => fm_runV (k := 2) Z G F N (As := [.int a5, .int 1]) (rest := [.ref (ad q42)]) (c_X8_at hE ho _) (by rw [eq_of_beq hk75]; decide) (by rw [eq_of_beq hk75]; rfl) kw_746 kw_211 kw_212 kw_3 kw_213 yd_X8_at rfl (by decide) (by decide) hl.1 (Nat.le_of_ble_eq_true rfl) d_X11_isSeenSo_75 (Nat.le_refl 0) (Nat.le_refl 0)) (fun x75 H locs _ F hf => ?_)
            obtain ⟨hk78, hf⟩ := fm_some hf
            refine fm_rcv G F hf (fun u ho => fm_runV (k := 1) Z G F N (As := [.int x75]) (rest := []) (c_X1_goHours hE ho _) (by rw [eq_of_beq hk78]; decide) (by rw [eq_of_beq hk78]; rfl) kw_662 kw_663 kw_664 kw_18 kw_665 yd_X1_goHours rfl (by decide) (by decide) hl.1 (Nat.le_of_ble_eq_true rfl) d_X11_isSeenSo_78 (Nat.le_refl 0) (Nat.le_refl 0)) (fun S78 H locs _ F hf => ?_)
            refine lv_aload hx hb d_X11_isSeenSo_81 (lv_at hl 0 rfl) ?_
            refine fm_rgi Z G F hf fr_X11_188 d_X11_isSeenSo_83 (fun x83 _ hf => ?_)
            refine lv_aload_n hx hb d_X11_isSeenSo_86 rfl (lv_at hl 2 rfl) ?_
            refine fm_rgr Z G F hf fr_X11_66 d_X11_isSeenSo_87 (fun q87 _ hf => ?_)
            refine lv_iload hx hb d_X11_isSeenSo_90 (lv_at hl 7 rfl) ?_
            refine lv_iconst (v := 2) hx hb d_X11_isSeenSo_92 (by decide) ?_
            obtain ⟨hk93, hf⟩ := fm_some hf
            refine fm_rcr G F hf (fun r ho => fm_runV (k := 2) Z G F N (As := [.int a5, .int 2]) (rest := [.int x83]) (c_X8_at hE ho _) (by rw [eq_of_beq hk93]; decide) (by rw [eq_of_beq hk93]; rfl) kw_746 kw_211 kw_212 kw_3 kw_213 yd_X8_at rfl (by decide) (by decide) hl.1 (Nat.le_of_ble_eq_true rfl) d_X11_isSeenSo_93 (Nat.le_refl 0) (Nat.le_refl 0)) (fun x93 H locs _ F hf => ?_)
            refine lv_icmp_eq (tgt := 101) hx hb d_X11_isSeenSo_96 (by decide) (fun c96 => ?_) (fun c96 => ?_)
            · have hf := fm_ip c96 hf
              obtain ⟨x101, ex101⟩ : ∃ y : Int32, y = a5 + 1 := ⟨_, rfl⟩
              have hf := fm_let_at ex101 hf
              refine lv_iinc (v := x101) (lv' := [(5, .int x101), (7, .ref (ad q42)), (6, .int x22), (0, .ref (ad r0)), (1, .int a1), (2, .int a2), (3, .int a3), (4, .int a4)]) hx hb d_X11_isSeenSo_101 hl (k := 7) rfl (by rw [ex101]; rfl) (by decide) rfl (fun ls hl => ?_)
              refine lv_goto (tgt := 3) hx hb d_X11_isSeenSo_104 (by decide) ?_
              exact ih r0 a1 a2 a3 a4 x101 S78 _ _ _ F (lv_sub hl [3, 4, 5, 6, 7, 0] rfl) hf
            · have hf := fm_ig c96 hf
              refine lv_iconst (v := 0) hx hb d_X11_isSeenSo_99 (by decide) ?_
              obtain ⟨hz, hf⟩ := fm_some hf
              rw [← hQ]; exact fm_retz Z hr hlk F d_X11_isSeenSo_100 hz (Prod.mk.inj (Option.some.inj hf)).1 (Prod.mk.inj (Option.some.inj hf)).2
        · have hf := fm_ip c33 hf
          refine lv_iconst (v := 0) hx hb d_X11_isSeenSo_36 (by decide) ?_
          obtain ⟨hz, hf⟩ := fm_some hf
          rw [← hQ]; exact fm_retz Z hr hlk F d_X11_isSeenSo_37 hz (Prod.mk.inj (Option.some.inj hf)).1 (Prod.mk.inj (Option.some.inj hf)).2
  unfold m_X11_isSeenSo at hf
  refine lv_iconst (v := 0) hx hb d_X11_isSeenSo_0 (by decide) ?_
  refine lv_topi (fun x1 ex1 => ?_)
  have hf := fm_let_at ex1 hf
  refine lv_istore (lv' := [(5, .int x1), (0, .ref (ad r0)), (1, .int a1), (2, .int a2), (3, .int a3), (4, .int a4)]) hx hb d_X11_isSeenSo_1 hl (by decide) rfl (fun ls hl => ?_)
  exact (hL fm_LF) r0 a1 a2 a3 a4 x1 S _ _ _ F (lv_sub hl [1, 2, 3, 4, 5, 0] rfl) hf
theorem d_X11_fillPays_0 : decode prog_1_method_45_code 0 = .ok (.iconst 0, 1) := by decide +kernel
theorem d_X11_fillPays_1 : decode prog_1_method_45_code 1 = .ok (.istore_n 2, 1) := by decide +kernel
theorem d_X11_fillPays_2 : decode prog_1_method_45_code 2 = .ok (.iload_n 2, 1) := by decide +kernel
theorem d_X11_fillPays_3 : decode prog_1_method_45_code 3 = .ok (.aload_n 0, 1) := by decide +kernel
theorem d_X11_fillPays_4 : decode prog_1_method_45_code 4 = .ok (.getfield 23, 3) := by decide +kernel
theorem d_X11_fillPays_7 : decode prog_1_method_45_code 7 = .ok (.if_icmp .ge 52, 3) := by decide +kernel
theorem d_X11_fillPays_10 : decode prog_1_method_45_code 10 = .ok (.iconst 0, 1) := by decide +kernel
theorem d_X11_fillPays_11 : decode prog_1_method_45_code 11 = .ok (.istore_n 3, 1) := by decide +kernel
theorem d_X11_fillPays_12 : decode prog_1_method_45_code 12 = .ok (.iload_n 3, 1) := by decide +kernel
theorem d_X11_fillPays_13 : decode prog_1_method_45_code 13 = .ok (.iconst 1, 1) := by decide +kernel
theorem d_X11_fillPays_14 : decode prog_1_method_45_code 14 = .ok (.iload_n 1, 1) := by decide +kernel
theorem d_X11_fillPays_15 : decode prog_1_method_45_code 15 = .ok (.ishl, 1) := by decide +kernel
theorem d_X11_fillPays_16 : decode prog_1_method_45_code 16 = .ok (.if_icmp .ge 37, 3) := by decide +kernel
theorem d_X11_fillPays_19 : decode prog_1_method_45_code 19 = .ok (.aload_n 0, 1) := by decide +kernel
theorem d_X11_fillPays_20 : decode prog_1_method_45_code 20 = .ok (.iload_n 2, 1) := by decide +kernel
theorem d_X11_fillPays_21 : decode prog_1_method_45_code 21 = .ok (.aload_n 0, 1) := by decide +kernel
theorem d_X11_fillPays_22 : decode prog_1_method_45_code 22 = .ok (.getfield 57, 3) := by decide +kernel
theorem d_X11_fillPays_25 : decode prog_1_method_45_code 25 = .ok (.invokevirtual 144, 3) := by decide +kernel
theorem d_X11_fillPays_28 : decode prog_1_method_45_code 28 = .ok (.astore 4, 2) := by decide +kernel
theorem d_X11_fillPays_30 : decode prog_1_method_45_code 30 = .ok (.aload_n 0, 1) := by decide +kernel
theorem d_X11_fillPays_31 : decode prog_1_method_45_code 31 = .ok (.getfield 81, 3) := by decide +kernel
theorem d_X11_fillPays_34 : decode prog_1_method_45_code 34 = .ok (.iload_n 2, 1) := by decide +kernel
theorem d_X11_fillPays_35 : decode prog_1_method_45_code 35 = .ok (.iconst 3, 1) := by decide +kernel
theorem d_X11_fillPays_36 : decode prog_1_method_45_code 36 = .ok (.ishl, 1) := by decide +kernel
theorem d_X11_fillPays_37 : decode prog_1_method_45_code 37 = .ok (.iload_n 3, 1) := by decide +kernel
theorem d_X11_fillPays_38 : decode prog_1_method_45_code 38 = .ok (.iadd, 1) := by decide +kernel
theorem d_X11_fillPays_39 : decode prog_1_method_45_code 39 = .ok (.aload 4, 2) := by decide +kernel
theorem d_X11_fillPays_41 : decode prog_1_method_45_code 41 = .ok (.iload_n 1, 1) := by decide +kernel
theorem d_X11_fillPays_42 : decode prog_1_method_45_code 42 = .ok (.iload_n 3, 1) := by decide +kernel
theorem d_X11_fillPays_43 : decode prog_1_method_45_code 43 = .ok (.invokevirtual 266, 3) := by decide +kernel
theorem d_X11_fillPays_46 : decode prog_1_method_45_code 46 = .ok (.iastore, 1) := by decide +kernel
theorem d_X11_fillPays_47 : decode prog_1_method_45_code 47 = .ok (.iinc 3 1, 3) := by decide +kernel
theorem d_X11_fillPays_50 : decode prog_1_method_45_code 50 = .ok (.goto (-38), 3) := by decide +kernel
theorem d_X11_fillPays_53 : decode prog_1_method_45_code 53 = .ok (.iinc 2 1, 3) := by decide +kernel
theorem d_X11_fillPays_56 : decode prog_1_method_45_code 56 = .ok (.goto (-54), 3) := by decide +kernel
theorem d_X11_fillPays_59 : decode prog_1_method_45_code 59 = .ok (.return_, 1) := by decide +kernel
def k_X11_fillPays_2 (kap lam : Nat → Nat) (go2 : Nat → Int32 → Int32 → fm_M → Option fm_M) (go12 : Nat → Int32 → Int32 → Int32 → fm_M → Option fm_M) (r0 : Nat) (a1 : Int32) (a2 : Int32)  (S : fm_M) : Option fm_M :=
  fm_gi kap 11 r0 2 S fun x4 =>
  if x4 ≤ a2 then (
   some S
  ) else (
   fm_let (0 : Int32) fun x11 =>
   go12 r0 a1 a2 x11 S
  )
def k_X11_fillPays_12 (kap lam : Nat → Nat) (go2 : Nat → Int32 → Int32 → fm_M → Option fm_M) (go12 : Nat → Int32 → Int32 → Int32 → fm_M → Option fm_M) (r0 : Nat) (a1 : Int32) (a2 : Int32) (a3 : Int32)  (S : fm_M) : Option fm_M :=
  if ((1 : Int32) <<< (a1 &&& 31)) ≤ a3 then (
   fm_let (a2 + 1 : Int32) fun x53 =>
   go2 r0 a1 x53 S
  ) else (
   fm_gi kap 11 r0 8 S fun x22 =>
   fm_ck (kap r0 == 11) <|
   fm_bi (m_X11_courseFromNow kap lam r0 a2 x22 S) fun q25 S25 =>
   fm_gr kap 11 r0 16 S25 fun q31 =>
   fm_ck (kap q25 == 1) <|
   fm_bi (m_X1_goBreathed kap lam q25 a1 a3 S25) fun x43 S43 =>
   fm_st kap lam q31 ((a2 <<< ((3 : Int32) &&& 31)) + a3) x43 S43 fun S46 =>
   fm_let (a3 + 1 : Int32) fun x47 =>
   go12 r0 a1 a2 x47 S46
  )
def bs_X11_fillPays (kap lam : Nat → Nat) : Nat → (Nat → Int32 → Int32 → fm_M → Option fm_M) × (Nat → Int32 → Int32 → Int32 → fm_M → Option fm_M)
  | 0 => ((fun _ _ _ _ => none), (fun _ _ _ _ _ => none))
  | n + 1 => (k_X11_fillPays_2 kap lam (bs_X11_fillPays kap lam n).1 (bs_X11_fillPays kap lam n).2, k_X11_fillPays_12 kap lam (bs_X11_fillPays kap lam n).1 (bs_X11_fillPays kap lam n).2)
def b_X11_fillPays_2 (kap lam : Nat → Nat) (n : Nat) : Nat → Int32 → Int32 → fm_M → Option fm_M := (bs_X11_fillPays kap lam n).1
def b_X11_fillPays_12 (kap lam : Nat → Nat) (n : Nat) : Nat → Int32 → Int32 → Int32 → fm_M → Option fm_M := (bs_X11_fillPays kap lam n).2
def m_X11_fillPays (kap lam : Nat → Nat) (r0 : Nat) (a1 : Int32) (S : fm_M) : Option fm_M :=
  fm_let (0 : Int32) fun x1 =>
  b_X11_fillPays_2 kap lam fm_LF r0 a1 x1 S
set_option maxHeartbeats 4000000 in
set_option maxRecDepth 100000 in
theorem c_X11_fillPays {l : Launch} {D : va_G} {ids kap lam : Nat → Nat} {RL : List Nat} {ad sk sv : Nat → Nat} {S : fm_M} {r0 : Nat} {a1 : Int32} {u : fm_M} (hE : fm_E kap RL ad) (hf : m_X11_fillPays kap lam r0 a1 S = some u) (sz : Nat) : fm_MV l y_X11_fillPays prog_1_method_45_code 5 (Option.none : Option Jvm.ClassFile.FieldType) 6 D ids kap lam RL ad sk sv S [.ref (ad r0), .int a1] sz u := by
  refine fm_open rfl hE (Nat.le_of_ble_eq_true rfl) (fun p e s m args below meth c ls Z hr hlk G F N hl hsz => ?_)
  subst hsz
  obtain ⟨hx, hb, hml, hown, hts⟩ := id Z
  have hl : lv_has ls 5 [(0, .ref (ad r0)), (1, .int a1)] := hl
  generalize hQ : MQ below _ args s 0 0 (fm_A RL ad s.heap.size) = Qf
  have hL : ∀ n : Nat, (∀ (r0 : Nat) (a1 : Int32) (a2 : Int32)  (S : fm_M) (H : Heap) (locs : List Loc) (ls : Array Slot), fm_F D ids kap lam RL ad S (fm_A RL ad s.heap.size) s.heap H locs → lv_has ls 5 [(0, .ref (ad r0)), (1, .int a1), (2, .int a2)] → b_X11_fillPays_2 kap lam n r0 a1 a2 S = some u → W p l e (fm_rm 6) s m args below meth c H locs 0 0 Qf (F0 m 2 ls [])) ∧ (∀ (r0 : Nat) (a1 : Int32) (a2 : Int32) (a3 : Int32)  (S : fm_M) (H : Heap) (locs : List Loc) (ls : Array Slot), fm_F D ids kap lam RL ad S (fm_A RL ad s.heap.size) s.heap H locs → lv_has ls 5 [(0, .ref (ad r0)), (1, .int a1), (2, .int a2), (3, .int a3)] → b_X11_fillPays_12 kap lam n r0 a1 a2 a3 S = some u → W p l e (fm_rm 6) s m args below meth c H locs 0 0 Qf (F0 m 12 ls [])) := by
    intro n
    induction n with
    | zero => exact ⟨fun _ _ _ _ _ _ _ _ _ hf => absurd hf (by intro h; cases h), fun _ _ _ _ _ _ _ _ _ _ hf => absurd hf (by intro h; cases h)⟩
    | succ n ih =>
      refine ⟨?_, ?_⟩
      · intro r0 a1 a2 S H locs ls F hl hf
        have hf : k_X11_fillPays_2 kap lam (b_X11_fillPays_2 kap lam n) (b_X11_fillPays_12 kap lam n) r0 a1 a2 S = some u := hf
        unfold k_X11_fillPays_2 at hf
        refine lv_iload_n hx hb d_X11_fillPays_2 rfl (lv_at hl 2 rfl) ?_
        refine lv_aload_n hx hb d_X11_fillPays_3 rfl (lv_at hl 0 rfl) ?_
        refine fm_rgi Z G F hf fr_X11_23 d_X11_fillPays_4 (fun x4 _ hf => ?_)
        refine lv_icmp_ge (tgt := 59) hx hb d_X11_fillPays_7 (by decide) (fun c7 => ?_) (fun c7 => ?_)
        · have hf := fm_ip c7 hf
          rw [← hQ]; exact fm_retv Z hr hlk F d_X11_fillPays_59 (Option.some.inj hf)
        · have hf := fm_ig c7 hf
          refine lv_iconst (v := 0) hx hb d_X11_fillPays_10 (by decide) ?_
          refine lv_topi (fun x11 ex11 => ?_)
          have hf := fm_let_at ex11 hf
          refine lv_istore_n (lv' := [(3, .int x11), (0, .ref (ad r0)), (1, .int a1), (2, .int a2)]) hx hb d_X11_fillPays_11 rfl hl (by decide) rfl (fun ls hl => ?_)
          exact (ih).2 r0 a1 a2 x11 S _ _ _ F (lv_sub hl [1, 2, 3, 0] rfl) hf
      · intro r0 a1 a2 a3 S H locs ls F hl hf
        have hf : k_X11_fillPays_12 kap lam (b_X11_fillPays_2 kap lam n) (b_X11_fillPays_12 kap lam n) r0 a1 a2 a3 S = some u := hf
        unfold k_X11_fillPays_12 at hf
        refine lv_iload_n hx hb d_X11_fillPays_12 rfl (lv_at hl 3 rfl) ?_
        refine lv_iconst (v := 1) hx hb d_X11_fillPays_13 (by decide) ?_
        refine lv_iload_n hx hb d_X11_fillPays_14 rfl (lv_at hl 1 rfl) ?_
        refine lv_ishl hx hb d_X11_fillPays_15 ?_
        refine lv_icmp_ge (tgt := 53) hx hb d_X11_fillPays_16 (by decide) (fun c16 => ?_) (fun c16 => ?_)
        · have hf := fm_ip c16 hf
          obtain ⟨x53, ex53⟩ : ∃ y : Int32, y = a2 + 1 := ⟨_, rfl⟩
          have hf := fm_let_at ex53 hf
          refine lv_iinc (v := x53) (lv' := [(2, .int x53), (0, .ref (ad r0)), (1, .int a1), (3, .int a3)]) hx hb d_X11_fillPays_53 hl (k := 2) rfl (by rw [ex53]; rfl) (by decide) rfl (fun ls hl => ?_)
          refine lv_goto (tgt := 2) hx hb d_X11_fillPays_56 (by decide) ?_
          exact (ih).1 r0 a1 x53 S _ _ _ F (lv_sub hl [1, 2, 0] rfl) hf
        · have hf := fm_ig c16 hf
          refine lv_aload_n hx hb d_X11_fillPays_19 rfl (lv_at hl 0 rfl) ?_
          refine lv_iload_n hx hb d_X11_fillPays_20 rfl (lv_at hl 2 rfl) ?_
          refine lv_aload_n hx hb d_X11_fillPays_21 rfl (lv_at hl 0 rfl) ?_
          refine fm_rgi Z G F hf fr_X11_57 d_X11_fillPays_22 (fun x22 _ hf => ?_)
          obtain ⟨hk25, hf⟩ := fm_some hf
          refine fm_rcqq G F hf (fun r u ho => fm_runV (k := 2) Z G F N (As := [.int a2, .int x22]) (rest := []) (c_X11_courseFromNow hE ho _) (by rw [eq_of_beq hk25]; decide) (by rw [eq_of_beq hk25]; rfl) kw_564 kw_566 kp_11 kw_1 kw_567 yd_X11_courseFromNow rfl (by decide) (by decide) hl.1 (Nat.le_of_ble_eq_true rfl) d_X11_fillPays_25 (Nat.le_refl 0) (Nat.le_refl 0)) (fun q25 S25 H locs _ F hf => ?_)
          refine lv_astore (lv' := [(4, .ref (ad q25)), (0, .ref (ad r0)), (1, .int a1), (2, .int a2), (3, .int a3)]) hx hb d_X11_fillPays_28 hl (by decide) rfl (fun ls hl => ?_)
          refine lv_aload_n hx hb d_X11_fillPays_30 rfl (lv_at hl 1 rfl) ?_
          refine fm_rgr Z G F hf fr_X11_81 d_X11_fillPays_31 (fun q31 _ hf => ?_)
          refine lv_iload_n hx hb d_X11_fillPays_34 rfl (lv_at hl 3 rfl) ?_
          refine lv_iconst (v := 3) hx hb d_X11_fillPays_35 (by decide) ?_
          refine lv_ishl hx hb d_X11_fillPays_36 ?_
          refine lv_iload_n hx hb d_X11_fillPays_37 rfl (lv_at hl 4 rfl) ?_
          refine lv_iadd hx hb d_X11_fillPays_38 ?_
          refine lv_aload hx hb d_X11_fillPays_39 (lv_at hl 0 rfl) ?_
          refine lv_iload_n hx hb d_X11_fillPays_41 rfl (lv_at hl 2 rfl) ?_
          refine lv_iload_n hx hb d_X11_fillPays_42 rfl (lv_at hl 4 rfl) ?_
          obtain ⟨hk43, hf⟩ := fm_some hf
          refine fm_rci G F hf (fun r u ho => fm_runV (k := 2) Z G F N (As := [.int a1, .int a3]) (rest := [.int ((a2 <<< ((3 : Int32) &&& 31)) + a3), .ref (ad q31)]) (c_X1_goBreathed hE ho _) (by rw [eq_of_beq hk43]; decide) (by rw [eq_of_beq hk43]; rfl) kw_713 kw_714 kw_715 kw_18 kw_716 yd_X1_goBreathed rfl (by decide) (by decide) hl.1 (Nat.le_of_ble_eq_true rfl) d_X11_fillPays_43 (Nat.le_refl 0) (Nat.le_refl 0)) (fun x43 S43 H locs _ F hf => ?_)
          refine fm_rst Z G F hf d_X11_fillPays_46 (fun S46 H locs _ F hf => ?_)
          obtain ⟨x47, ex47⟩ : ∃ y : Int32, y = a3 + 1 := ⟨_, rfl⟩
          have hf := fm_let_at ex47 hf
          refine lv_iinc (v := x47) (lv' := [(3, .int x47), (4, .ref (ad q25)), (0, .ref (ad r0)), (1, .int a1), (2, .int a2)]) hx hb d_X11_fillPays_47 hl (k := 4) rfl (by rw [ex47]; rfl) (by decide) rfl (fun ls hl => ?_)
          refine lv_goto (tgt := 12) hx hb d_X11_fillPays_50 (by decide) ?_
          exact (ih).2 r0 a1 a2 x47 S46 _ _ _ F (lv_sub hl [2, 3, 4, 0] rfl) hf
  unfold m_X11_fillPays at hf
  refine lv_iconst (v := 0) hx hb d_X11_fillPays_0 (by decide) ?_
  refine lv_topi (fun x1 ex1 => ?_)
  have hf := fm_let_at ex1 hf
  refine lv_istore_n (lv' := [(2, .int x1), (0, .ref (ad r0)), (1, .int a1)]) hx hb d_X11_fillPays_1 rfl hl (by decide) rfl (fun ls hl => ?_)
  exact (hL fm_LF).1 r0 a1 x1 S _ _ _ F (lv_sub hl [1, 2, 0] rfl) hf
theorem d_X11_rowsOfBreaths_0 : decode prog_1_method_46_code 0 = .ok (.iconst 1, 1) := by decide +kernel
theorem d_X11_rowsOfBreaths_1 : decode prog_1_method_46_code 1 = .ok (.istore_n 2, 1) := by decide +kernel
theorem d_X11_rowsOfBreaths_2 : decode prog_1_method_46_code 2 = .ok (.iconst 0, 1) := by decide +kernel
theorem d_X11_rowsOfBreaths_3 : decode prog_1_method_46_code 3 = .ok (.istore_n 3, 1) := by decide +kernel
theorem d_X11_rowsOfBreaths_4 : decode prog_1_method_46_code 4 = .ok (.iload_n 3, 1) := by decide +kernel
theorem d_X11_rowsOfBreaths_5 : decode prog_1_method_46_code 5 = .ok (.iload_n 1, 1) := by decide +kernel
theorem d_X11_rowsOfBreaths_6 : decode prog_1_method_46_code 6 = .ok (.if_icmp .ge 18, 3) := by decide +kernel
theorem d_X11_rowsOfBreaths_9 : decode prog_1_method_46_code 9 = .ok (.iload_n 2, 1) := by decide +kernel
theorem d_X11_rowsOfBreaths_10 : decode prog_1_method_46_code 10 = .ok (.aload_n 0, 1) := by decide +kernel
theorem d_X11_rowsOfBreaths_11 : decode prog_1_method_46_code 11 = .ok (.getfield 23, 3) := by decide +kernel
theorem d_X11_rowsOfBreaths_14 : decode prog_1_method_46_code 14 = .ok (.iconst 1, 1) := by decide +kernel
theorem d_X11_rowsOfBreaths_15 : decode prog_1_method_46_code 15 = .ok (.iadd, 1) := by decide +kernel
theorem d_X11_rowsOfBreaths_16 : decode prog_1_method_46_code 16 = .ok (.imul, 1) := by decide +kernel
theorem d_X11_rowsOfBreaths_17 : decode prog_1_method_46_code 17 = .ok (.istore_n 2, 1) := by decide +kernel
theorem d_X11_rowsOfBreaths_18 : decode prog_1_method_46_code 18 = .ok (.iinc 3 1, 3) := by decide +kernel
theorem d_X11_rowsOfBreaths_21 : decode prog_1_method_46_code 21 = .ok (.goto (-17), 3) := by decide +kernel
theorem d_X11_rowsOfBreaths_24 : decode prog_1_method_46_code 24 = .ok (.iload_n 2, 1) := by decide +kernel
theorem d_X11_rowsOfBreaths_25 : decode prog_1_method_46_code 25 = .ok (.ireturn, 1) := by decide +kernel
def k_X11_rowsOfBreaths_4 (kap lam : Nat → Nat) (S : fm_M) (go4 : Nat → Int32 → Int32 → Int32 → Option Int32) (r0 : Nat) (a1 : Int32) (a2 : Int32) (a3 : Int32)  : Option Int32 :=
  if a1 ≤ a3 then (
   some a2
  ) else (
   fm_gi kap 11 r0 2 S fun x11 =>
   fm_let (a2 * (x11 + 1) : Int32) fun x17 =>
   fm_let (a3 + 1 : Int32) fun x18 =>
   go4 r0 a1 x17 x18
  )
def b_X11_rowsOfBreaths_4 (kap lam : Nat → Nat) (S : fm_M) : Nat → Nat → Int32 → Int32 → Int32 → Option Int32
  | 0 => fun _ _ _ _ => none
  | n + 1 => k_X11_rowsOfBreaths_4 kap lam S (b_X11_rowsOfBreaths_4 kap lam S n)
def m_X11_rowsOfBreaths (kap lam : Nat → Nat) (r0 : Nat) (a1 : Int32) (S : fm_M) : Option Int32 :=
  fm_let (1 : Int32) fun x1 =>
  fm_let (0 : Int32) fun x3 =>
  b_X11_rowsOfBreaths_4 kap lam S fm_LF r0 a1 x1 x3
set_option maxHeartbeats 4000000 in
set_option maxRecDepth 100000 in
theorem c_X11_rowsOfBreaths {l : Launch} {D : va_G} {ids kap lam : Nat → Nat} {RL : List Nat} {ad sk sv : Nat → Nat} {S : fm_M} {r0 : Nat} {a1 : Int32} {r : Int32} (hE : fm_E kap RL ad) (hf : m_X11_rowsOfBreaths kap lam r0 a1 S = some r) (sz : Nat) : fm_MI l y_X11_rowsOfBreaths prog_1_method_46_code 4 (Option.some Jvm.ClassFile.FieldType.int) 0 D ids kap lam RL ad sk sv S [.ref (ad r0), .int a1] sz r S := by
  refine fm_open rfl hE (Nat.le_of_ble_eq_true rfl) (fun p e s m args below meth c ls Z hr hlk G F N hl hsz => ?_)
  subst hsz
  obtain ⟨hx, hb, hml, hown, hts⟩ := id Z
  have hl : lv_has ls 4 [(0, .ref (ad r0)), (1, .int a1)] := hl
  generalize hQ : MQ below _ args s 0 0 (fm_A RL ad s.heap.size) = Qf
  have hL : ∀ n : Nat, (∀ (r0 : Nat) (a1 : Int32) (a2 : Int32) (a3 : Int32)  (H : Heap) (locs : List Loc) (ls : Array Slot), fm_F D ids kap lam RL ad S (fm_A RL ad s.heap.size) s.heap H locs → lv_has ls 4 [(0, .ref (ad r0)), (1, .int a1), (2, .int a2), (3, .int a3)] → b_X11_rowsOfBreaths_4 kap lam S n r0 a1 a2 a3 = some r → W p l e (fm_rm 0) s m args below meth c H locs 0 0 Qf (F0 m 4 ls [])) := by
    intro n
    induction n with
    | zero => exact fun _ _ _ _ _ _ _ _ _ hf => absurd hf (by intro h; cases h)
    | succ n ih =>
      intro r0 a1 a2 a3 H locs ls F hl hf
      have hf : k_X11_rowsOfBreaths_4 kap lam S (b_X11_rowsOfBreaths_4 kap lam S n) r0 a1 a2 a3 = some r := hf
      unfold k_X11_rowsOfBreaths_4 at hf
      refine lv_iload_n hx hb d_X11_rowsOfBreaths_4 rfl (lv_at hl 3 rfl) ?_
      refine lv_iload_n hx hb d_X11_rowsOfBreaths_5 rfl (lv_at hl 1 rfl) ?_
      refine lv_icmp_ge (tgt := 24) hx hb d_X11_rowsOfBreaths_6 (by decide) (fun c6 => ?_) (fun c6 => ?_)
      · have hf := fm_ip c6 hf
        refine lv_iload_n hx hb d_X11_rowsOfBreaths_24 rfl (lv_at hl 2 rfl) ?_
        rw [← hQ]; exact fm_reti Z hr hlk F d_X11_rowsOfBreaths_25 (Option.some.inj hf) rfl
      · have hf := fm_ig c6 hf
        refine lv_iload_n hx hb d_X11_rowsOfBreaths_9 rfl (lv_at hl 2 rfl) ?_
        refine lv_aload_n hx hb d_X11_rowsOfBreaths_10 rfl (lv_at hl 0 rfl) ?_
        refine fm_rgi Z G F hf fr_X11_23 d_X11_rowsOfBreaths_11 (fun x11 _ hf => ?_)
        refine lv_iconst (v := 1) hx hb d_X11_rowsOfBreaths_14 (by decide) ?_
        refine lv_iadd hx hb d_X11_rowsOfBreaths_15 ?_
        refine lv_imul hx hb d_X11_rowsOfBreaths_16 ?_
        refine lv_topi (fun x17 ex17 => ?_)
        have hf := fm_let_at ex17 hf
        refine lv_istore_n (lv' := [(2, .int x17), (0, .ref (ad r0)), (1, .int a1), (3, .int a3)]) hx hb d_X11_rowsOfBreaths_17 rfl hl (by decide) rfl (fun ls hl => ?_)
        obtain ⟨x18, ex18⟩ : ∃ y : Int32, y = a3 + 1 := ⟨_, rfl⟩
        have hf := fm_let_at ex18 hf
        refine lv_iinc (v := x18) (lv' := [(3, .int x18), (2, .int x17), (0, .ref (ad r0)), (1, .int a1)]) hx hb d_X11_rowsOfBreaths_18 hl (k := 3) rfl (by rw [ex18]; rfl) (by decide) rfl (fun ls hl => ?_)
        refine lv_goto (tgt := 4) hx hb d_X11_rowsOfBreaths_21 (by decide) ?_
        exact ih r0 a1 x17 x18 _ _ _ F (lv_sub hl [2, 3, 1, 0] rfl) hf
  unfold m_X11_rowsOfBreaths at hf
  refine lv_iconst (v := 1) hx hb d_X11_rowsOfBreaths_0 (by decide) ?_
  refine lv_topi (fun x1 ex1 => ?_)
  have hf := fm_let_at ex1 hf
  refine lv_istore_n (lv' := [(2, .int x1), (0, .ref (ad r0)), (1, .int a1)]) hx hb d_X11_rowsOfBreaths_1 rfl hl (by decide) rfl (fun ls hl => ?_)
  refine lv_iconst (v := 0) hx hb d_X11_rowsOfBreaths_2 (by decide) ?_
  refine lv_topi (fun x3 ex3 => ?_)
  have hf := fm_let_at ex3 hf
  refine lv_istore_n (lv' := [(3, .int x3), (2, .int x1), (0, .ref (ad r0)), (1, .int a1)]) hx hb d_X11_rowsOfBreaths_3 rfl hl (by decide) rfl (fun ls hl => ?_)
  exact (hL fm_LF) r0 a1 x1 x3 _ _ _ F (lv_sub hl [2, 3, 1, 0] rfl) hf
theorem d_X11_breathedAt_0 : decode prog_1_method_47_code 0 = .ok (.iload_n 1, 1) := by decide +kernel
theorem d_X11_breathedAt_1 : decode prog_1_method_47_code 1 = .ok (.istore 4, 2) := by decide +kernel
theorem d_X11_breathedAt_3 : decode prog_1_method_47_code 3 = .ok (.iload_n 3, 1) := by decide +kernel
theorem d_X11_breathedAt_4 : decode prog_1_method_47_code 4 = .ok (.iconst 1, 1) := by decide +kernel
theorem d_X11_breathedAt_5 : decode prog_1_method_47_code 5 = .ok (.isub, 1) := by decide +kernel
theorem d_X11_breathedAt_6 : decode prog_1_method_47_code 6 = .ok (.istore 5, 2) := by decide +kernel
theorem d_X11_breathedAt_8 : decode prog_1_method_47_code 8 = .ok (.iload 5, 2) := by decide +kernel
theorem d_X11_breathedAt_10 : decode prog_1_method_47_code 10 = .ok (.iload_n 2, 1) := by decide +kernel
theorem d_X11_breathedAt_11 : decode prog_1_method_47_code 11 = .ok (.if_icmp .le 20, 3) := by decide +kernel
theorem d_X11_breathedAt_14 : decode prog_1_method_47_code 14 = .ok (.iload 4, 2) := by decide +kernel
theorem d_X11_breathedAt_16 : decode prog_1_method_47_code 16 = .ok (.aload_n 0, 1) := by decide +kernel
theorem d_X11_breathedAt_17 : decode prog_1_method_47_code 17 = .ok (.getfield 23, 3) := by decide +kernel
theorem d_X11_breathedAt_20 : decode prog_1_method_47_code 20 = .ok (.iconst 1, 1) := by decide +kernel
theorem d_X11_breathedAt_21 : decode prog_1_method_47_code 21 = .ok (.iadd, 1) := by decide +kernel
theorem d_X11_breathedAt_22 : decode prog_1_method_47_code 22 = .ok (.idiv, 1) := by decide +kernel
theorem d_X11_breathedAt_23 : decode prog_1_method_47_code 23 = .ok (.istore 4, 2) := by decide +kernel
theorem d_X11_breathedAt_25 : decode prog_1_method_47_code 25 = .ok (.iinc 5 (-1), 3) := by decide +kernel
theorem d_X11_breathedAt_28 : decode prog_1_method_47_code 28 = .ok (.goto (-20), 3) := by decide +kernel
theorem d_X11_breathedAt_31 : decode prog_1_method_47_code 31 = .ok (.iload 4, 2) := by decide +kernel
theorem d_X11_breathedAt_33 : decode prog_1_method_47_code 33 = .ok (.aload_n 0, 1) := by decide +kernel
theorem d_X11_breathedAt_34 : decode prog_1_method_47_code 34 = .ok (.getfield 23, 3) := by decide +kernel
theorem d_X11_breathedAt_37 : decode prog_1_method_47_code 37 = .ok (.iconst 1, 1) := by decide +kernel
theorem d_X11_breathedAt_38 : decode prog_1_method_47_code 38 = .ok (.iadd, 1) := by decide +kernel
theorem d_X11_breathedAt_39 : decode prog_1_method_47_code 39 = .ok (.irem, 1) := by decide +kernel
theorem d_X11_breathedAt_40 : decode prog_1_method_47_code 40 = .ok (.ireturn, 1) := by decide +kernel
def k_X11_breathedAt_8 (kap lam : Nat → Nat) (S : fm_M) (go8 : Nat → Int32 → Int32 → Int32 → Option Int32) (r0 : Nat) (a2 : Int32) (a4 : Int32) (a5 : Int32)  : Option Int32 :=
  if a5 ≤ a2 then (
   fm_gi kap 11 r0 2 S fun x34 =>
   if (x34 + 1) = 0 then none else (
    some (a4 - a4 / (x34 + 1) * (x34 + 1))
   )
  ) else (
   fm_gi kap 11 r0 2 S fun x17 =>
   if (x17 + 1) = 0 then none else (
    fm_let (a4 / (x17 + 1) : Int32) fun x23 =>
    fm_let (a5 + (-1) : Int32) fun x25 =>
    go8 r0 a2 x23 x25
   )
  )
def b_X11_breathedAt_8 (kap lam : Nat → Nat) (S : fm_M) : Nat → Nat → Int32 → Int32 → Int32 → Option Int32
  | 0 => fun _ _ _ _ => none
  | n + 1 => k_X11_breathedAt_8 kap lam S (b_X11_breathedAt_8 kap lam S n)
def m_X11_breathedAt (kap lam : Nat → Nat) (r0 : Nat) (a1 : Int32) (a2 : Int32) (a3 : Int32) (S : fm_M) : Option Int32 :=
  fm_let (a3 - 1 : Int32) fun x6 =>
  b_X11_breathedAt_8 kap lam S fm_LF r0 a2 a1 x6
set_option maxHeartbeats 4000000 in
set_option maxRecDepth 100000 in
theorem c_X11_breathedAt {l : Launch} {D : va_G} {ids kap lam : Nat → Nat} {RL : List Nat} {ad sk sv : Nat → Nat} {S : fm_M} {r0 : Nat} {a1 : Int32} {a2 : Int32} {a3 : Int32} {r : Int32} (hE : fm_E kap RL ad) (hf : m_X11_breathedAt kap lam r0 a1 a2 a3 S = some r) (sz : Nat) : fm_MI l y_X11_breathedAt prog_1_method_47_code 6 (Option.some Jvm.ClassFile.FieldType.int) 0 D ids kap lam RL ad sk sv S [.ref (ad r0), .int a1, .int a2, .int a3] sz r S := by
  refine fm_open rfl hE (Nat.le_of_ble_eq_true rfl) (fun p e s m args below meth c ls Z hr hlk G F N hl hsz => ?_)
  subst hsz
  obtain ⟨hx, hb, hml, hown, hts⟩ := id Z
  have hl : lv_has ls 6 [(0, .ref (ad r0)), (1, .int a1), (2, .int a2), (3, .int a3)] := hl
  generalize hQ : MQ below _ args s 0 0 (fm_A RL ad s.heap.size) = Qf
  have hL : ∀ n : Nat, (∀ (r0 : Nat) (a2 : Int32) (a4 : Int32) (a5 : Int32)  (H : Heap) (locs : List Loc) (ls : Array Slot), fm_F D ids kap lam RL ad S (fm_A RL ad s.heap.size) s.heap H locs → lv_has ls 6 [(0, .ref (ad r0)), (2, .int a2), (4, .int a4), (5, .int a5)] → b_X11_breathedAt_8 kap lam S n r0 a2 a4 a5 = some r → W p l e (fm_rm 0) s m args below meth c H locs 0 0 Qf (F0 m 8 ls [])) := by
    intro n
    induction n with
    | zero => exact fun _ _ _ _ _ _ _ _ _ hf => absurd hf (by intro h; cases h)
    | succ n ih =>
      intro r0 a2 a4 a5 H locs ls F hl hf
      have hf : k_X11_breathedAt_8 kap lam S (b_X11_breathedAt_8 kap lam S n) r0 a2 a4 a5 = some r := hf
      unfold k_X11_breathedAt_8 at hf
      refine lv_iload hx hb d_X11_breathedAt_8 (lv_at hl 3 rfl) ?_
      refine lv_iload_n hx hb d_X11_breathedAt_10 rfl (lv_at hl 1 rfl) ?_
      refine lv_icmp_le (tgt := 31) hx hb d_X11_breathedAt_11 (by decide) (fun c11 => ?_) (fun c11 => ?_)
      · have hf := fm_ip c11 hf
        refine lv_iload hx hb d_X11_breathedAt_31 (lv_at hl 2 rfl) ?_
        refine lv_aload_n hx hb d_X11_breathedAt_33 rfl (lv_at hl 0 rfl) ?_
        refine fm_rgi Z G F hf fr_X11_23 d_X11_breathedAt_34 (fun x34 _ hf => ?_)
        refine lv_iconst (v := 1) hx hb d_X11_breathedAt_37 (by decide) ?_
        refine lv_iadd hx hb d_X11_breathedAt_38 ?_
        by_cases hz39 : (x34 + 1) = 0
        · rw [if_pos hz39] at hf; cases hf
        have hf := fm_ig hz39 hf
        refine lv_irem hx hb d_X11_breathedAt_39 hz39 ?_
        rw [← hQ]; exact fm_reti Z hr hlk F d_X11_breathedAt_40 (Option.some.inj hf) rfl
      · have hf := fm_ig c11 hf
        refine lv_iload hx hb d_X11_breathedAt_14 (lv_at hl 2 rfl) ?_
        refine lv_aload_n hx hb d_X11_breathedAt_16 rfl (lv_at hl 0 rfl) ?_
        refine fm_rgi Z G F hf fr_X11_23 d_X11_breathedAt_17 (fun x17 _ hf => ?_)
        refine lv_iconst (v := 1) hx hb d_X11_breathedAt_20 (by decide) ?_
        refine lv_iadd hx hb d_X11_breathedAt_21 ?_
        by_cases hz22 : (x17 + 1) = 0
        · rw [if_pos hz22] at hf; cases hf
        have hf := fm_ig hz22 hf
        refine lv_idiv hx hb d_X11_breathedAt_22 hz22 ?_
        refine lv_topi (fun x23 ex23 => ?_)
        have hf := fm_let_at ex23 hf
        refine lv_istore (lv' := [(4, .int x23), (0, .ref (ad r0)), (2, .int a2), (5, .int a5)]) hx hb d_X11_breathedAt_23 hl (by decide) rfl (fun ls hl => ?_)
        obtain ⟨x25, ex25⟩ : ∃ y : Int32, y = a5 + (-1) := ⟨_, rfl⟩
        have hf := fm_let_at ex25 hf
        refine lv_iinc (v := x25) (lv' := [(5, .int x25), (4, .int x23), (0, .ref (ad r0)), (2, .int a2)]) hx hb d_X11_breathedAt_25 hl (k := 3) rfl (by rw [ex25]; rfl) (by decide) rfl (fun ls hl => ?_)
        refine lv_goto (tgt := 8) hx hb d_X11_breathedAt_28 (by decide) ?_
        exact ih r0 a2 x23 x25 _ _ _ F (lv_sub hl [2, 3, 1, 0] rfl) hf
  unfold m_X11_breathedAt at hf
  refine lv_iload_n hx hb d_X11_breathedAt_0 rfl (lv_at hl 1 rfl) ?_
  refine lv_istore (lv' := [(4, .int a1), (0, .ref (ad r0)), (1, .int a1), (2, .int a2), (3, .int a3)]) hx hb d_X11_breathedAt_1 hl (by decide) rfl (fun ls hl => ?_)
  refine lv_iload_n hx hb d_X11_breathedAt_3 rfl (lv_at hl 4 rfl) ?_
  refine lv_iconst (v := 1) hx hb d_X11_breathedAt_4 (by decide) ?_
  refine lv_isub hx hb d_X11_breathedAt_5 ?_
  refine lv_topi (fun x6 ex6 => ?_)
  have hf := fm_let_at ex6 hf
  refine lv_istore (lv' := [(5, .int x6), (4, .int a1), (0, .ref (ad r0)), (1, .int a1), (2, .int a2), (3, .int a3)]) hx hb d_X11_breathedAt_6 hl (by decide) rfl (fun ls hl => ?_)
  exact (hL fm_LF) r0 a2 a1 x6 _ _ _ F (lv_sub hl [2, 4, 1, 0] rfl) hf
theorem d_X11_paidByRow_0 : decode prog_1_method_48_code 0 = .ok (.iconst 0, 1) := by decide +kernel
theorem d_X11_paidByRow_1 : decode prog_1_method_48_code 1 = .ok (.istore_n 3, 1) := by decide +kernel
theorem d_X11_paidByRow_2 : decode prog_1_method_48_code 2 = .ok (.iconst 0, 1) := by decide +kernel
theorem d_X11_paidByRow_3 : decode prog_1_method_48_code 3 = .ok (.istore 4, 2) := by decide +kernel
theorem d_X11_paidByRow_5 : decode prog_1_method_48_code 5 = .ok (.iload 4, 2) := by decide +kernel
theorem d_X11_paidByRow_7 : decode prog_1_method_48_code 7 = .ok (.aload_n 0, 1) := by decide +kernel
theorem d_X11_paidByRow_8 : decode prog_1_method_48_code 8 = .ok (.getfield 23, 3) := by decide +kernel
theorem d_X11_paidByRow_11 : decode prog_1_method_48_code 11 = .ok (.if_icmp .ge 64, 3) := by decide +kernel
theorem d_X11_paidByRow_14 : decode prog_1_method_48_code 14 = .ok (.iconst 0, 1) := by decide +kernel
theorem d_X11_paidByRow_15 : decode prog_1_method_48_code 15 = .ok (.istore 5, 2) := by decide +kernel
theorem d_X11_paidByRow_17 : decode prog_1_method_48_code 17 = .ok (.iconst 0, 1) := by decide +kernel
theorem d_X11_paidByRow_18 : decode prog_1_method_48_code 18 = .ok (.istore 6, 2) := by decide +kernel
theorem d_X11_paidByRow_20 : decode prog_1_method_48_code 20 = .ok (.iload 6, 2) := by decide +kernel
theorem d_X11_paidByRow_22 : decode prog_1_method_48_code 22 = .ok (.iload_n 2, 1) := by decide +kernel
theorem d_X11_paidByRow_23 : decode prog_1_method_48_code 23 = .ok (.if_icmp .ge 31, 3) := by decide +kernel
theorem d_X11_paidByRow_26 : decode prog_1_method_48_code 26 = .ok (.aload_n 0, 1) := by decide +kernel
theorem d_X11_paidByRow_27 : decode prog_1_method_48_code 27 = .ok (.iload_n 1, 1) := by decide +kernel
theorem d_X11_paidByRow_28 : decode prog_1_method_48_code 28 = .ok (.iload 6, 2) := by decide +kernel
theorem d_X11_paidByRow_30 : decode prog_1_method_48_code 30 = .ok (.iload_n 2, 1) := by decide +kernel
theorem d_X11_paidByRow_31 : decode prog_1_method_48_code 31 = .ok (.invokevirtual 198, 3) := by decide +kernel
theorem d_X11_paidByRow_34 : decode prog_1_method_48_code 34 = .ok (.iload 4, 2) := by decide +kernel
theorem d_X11_paidByRow_36 : decode prog_1_method_48_code 36 = .ok (.if_icmp .ne 12, 3) := by decide +kernel
theorem d_X11_paidByRow_39 : decode prog_1_method_48_code 39 = .ok (.iload 5, 2) := by decide +kernel
theorem d_X11_paidByRow_41 : decode prog_1_method_48_code 41 = .ok (.iconst 1, 1) := by decide +kernel
theorem d_X11_paidByRow_42 : decode prog_1_method_48_code 42 = .ok (.iload 6, 2) := by decide +kernel
theorem d_X11_paidByRow_44 : decode prog_1_method_48_code 44 = .ok (.ishl, 1) := by decide +kernel
theorem d_X11_paidByRow_45 : decode prog_1_method_48_code 45 = .ok (.ior, 1) := by decide +kernel
theorem d_X11_paidByRow_46 : decode prog_1_method_48_code 46 = .ok (.istore 5, 2) := by decide +kernel
theorem d_X11_paidByRow_48 : decode prog_1_method_48_code 48 = .ok (.iinc 6 1, 3) := by decide +kernel
theorem d_X11_paidByRow_51 : decode prog_1_method_48_code 51 = .ok (.goto (-31), 3) := by decide +kernel
theorem d_X11_paidByRow_54 : decode prog_1_method_48_code 54 = .ok (.iload_n 3, 1) := by decide +kernel
theorem d_X11_paidByRow_55 : decode prog_1_method_48_code 55 = .ok (.aload_n 0, 1) := by decide +kernel
theorem d_X11_paidByRow_56 : decode prog_1_method_48_code 56 = .ok (.getfield 81, 3) := by decide +kernel
theorem d_X11_paidByRow_59 : decode prog_1_method_48_code 59 = .ok (.iload 4, 2) := by decide +kernel
theorem d_X11_paidByRow_61 : decode prog_1_method_48_code 61 = .ok (.iconst 3, 1) := by decide +kernel
theorem d_X11_paidByRow_62 : decode prog_1_method_48_code 62 = .ok (.ishl, 1) := by decide +kernel
theorem d_X11_paidByRow_63 : decode prog_1_method_48_code 63 = .ok (.iload 5, 2) := by decide +kernel
theorem d_X11_paidByRow_65 : decode prog_1_method_48_code 65 = .ok (.iadd, 1) := by decide +kernel
theorem d_X11_paidByRow_66 : decode prog_1_method_48_code 66 = .ok (.iaload, 1) := by decide +kernel
theorem d_X11_paidByRow_67 : decode prog_1_method_48_code 67 = .ok (.iadd, 1) := by decide +kernel
theorem d_X11_paidByRow_68 : decode prog_1_method_48_code 68 = .ok (.istore_n 3, 1) := by decide +kernel
theorem d_X11_paidByRow_69 : decode prog_1_method_48_code 69 = .ok (.iinc 4 1, 3) := by decide +kernel
theorem d_X11_paidByRow_72 : decode prog_1_method_48_code 72 = .ok (.goto (-67), 3) := by decide +kernel
theorem d_X11_paidByRow_75 : decode prog_1_method_48_code 75 = .ok (.iload_n 3, 1) := by decide +kernel
theorem d_X11_paidByRow_76 : decode prog_1_method_48_code 76 = .ok (.ireturn, 1) := by decide +kernel
def k_X11_paidByRow_5 (kap lam : Nat → Nat) (S : fm_M) (go5 : Nat → Int32 → Int32 → Int32 → Int32 → Option Int32) (go20 : Nat → Int32 → Int32 → Int32 → Int32 → Int32 → Int32 → Option Int32) (r0 : Nat) (a1 : Int32) (a2 : Int32) (a3 : Int32) (a4 : Int32)  : Option Int32 :=
  fm_gi kap 11 r0 2 S fun x8 =>
  if x8 ≤ a4 then (
   some a3
  ) else (
   fm_let (0 : Int32) fun x15 =>
   fm_let (0 : Int32) fun x18 =>
   go20 r0 a1 a2 a3 a4 x15 x18
  )
def k_X11_paidByRow_20 (kap lam : Nat → Nat) (S : fm_M) (go5 : Nat → Int32 → Int32 → Int32 → Int32 → Option Int32) (go20 : Nat → Int32 → Int32 → Int32 → Int32 → Int32 → Int32 → Option Int32) (r0 : Nat) (a1 : Int32) (a2 : Int32) (a3 : Int32) (a4 : Int32) (a5 : Int32) (a6 : Int32)  : Option Int32 :=
  if a2 ≤ a6 then (
   fm_gr kap 11 r0 16 S fun q56 =>
   fm_ld kap lam 13 q56 ((a4 <<< ((3 : Int32) &&& 31)) + a5) S fun x66 =>
   fm_let (a3 + x66 : Int32) fun x68 =>
   fm_let (a4 + 1 : Int32) fun x69 =>
   go5 r0 a1 a2 x68 x69
  ) else (
   fm_ck (kap r0 == 11) <|
   fm_b1 (m_X11_breathedAt kap lam r0 a1 a6 a2 S) fun x31 =>
   if x31 = a4 then (
    fm_let (a5 ||| ((1 : Int32) <<< (a6 &&& 31)) : Int32) fun x46 =>
    fm_let (a6 + 1 : Int32) fun x48 =>
    go20 r0 a1 a2 a3 a4 x46 x48
   ) else (
    fm_let (a6 + 1 : Int32) fun x48 =>
    go20 r0 a1 a2 a3 a4 a5 x48
   )
  )
def bs_X11_paidByRow (kap lam : Nat → Nat) (S : fm_M) : Nat → (Nat → Int32 → Int32 → Int32 → Int32 → Option Int32) × (Nat → Int32 → Int32 → Int32 → Int32 → Int32 → Int32 → Option Int32)
  | 0 => ((fun _ _ _ _ _ => none), (fun _ _ _ _ _ _ _ => none))
  | n + 1 => (k_X11_paidByRow_5 kap lam S (bs_X11_paidByRow kap lam S n).1 (bs_X11_paidByRow kap lam S n).2, k_X11_paidByRow_20 kap lam S (bs_X11_paidByRow kap lam S n).1 (bs_X11_paidByRow kap lam S n).2)
def b_X11_paidByRow_5 (kap lam : Nat → Nat) (S : fm_M) (n : Nat) : Nat → Int32 → Int32 → Int32 → Int32 → Option Int32 := (bs_X11_paidByRow kap lam S n).1
def b_X11_paidByRow_20 (kap lam : Nat → Nat) (S : fm_M) (n : Nat) : Nat → Int32 → Int32 → Int32 → Int32 → Int32 → Int32 → Option Int32 := (bs_X11_paidByRow kap lam S n).2
def m_X11_paidByRow (kap lam : Nat → Nat) (r0 : Nat) (a1 : Int32) (a2 : Int32) (S : fm_M) : Option Int32 :=
  fm_let (0 : Int32) fun x1 =>
  fm_let (0 : Int32) fun x3 =>
  b_X11_paidByRow_5 kap lam S fm_LF r0 a1 a2 x1 x3
set_option maxHeartbeats 4000000 in
set_option maxRecDepth 100000 in
theorem c_X11_paidByRow {l : Launch} {D : va_G} {ids kap lam : Nat → Nat} {RL : List Nat} {ad sk sv : Nat → Nat} {S : fm_M} {r0 : Nat} {a1 : Int32} {a2 : Int32} {r : Int32} (hE : fm_E kap RL ad) (hf : m_X11_paidByRow kap lam r0 a1 a2 S = some r) (sz : Nat) : fm_MI l y_X11_paidByRow prog_1_method_48_code 7 (Option.some Jvm.ClassFile.FieldType.int) 1 D ids kap lam RL ad sk sv S [.ref (ad r0), .int a1, .int a2] sz r S := by
  refine fm_open rfl hE (Nat.le_of_ble_eq_true rfl) (fun p e s m args below meth c ls Z hr hlk G F N hl hsz => ?_)
  subst hsz
  obtain ⟨hx, hb, hml, hown, hts⟩ := id Z
  have hl : lv_has ls 7 [(0, .ref (ad r0)), (1, .int a1), (2, .int a2)] := hl
  generalize hQ : MQ below _ args s 0 0 (fm_A RL ad s.heap.size) = Qf
  have hL : ∀ n : Nat, (∀ (r0 : Nat) (a1 : Int32) (a2 : Int32) (a3 : Int32) (a4 : Int32)  (H : Heap) (locs : List Loc) (ls : Array Slot), fm_F D ids kap lam RL ad S (fm_A RL ad s.heap.size) s.heap H locs → lv_has ls 7 [(0, .ref (ad r0)), (1, .int a1), (2, .int a2), (3, .int a3), (4, .int a4)] → b_X11_paidByRow_5 kap lam S n r0 a1 a2 a3 a4 = some r → W p l e (fm_rm 1) s m args below meth c H locs 0 0 Qf (F0 m 5 ls [])) ∧ (∀ (r0 : Nat) (a1 : Int32) (a2 : Int32) (a3 : Int32) (a4 : Int32) (a5 : Int32) (a6 : Int32)  (H : Heap) (locs : List Loc) (ls : Array Slot), fm_F D ids kap lam RL ad S (fm_A RL ad s.heap.size) s.heap H locs → lv_has ls 7 [(0, .ref (ad r0)), (1, .int a1), (2, .int a2), (3, .int a3), (4, .int a4), (5, .int a5), (6, .int a6)] → b_X11_paidByRow_20 kap lam S n r0 a1 a2 a3 a4 a5 a6 = some r → W p l e (fm_rm 1) s m args below meth c H locs 0 0 Qf (F0 m 20 ls [])) := by
    intro n
    induction n with
    | zero => exact ⟨fun _ _ _ _ _ _ _ _ _ _ hf => absurd hf (by intro h; cases h), fun _ _ _ _ _ _ _ _ _ _ _ _ hf => absurd hf (by intro h; cases h)⟩
    | succ n ih =>
      refine ⟨?_, ?_⟩
      · intro r0 a1 a2 a3 a4 H locs ls F hl hf
        have hf : k_X11_paidByRow_5 kap lam S (b_X11_paidByRow_5 kap lam S n) (b_X11_paidByRow_20 kap lam S n) r0 a1 a2 a3 a4 = some r := hf
        unfold k_X11_paidByRow_5 at hf
        refine lv_iload hx hb d_X11_paidByRow_5 (lv_at hl 4 rfl) ?_
        refine lv_aload_n hx hb d_X11_paidByRow_7 rfl (lv_at hl 0 rfl) ?_
        refine fm_rgi Z G F hf fr_X11_23 d_X11_paidByRow_8 (fun x8 _ hf => ?_)
        refine lv_icmp_ge (tgt := 75) hx hb d_X11_paidByRow_11 (by decide) (fun c11 => ?_) (fun c11 => ?_)
        · have hf := fm_ip c11 hf
          refine lv_iload_n hx hb d_X11_paidByRow_75 rfl (lv_at hl 3 rfl) ?_
          rw [← hQ]; exact fm_reti Z hr hlk F d_X11_paidByRow_76 (Option.some.inj hf) rfl
        · have hf := fm_ig c11 hf
          refine lv_iconst (v := 0) hx hb d_X11_paidByRow_14 (by decide) ?_
          refine lv_topi (fun x15 ex15 => ?_)
          have hf := fm_let_at ex15 hf
          refine lv_istore (lv' := [(5, .int x15), (0, .ref (ad r0)), (1, .int a1), (2, .int a2), (3, .int a3), (4, .int a4)]) hx hb d_X11_paidByRow_15 hl (by decide) rfl (fun ls hl => ?_)
          refine lv_iconst (v := 0) hx hb d_X11_paidByRow_17 (by decide) ?_
          refine lv_topi (fun x18 ex18 => ?_)
          have hf := fm_let_at ex18 hf
          refine lv_istore (lv' := [(6, .int x18), (5, .int x15), (0, .ref (ad r0)), (1, .int a1), (2, .int a2), (3, .int a3), (4, .int a4)]) hx hb d_X11_paidByRow_18 hl (by decide) rfl (fun ls hl => ?_)
          exact (ih).2 r0 a1 a2 a3 a4 x15 x18 _ _ _ F (lv_sub hl [2, 3, 4, 5, 6, 1, 0] rfl) hf
      · intro r0 a1 a2 a3 a4 a5 a6 H locs ls F hl hf
        have hf : k_X11_paidByRow_20 kap lam S (b_X11_paidByRow_5 kap lam S n) (b_X11_paidByRow_20 kap lam S n) r0 a1 a2 a3 a4 a5 a6 = some r := hf
        unfold k_X11_paidByRow_20 at hf
        refine lv_iload hx hb d_X11_paidByRow_20 (lv_at hl 6 rfl) ?_
        refine lv_iload_n hx hb d_X11_paidByRow_22 rfl (lv_at hl 2 rfl) ?_
        refine lv_icmp_ge (tgt := 54) hx hb d_X11_paidByRow_23 (by decide) (fun c23 => ?_) (fun c23 => ?_)
        · have hf := fm_ip c23 hf
          refine lv_iload_n hx hb d_X11_paidByRow_54 rfl (lv_at hl 3 rfl) ?_
          refine lv_aload_n hx hb d_X11_paidByRow_55 rfl (lv_at hl 0 rfl) ?_
          refine fm_rgr Z G F hf fr_X11_81 d_X11_paidByRow_56 (fun q56 _ hf => ?_)
          refine lv_iload hx hb d_X11_paidByRow_59 (lv_at hl 4 rfl) ?_
          refine lv_iconst (v := 3) hx hb d_X11_paidByRow_61 (by decide) ?_
          refine lv_ishl hx hb d_X11_paidByRow_62 ?_
          refine lv_iload hx hb d_X11_paidByRow_63 (lv_at hl 5 rfl) ?_
          refine lv_iadd hx hb d_X11_paidByRow_65 ?_
          refine fm_rld Z G F hf d_X11_paidByRow_66 (fun x66 _ hf => ?_)
          refine lv_iadd hx hb d_X11_paidByRow_67 ?_
          refine lv_topi (fun x68 ex68 => ?_)
          have hf := fm_let_at ex68 hf
          refine lv_istore_n (lv' := [(3, .int x68), (0, .ref (ad r0)), (1, .int a1), (2, .int a2), (4, .int a4), (5, .int a5), (6, .int a6)]) hx hb d_X11_paidByRow_68 rfl hl (by decide) rfl (fun ls hl => ?_)
          obtain ⟨x69, ex69⟩ : ∃ y : Int32, y = a4 + 1 := ⟨_, rfl⟩
          have hf := fm_let_at ex69 hf
          refine lv_iinc (v := x69) (lv' := [(4, .int x69), (3, .int x68), (0, .ref (ad r0)), (1, .int a1), (2, .int a2), (5, .int a5), (6, .int a6)]) hx hb d_X11_paidByRow_69 hl (k := 4) rfl (by rw [ex69]; rfl) (by decide) rfl (fun ls hl => ?_)
          refine lv_goto (tgt := 5) hx hb d_X11_paidByRow_72 (by decide) ?_
          exact (ih).1 r0 a1 a2 x68 x69 _ _ _ F (lv_sub hl [2, 3, 4, 1, 0] rfl) hf
        · have hf := fm_ig c23 hf
          refine lv_aload_n hx hb d_X11_paidByRow_26 rfl (lv_at hl 0 rfl) ?_
          refine lv_iload_n hx hb d_X11_paidByRow_27 rfl (lv_at hl 1 rfl) ?_
          refine lv_iload hx hb d_X11_paidByRow_28 (lv_at hl 6 rfl) ?_
          refine lv_iload_n hx hb d_X11_paidByRow_30 rfl (lv_at hl 2 rfl) ?_
          obtain ⟨hk31, hf⟩ := fm_some hf
          refine fm_rcr G F hf (fun r ho => fm_runV (k := 3) Z G F N (As := [.int a1, .int a6, .int a2]) (rest := []) (c_X11_breathedAt hE ho _) (by rw [eq_of_beq hk31]; decide) (by rw [eq_of_beq hk31]; rfl) kw_730 kw_732 kp_23 kw_1 kw_733 yd_X11_breathedAt rfl (by decide) (by decide) hl.1 (Nat.le_of_ble_eq_true rfl) d_X11_paidByRow_31 (Nat.le_refl 0) (Nat.le_refl 0)) (fun x31 H locs _ F hf => ?_)
          refine lv_iload hx hb d_X11_paidByRow_34 (lv_at hl 4 rfl) ?_
          refine lv_icmp_ne (tgt := 48) hx hb d_X11_paidByRow_36 (by decide) (fun c36 => ?_) (fun c36 => ?_)
          · have hf := fm_ig c36 hf
            obtain ⟨x48, ex48⟩ : ∃ y : Int32, y = a6 + 1 := ⟨_, rfl⟩
            have hf := fm_let_at ex48 hf
            refine lv_iinc (v := x48) (lv' := [(6, .int x48), (0, .ref (ad r0)), (1, .int a1), (2, .int a2), (3, .int a3), (4, .int a4), (5, .int a5)]) hx hb d_X11_paidByRow_48 hl (k := 6) rfl (by rw [ex48]; rfl) (by decide) rfl (fun ls hl => ?_)
            refine lv_goto (tgt := 20) hx hb d_X11_paidByRow_51 (by decide) ?_
            exact (ih).2 r0 a1 a2 a3 a4 a5 x48 _ _ _ F (lv_sub hl [1, 2, 3, 4, 5, 6, 0] rfl) hf
          · have hf := fm_ip c36 hf
            refine lv_iload hx hb d_X11_paidByRow_39 (lv_at hl 5 rfl) ?_
            refine lv_iconst (v := 1) hx hb d_X11_paidByRow_41 (by decide) ?_
            refine lv_iload hx hb d_X11_paidByRow_42 (lv_at hl 6 rfl) ?_
            refine lv_ishl hx hb d_X11_paidByRow_44 ?_
            refine lv_ior hx hb d_X11_paidByRow_45 ?_
            refine lv_topi (fun x46 ex46 => ?_)
            have hf := fm_let_at ex46 hf
            refine lv_istore (lv' := [(5, .int x46), (0, .ref (ad r0)), (1, .int a1), (2, .int a2), (3, .int a3), (4, .int a4), (6, .int a6)]) hx hb d_X11_paidByRow_46 hl (by decide) rfl (fun ls hl => ?_)
            obtain ⟨x48, ex48⟩ : ∃ y : Int32, y = a6 + 1 := ⟨_, rfl⟩
            have hf := fm_let_at ex48 hf
            refine lv_iinc (v := x48) (lv' := [(6, .int x48), (5, .int x46), (0, .ref (ad r0)), (1, .int a1), (2, .int a2), (3, .int a3), (4, .int a4)]) hx hb d_X11_paidByRow_48 hl (k := 6) rfl (by rw [ex48]; rfl) (by decide) rfl (fun ls hl => ?_)
            refine lv_goto (tgt := 20) hx hb d_X11_paidByRow_51 (by decide) ?_
            exact (ih).2 r0 a1 a2 a3 a4 x46 x48 _ _ _ F (lv_sub hl [2, 3, 4, 5, 6, 1, 0] rfl) hf
  unfold m_X11_paidByRow at hf
  refine lv_iconst (v := 0) hx hb d_X11_paidByRow_0 (by decide) ?_
  refine lv_topi (fun x1 ex1 => ?_)
  have hf := fm_let_at ex1 hf
  refine lv_istore_n (lv' := [(3, .int x1), (0, .ref (ad r0)), (1, .int a1), (2, .int a2)]) hx hb d_X11_paidByRow_1 rfl hl (by decide) rfl (fun ls hl => ?_)
  refine lv_iconst (v := 0) hx hb d_X11_paidByRow_2 (by decide) ?_
  refine lv_topi (fun x3 ex3 => ?_)
  have hf := fm_let_at ex3 hf
  refine lv_istore (lv' := [(4, .int x3), (3, .int x1), (0, .ref (ad r0)), (1, .int a1), (2, .int a2)]) hx hb d_X11_paidByRow_3 hl (by decide) rfl (fun ls hl => ?_)
  exact (hL fm_LF).1 r0 a1 a2 x1 x3 _ _ _ F (lv_sub hl [2, 3, 4, 1, 0] rfl) hf
theorem d_X11_partOf_0 : decode prog_1_method_49_code 0 = .ok (.iload_n 2, 1) := by decide +kernel
theorem d_X11_partOf_1 : decode prog_1_method_49_code 1 = .ok (.ifCond .ne 7, 3) := by decide +kernel
theorem d_X11_partOf_4 : decode prog_1_method_49_code 4 = .ok (.iload_n 0, 1) := by decide +kernel
theorem d_X11_partOf_5 : decode prog_1_method_49_code 5 = .ok (.goto 4, 3) := by decide +kernel
theorem d_X11_partOf_8 : decode prog_1_method_49_code 8 = .ok (.iload_n 1, 1) := by decide +kernel
theorem d_X11_partOf_9 : decode prog_1_method_49_code 9 = .ok (.istore_n 3, 1) := by decide +kernel
theorem d_X11_partOf_10 : decode prog_1_method_49_code 10 = .ok (.iload_n 1, 1) := by decide +kernel
theorem d_X11_partOf_11 : decode prog_1_method_49_code 11 = .ok (.istore 4, 2) := by decide +kernel
theorem d_X11_partOf_13 : decode prog_1_method_49_code 13 = .ok (.iload 4, 2) := by decide +kernel
theorem d_X11_partOf_15 : decode prog_1_method_49_code 15 = .ok (.iconst 1, 1) := by decide +kernel
theorem d_X11_partOf_16 : decode prog_1_method_49_code 16 = .ok (.if_icmp .le 29, 3) := by decide +kernel
theorem d_X11_partOf_19 : decode prog_1_method_49_code 19 = .ok (.iload_n 0, 1) := by decide +kernel
theorem d_X11_partOf_20 : decode prog_1_method_49_code 20 = .ok (.iload 4, 2) := by decide +kernel
theorem d_X11_partOf_22 : decode prog_1_method_49_code 22 = .ok (.irem, 1) := by decide +kernel
theorem d_X11_partOf_23 : decode prog_1_method_49_code 23 = .ok (.ifCond .ne 16, 3) := by decide +kernel
theorem d_X11_partOf_26 : decode prog_1_method_49_code 26 = .ok (.iload_n 1, 1) := by decide +kernel
theorem d_X11_partOf_27 : decode prog_1_method_49_code 27 = .ok (.iload 4, 2) := by decide +kernel
theorem d_X11_partOf_29 : decode prog_1_method_49_code 29 = .ok (.irem, 1) := by decide +kernel
theorem d_X11_partOf_30 : decode prog_1_method_49_code 30 = .ok (.ifCond .ne 9, 3) := by decide +kernel
theorem d_X11_partOf_33 : decode prog_1_method_49_code 33 = .ok (.iload_n 3, 1) := by decide +kernel
theorem d_X11_partOf_34 : decode prog_1_method_49_code 34 = .ok (.iload 4, 2) := by decide +kernel
theorem d_X11_partOf_36 : decode prog_1_method_49_code 36 = .ok (.idiv, 1) := by decide +kernel
theorem d_X11_partOf_37 : decode prog_1_method_49_code 37 = .ok (.i2l, 1) := by decide +kernel
theorem d_X11_partOf_38 : decode prog_1_method_49_code 38 = .ok (.lreturn, 1) := by decide +kernel
theorem d_X11_partOf_39 : decode prog_1_method_49_code 39 = .ok (.iinc 4 (-1), 3) := by decide +kernel
theorem d_X11_partOf_42 : decode prog_1_method_49_code 42 = .ok (.goto (-29), 3) := by decide +kernel
theorem d_X11_partOf_45 : decode prog_1_method_49_code 45 = .ok (.iload_n 3, 1) := by decide +kernel
theorem d_X11_partOf_46 : decode prog_1_method_49_code 46 = .ok (.i2l, 1) := by decide +kernel
theorem d_X11_partOf_47 : decode prog_1_method_49_code 47 = .ok (.lreturn, 1) := by decide +kernel
def k_X11_partOf_13 (kap lam : Nat → Nat) (S : fm_M) (go13 : Int32 → Int32 → Int32 → Int32 → Option Int64) (a0 : Int32) (a1 : Int32) (a3 : Int32) (a4 : Int32)  : Option Int64 :=
  if a4 ≤ 1 then (
   some (a3.toInt64)
  ) else (
   if a4 = 0 then none else (
    if (a0 - a0 / a4 * a4) = 0 then (
     if a4 = 0 then none else (
      if (a1 - a1 / a4 * a4) = 0 then (
       if a4 = 0 then none else (
        some ((a3 / a4).toInt64)
       )
      ) else (
       fm_let (a4 + (-1) : Int32) fun x39 =>
       go13 a0 a1 a3 x39
      )
     )
    ) else (
     fm_let (a4 + (-1) : Int32) fun x39 =>
     go13 a0 a1 a3 x39
    )
   )
  )
def b_X11_partOf_13 (kap lam : Nat → Nat) (S : fm_M) : Nat → Int32 → Int32 → Int32 → Int32 → Option Int64
  | 0 => fun _ _ _ _ => none
  | n + 1 => k_X11_partOf_13 kap lam S (b_X11_partOf_13 kap lam S n)
def m_X11_partOf (kap lam : Nat → Nat) (a0 : Int32) (a1 : Int32) (a2 : Int32) (S : fm_M) : Option Int64 :=
  if a2 = 0 then (
   b_X11_partOf_13 kap lam S fm_LF a0 a1 a0 a1
  ) else (
   b_X11_partOf_13 kap lam S fm_LF a0 a1 a1 a1
  )
set_option maxHeartbeats 4000000 in
set_option maxRecDepth 100000 in
theorem c_X11_partOf {l : Launch} {D : va_G} {ids kap lam : Nat → Nat} {RL : List Nat} {ad sk sv : Nat → Nat} {S : fm_M} {a0 : Int32} {a1 : Int32} {a2 : Int32} {r : Int64} (hE : fm_E kap RL ad) (hf : m_X11_partOf kap lam a0 a1 a2 S = some r) (sz : Nat) : fm_ML l y_X11_partOf prog_1_method_49_code 5 (Option.some Jvm.ClassFile.FieldType.long) 0 D ids kap lam RL ad sk sv S [.int a0, .int a1, .int a2] sz r S := by
  refine fm_open rfl hE (Nat.le_of_ble_eq_true rfl) (fun p e s m args below meth c ls Z hr hlk G F N hl hsz => ?_)
  subst hsz
  obtain ⟨hx, hb, hml, hown, hts⟩ := id Z
  have hl : lv_has ls 5 [(0, .int a0), (1, .int a1), (2, .int a2)] := hl
  generalize hQ : MQ below _ args s 0 0 (fm_A RL ad s.heap.size) = Qf
  have hL : ∀ n : Nat, (∀ (a0 : Int32) (a1 : Int32) (a3 : Int32) (a4 : Int32)  (H : Heap) (locs : List Loc) (ls : Array Slot), fm_F D ids kap lam RL ad S (fm_A RL ad s.heap.size) s.heap H locs → lv_has ls 5 [(0, .int a0), (1, .int a1), (3, .int a3), (4, .int a4)] → b_X11_partOf_13 kap lam S n a0 a1 a3 a4 = some r → W p l e (fm_rm 0) s m args below meth c H locs 0 0 Qf (F0 m 13 ls [])) := by
    intro n
    induction n with
    | zero => exact fun _ _ _ _ _ _ _ _ _ hf => absurd hf (by intro h; cases h)
    | succ n ih =>
      intro a0 a1 a3 a4 H locs ls F hl hf
      have hf : k_X11_partOf_13 kap lam S (b_X11_partOf_13 kap lam S n) a0 a1 a3 a4 = some r := hf
      unfold k_X11_partOf_13 at hf
      refine lv_iload hx hb d_X11_partOf_13 (lv_at hl 3 rfl) ?_
      refine lv_iconst (v := 1) hx hb d_X11_partOf_15 (by decide) ?_
      refine lv_icmp_le (tgt := 45) hx hb d_X11_partOf_16 (by decide) (fun c16 => ?_) (fun c16 => ?_)
      · have hf := fm_ip c16 hf
        refine lv_iload_n hx hb d_X11_partOf_45 rfl (lv_at hl 2 rfl) ?_
        refine lv_i2l hx hb d_X11_partOf_46 rfl ?_
        rw [← hQ]; exact fm_retl Z hr hlk F d_X11_partOf_47 (Option.some.inj hf) rfl
      · have hf := fm_ig c16 hf
        refine lv_iload_n hx hb d_X11_partOf_19 rfl (lv_at hl 0 rfl) ?_
        refine lv_iload hx hb d_X11_partOf_20 (lv_at hl 3 rfl) ?_
        by_cases hz22 : a4 = 0
        · rw [if_pos hz22] at hf; cases hf
        have hf := fm_ig hz22 hf
        refine lv_irem hx hb d_X11_partOf_22 hz22 ?_
        refine lv_if_ne (tgt := 39) hx hb d_X11_partOf_23 (by decide) (fun c23 => ?_) (fun c23 => ?_)
        · have hf := fm_ig c23 hf
          obtain ⟨x39, ex39⟩ : ∃ y : Int32, y = a4 + (-1) := ⟨_, rfl⟩
          have hf := fm_let_at ex39 hf
          refine lv_iinc (v := x39) (lv' := [(4, .int x39), (0, .int a0), (1, .int a1), (3, .int a3)]) hx hb d_X11_partOf_39 hl (k := 3) rfl (by rw [ex39]; rfl) (by decide) rfl (fun ls hl => ?_)
          refine lv_goto (tgt := 13) hx hb d_X11_partOf_42 (by decide) ?_
          exact ih a0 a1 a3 x39 _ _ _ F (lv_sub hl [1, 2, 3, 0] rfl) hf
        · have hf := fm_ip c23 hf
          refine lv_iload_n hx hb d_X11_partOf_26 rfl (lv_at hl 1 rfl) ?_
          refine lv_iload hx hb d_X11_partOf_27 (lv_at hl 3 rfl) ?_
          by_cases hz29 : a4 = 0
          · rw [if_pos hz29] at hf; cases hf
          have hf := fm_ig hz29 hf
          refine lv_irem hx hb d_X11_partOf_29 hz29 ?_
          refine lv_if_ne (tgt := 39) hx hb d_X11_partOf_30 (by decide) (fun c30 => ?_) (fun c30 => ?_)
          · have hf := fm_ig c30 hf
            obtain ⟨x39, ex39⟩ : ∃ y : Int32, y = a4 + (-1) := ⟨_, rfl⟩
            have hf := fm_let_at ex39 hf
            refine lv_iinc (v := x39) (lv' := [(4, .int x39), (0, .int a0), (1, .int a1), (3, .int a3)]) hx hb d_X11_partOf_39 hl (k := 3) rfl (by rw [ex39]; rfl) (by decide) rfl (fun ls hl => ?_)
            refine lv_goto (tgt := 13) hx hb d_X11_partOf_42 (by decide) ?_
            exact ih a0 a1 a3 x39 _ _ _ F (lv_sub hl [1, 2, 3, 0] rfl) hf
          · have hf := fm_ip c30 hf
            refine lv_iload_n hx hb d_X11_partOf_33 rfl (lv_at hl 2 rfl) ?_
            refine lv_iload hx hb d_X11_partOf_34 (lv_at hl 3 rfl) ?_
            by_cases hz36 : a4 = 0
            · rw [if_pos hz36] at hf; cases hf
            have hf := fm_ig hz36 hf
            refine lv_idiv hx hb d_X11_partOf_36 hz36 ?_
            refine lv_i2l hx hb d_X11_partOf_37 rfl ?_
            rw [← hQ]; exact fm_retl Z hr hlk F d_X11_partOf_38 (Option.some.inj hf) rfl
  unfold m_X11_partOf at hf
  refine lv_iload_n hx hb d_X11_partOf_0 rfl (lv_at hl 2 rfl) ?_
  refine lv_if_ne (tgt := 8) hx hb d_X11_partOf_1 (by decide) (fun c1 => ?_) (fun c1 => ?_)
  · have hf := fm_ig c1 hf
    refine lv_iload_n hx hb d_X11_partOf_8 rfl (lv_at hl 1 rfl) ?_
    refine lv_istore_n (lv' := [(3, .int a1), (0, .int a0), (1, .int a1), (2, .int a2)]) hx hb d_X11_partOf_9 rfl hl (by decide) rfl (fun ls hl => ?_)
    refine lv_iload_n hx hb d_X11_partOf_10 rfl (lv_at hl 2 rfl) ?_
    refine lv_istore (lv' := [(4, .int a1), (3, .int a1), (0, .int a0), (1, .int a1), (2, .int a2)]) hx hb d_X11_partOf_11 hl (by decide) rfl (fun ls hl => ?_)
    exact (hL fm_LF) a0 a1 a1 a1 _ _ _ F (lv_sub hl [2, 3, 1, 0] rfl) hf
  · have hf := fm_ip c1 hf
    refine lv_iload_n hx hb d_X11_partOf_4 rfl (lv_at hl 0 rfl) ?_
    refine lv_goto (tgt := 9) hx hb d_X11_partOf_5 (by decide) ?_
    refine lv_istore_n (lv' := [(3, .int a0), (0, .int a0), (1, .int a1), (2, .int a2)]) hx hb d_X11_partOf_9 rfl hl (by decide) rfl (fun ls hl => ?_)
    refine lv_iload_n hx hb d_X11_partOf_10 rfl (lv_at hl 2 rfl) ?_
    refine lv_istore (lv' := [(4, .int a1), (3, .int a0), (0, .int a0), (1, .int a1), (2, .int a2)]) hx hb d_X11_partOf_11 hl (by decide) rfl (fun ls hl => ?_)
    exact (hL fm_LF) a0 a1 a0 a1 _ _ _ F (lv_sub hl [2, 3, 1, 0] rfl) hf
theorem d_X11_feed_0 : decode prog_1_method_2_code 0 = .ok (.iload_n 1, 1) := by decide +kernel
theorem d_X11_feed_1 : decode prog_1_method_2_code 1 = .ok (.bipush 127, 2) := by decide +kernel
theorem d_X11_feed_3 : decode prog_1_method_2_code 3 = .ok (.invokestatic 85, 3) := by decide +kernel
theorem d_X11_feed_6 : decode prog_1_method_2_code 6 = .ok (.ifCond .ne 6, 3) := by decide +kernel
theorem d_X11_feed_9 : decode prog_1_method_2_code 9 = .ok (.bipush (-2), 2) := by decide +kernel
theorem d_X11_feed_11 : decode prog_1_method_2_code 11 = .ok (.ireturn, 1) := by decide +kernel
theorem d_X11_feed_12 : decode prog_1_method_2_code 12 = .ok (.aload_n 0, 1) := by decide +kernel
theorem d_X11_feed_13 : decode prog_1_method_2_code 13 = .ok (.getfield 46, 3) := by decide +kernel
theorem d_X11_feed_16 : decode prog_1_method_2_code 16 = .ok (.invokevirtual 89, 3) := by decide +kernel
theorem d_X11_feed_19 : decode prog_1_method_2_code 19 = .ok (.ifCond .eq 6, 3) := by decide +kernel
theorem d_X11_feed_22 : decode prog_1_method_2_code 22 = .ok (.bipush (-4), 2) := by decide +kernel
theorem d_X11_feed_24 : decode prog_1_method_2_code 24 = .ok (.ireturn, 1) := by decide +kernel
theorem d_X11_feed_25 : decode prog_1_method_2_code 25 = .ok (.aload_n 0, 1) := by decide +kernel
theorem d_X11_feed_26 : decode prog_1_method_2_code 26 = .ok (.getfield 46, 3) := by decide +kernel
theorem d_X11_feed_29 : decode prog_1_method_2_code 29 = .ok (.iload_n 1, 1) := by decide +kernel
theorem d_X11_feed_30 : decode prog_1_method_2_code 30 = .ok (.iconst 0, 1) := by decide +kernel
theorem d_X11_feed_31 : decode prog_1_method_2_code 31 = .ok (.iconst 0, 1) := by decide +kernel
theorem d_X11_feed_32 : decode prog_1_method_2_code 32 = .ok (.invokevirtual 93, 3) := by decide +kernel
theorem d_X11_feed_35 : decode prog_1_method_2_code 35 = .ok (.pop, 1) := by decide +kernel
theorem d_X11_feed_36 : decode prog_1_method_2_code 36 = .ok (.aload_n 0, 1) := by decide +kernel
theorem d_X11_feed_37 : decode prog_1_method_2_code 37 = .ok (.getfield 46, 3) := by decide +kernel
theorem d_X11_feed_40 : decode prog_1_method_2_code 40 = .ok (.invokevirtual 97, 3) := by decide +kernel
theorem d_X11_feed_43 : decode prog_1_method_2_code 43 = .ok (.ireturn, 1) := by decide +kernel
def m_X11_feed (kap lam : Nat → Nat) (r0 : Nat) (a1 : Int32) (S : fm_M) : Option (Int32 × fm_M) :=
  fm_b1 (m_X11_isWithin kap lam a1 127 S) fun x3 =>
  if x3 = 0 then (
   some ((-2), S)
  ) else (
   fm_gr kap 11 r0 6 S fun q13 =>
   fm_ck (kap q13 == 8) <|
   fm_b1 (m_X8_isFull kap lam q13 S) fun x16 =>
   if x16 = 0 then (
    fm_gr kap 11 r0 6 S fun q26 =>
    fm_ck (kap q26 == 8) <|
    fm_bi (m_X8_add kap lam q26 a1 0 0 S) fun x32 S32 =>
    fm_gr kap 11 r0 6 S32 fun q37 =>
    fm_ck (kap q37 == 8) <|
    fm_b1 (m_X8_size kap lam q37 S32) fun x40 =>
    some (x40, S32)
   ) else (
    some ((-4), S)
   )
  )
set_option maxHeartbeats 4000000 in
set_option maxRecDepth 100000 in
theorem c_X11_feed {l : Launch} {D : va_G} {ids kap lam : Nat → Nat} {RL : List Nat} {ad sk sv : Nat → Nat} {S : fm_M} {r0 : Nat} {a1 : Int32} {r : Int32} {u : fm_M} (hE : fm_E kap RL ad) (hf : m_X11_feed kap lam r0 a1 S = some (r, u)) (sz : Nat) : fm_MI l y_X11_feed prog_1_method_2_code 2 (Option.some Jvm.ClassFile.FieldType.int) 2 D ids kap lam RL ad sk sv S [.ref (ad r0), .int a1] sz r u := by
  refine fm_open rfl hE (Nat.le_of_ble_eq_true rfl) (fun p e s m args below meth c ls Z hr hlk G F N hl hsz => ?_)
  subst hsz
  obtain ⟨hx, hb, hml, hown, hts⟩ := id Z
  have hl : lv_has ls 2 [(0, .ref (ad r0)), (1, .int a1)] := hl
  unfold m_X11_feed at hf
  refine lv_iload_n hx hb d_X11_feed_0 rfl (lv_at hl 1 rfl) ?_
  refine lv_bipush (v := 127) hx hb d_X11_feed_1 (by decide) ?_
  refine fm_rcr G F hf (fun r ho => fm_runS (k := 2) Z G F N (As := [.int a1, .int 127]) (rest := []) (c_X11_isWithin hE ho _) kw_182 kw_183 kw_1 kw_184 yd_X11_isWithin rfl (by decide) (by decide) hl.1 (Nat.le_of_ble_eq_true rfl) d_X11_feed_3 (Nat.le_refl 0) (Nat.le_refl 0)) (fun x3 H locs _ F hf => ?_)
  refine lv_if_ne (tgt := 12) hx hb d_X11_feed_6 (by decide) (fun c6 => ?_) (fun c6 => ?_)
  · have hf := fm_ig c6 hf
    refine lv_aload_n hx hb d_X11_feed_12 rfl (lv_at hl 0 rfl) ?_
    refine fm_rgr Z G F hf fr_X11_46 d_X11_feed_13 (fun q13 _ hf => ?_)
    obtain ⟨hk16, hf⟩ := fm_some hf
    refine fm_rcr G F hf (fun r ho => fm_runV (k := 0) Z G F N (As := []) (rest := []) (c_X8_isFull hE ho _) (by rw [eq_of_beq hk16]; decide) (by rw [eq_of_beq hk16]; rfl) kw_185 kw_186 kw_187 kw_3 kw_188 yd_X8_isFull rfl (by decide) (by decide) hl.1 (Nat.le_of_ble_eq_true rfl) d_X11_feed_16 (Nat.le_refl 0) (Nat.le_refl 0)) (fun x16 H locs _ F hf => ?_)
    refine lv_if_eq (tgt := 25) hx hb d_X11_feed_19 (by decide) (fun c19 => ?_) (fun c19 => ?_)
    · have hf := fm_ip c19 hf
      refine lv_aload_n hx hb d_X11_feed_25 rfl (lv_at hl 0 rfl) ?_
      refine fm_rgr Z G F hf fr_X11_46 d_X11_feed_26 (fun q26 _ hf => ?_)
      refine lv_iload_n hx hb d_X11_feed_29 rfl (lv_at hl 1 rfl) ?_
      refine lv_iconst (v := 0) hx hb d_X11_feed_30 (by decide) ?_
      refine lv_iconst (v := 0) hx hb d_X11_feed_31 (by decide) ?_
      obtain ⟨hk32, hf⟩ := fm_some hf
      refine fm_rci G F hf (fun r u ho => fm_runV (k := 3) Z G F N (As := [.int a1, .int 0, .int 0]) (rest := []) (c_X8_add hE ho _) (by rw [eq_of_beq hk32]; decide) (by rw [eq_of_beq hk32]; rfl) kw_189 kw_190 kw_191 kw_3 kw_192 yd_X8_add rfl (by decide) (by decide) hl.1 (Nat.le_of_ble_eq_true rfl) d_X11_feed_32 (Nat.le_refl 0) (Nat.le_refl 0)) (fun x32 S32 H locs _ F hf => ?_)
      refine lv_pop hx hb d_X11_feed_35 rfl ?_
      refine lv_aload_n hx hb d_X11_feed_36 rfl (lv_at hl 0 rfl) ?_
      refine fm_rgr Z G F hf fr_X11_46 d_X11_feed_37 (fun q37 _ hf => ?_)
      obtain ⟨hk40, hf⟩ := fm_some hf
      refine fm_rcr G F hf (fun r ho => fm_runV (k := 0) Z G F N (As := []) (rest := []) (c_X8_size hE ho _) (by rw [eq_of_beq hk40]; decide) (by rw [eq_of_beq hk40]; rfl) kw_193 kw_194 kw_195 kw_3 kw_196 yd_X8_size rfl (by decide) (by decide) hl.1 (Nat.le_of_ble_eq_true rfl) d_X11_feed_40 (Nat.le_refl 0) (Nat.le_refl 0)) (fun x40 H locs _ F hf => ?_)
      exact fm_reti Z hr hlk F d_X11_feed_43 (Prod.mk.inj (Option.some.inj hf)).1 (Prod.mk.inj (Option.some.inj hf)).2
    · have hf := fm_ig c19 hf
      refine lv_bipush (v := (-4)) hx hb d_X11_feed_22 (by decide) ?_
      exact fm_reti Z hr hlk F d_X11_feed_24 (Prod.mk.inj (Option.some.inj hf)).1 (Prod.mk.inj (Option.some.inj hf)).2
  · have hf := fm_ip c6 hf
    refine lv_bipush (v := (-2)) hx hb d_X11_feed_9 (by decide) ?_
    exact fm_reti Z hr hlk F d_X11_feed_11 (Prod.mk.inj (Option.some.inj hf)).1 (Prod.mk.inj (Option.some.inj hf)).2
theorem d_X11_of_0 : decode prog_1_method_5_code 0 = .ok (.aload_n 0, 1) := by decide +kernel
theorem d_X11_of_1 : decode prog_1_method_5_code 1 = .ok (.iload_n 1, 1) := by decide +kernel
theorem d_X11_of_2 : decode prog_1_method_5_code 2 = .ok (.invokevirtual 115, 3) := by decide +kernel
theorem d_X11_of_5 : decode prog_1_method_5_code 5 = .ok (.ifCond .ne 5, 3) := by decide +kernel
theorem d_X11_of_8 : decode prog_1_method_5_code 8 = .ok (.iconst (-1), 1) := by decide +kernel
theorem d_X11_of_9 : decode prog_1_method_5_code 9 = .ok (.ireturn, 1) := by decide +kernel
theorem d_X11_of_10 : decode prog_1_method_5_code 10 = .ok (.aload_n 0, 1) := by decide +kernel
theorem d_X11_of_11 : decode prog_1_method_5_code 11 = .ok (.getfield 13, 3) := by decide +kernel
theorem d_X11_of_14 : decode prog_1_method_5_code 14 = .ok (.iload_n 1, 1) := by decide +kernel
theorem d_X11_of_15 : decode prog_1_method_5_code 15 = .ok (.aaload, 1) := by decide +kernel
theorem d_X11_of_16 : decode prog_1_method_5_code 16 = .ok (.astore_n 3, 1) := by decide +kernel
theorem d_X11_of_17 : decode prog_1_method_5_code 17 = .ok (.iload_n 2, 1) := by decide +kernel
theorem d_X11_of_18 : decode prog_1_method_5_code 18 = .ok (.tableswitch 83 0 5 #[38, 43, 48, 53, 58, 71], 38) := by decide +kernel
theorem d_X11_of_56 : decode prog_1_method_5_code 56 = .ok (.aload_n 3, 1) := by decide +kernel
theorem d_X11_of_57 : decode prog_1_method_5_code 57 = .ok (.getfield 119, 3) := by decide +kernel
theorem d_X11_of_60 : decode prog_1_method_5_code 60 = .ok (.ireturn, 1) := by decide +kernel
theorem d_X11_of_61 : decode prog_1_method_5_code 61 = .ok (.aload_n 3, 1) := by decide +kernel
theorem d_X11_of_62 : decode prog_1_method_5_code 62 = .ok (.getfield 122, 3) := by decide +kernel
theorem d_X11_of_65 : decode prog_1_method_5_code 65 = .ok (.ireturn, 1) := by decide +kernel
theorem d_X11_of_66 : decode prog_1_method_5_code 66 = .ok (.aload_n 3, 1) := by decide +kernel
theorem d_X11_of_67 : decode prog_1_method_5_code 67 = .ok (.getfield 125, 3) := by decide +kernel
theorem d_X11_of_70 : decode prog_1_method_5_code 70 = .ok (.ireturn, 1) := by decide +kernel
theorem d_X11_of_71 : decode prog_1_method_5_code 71 = .ok (.aload_n 3, 1) := by decide +kernel
theorem d_X11_of_72 : decode prog_1_method_5_code 72 = .ok (.getfield 128, 3) := by decide +kernel
theorem d_X11_of_75 : decode prog_1_method_5_code 75 = .ok (.ireturn, 1) := by decide +kernel
theorem d_X11_of_76 : decode prog_1_method_5_code 76 = .ok (.aload_n 3, 1) := by decide +kernel
theorem d_X11_of_77 : decode prog_1_method_5_code 77 = .ok (.getfield 131, 3) := by decide +kernel
theorem d_X11_of_80 : decode prog_1_method_5_code 80 = .ok (.ifCond .eq 7, 3) := by decide +kernel
theorem d_X11_of_83 : decode prog_1_method_5_code 83 = .ok (.iconst 1, 1) := by decide +kernel
theorem d_X11_of_84 : decode prog_1_method_5_code 84 = .ok (.goto 4, 3) := by decide +kernel
theorem d_X11_of_87 : decode prog_1_method_5_code 87 = .ok (.iconst 0, 1) := by decide +kernel
theorem d_X11_of_88 : decode prog_1_method_5_code 88 = .ok (.ireturn, 1) := by decide +kernel
theorem d_X11_of_89 : decode prog_1_method_5_code 89 = .ok (.aload_n 0, 1) := by decide +kernel
theorem d_X11_of_90 : decode prog_1_method_5_code 90 = .ok (.invokevirtual 135, 3) := by decide +kernel
theorem d_X11_of_93 : decode prog_1_method_5_code 93 = .ok (.aload_n 3, 1) := by decide +kernel
theorem d_X11_of_94 : decode prog_1_method_5_code 94 = .ok (.getfield 128, 3) := by decide +kernel
theorem d_X11_of_97 : decode prog_1_method_5_code 97 = .ok (.invokevirtual 139, 3) := by decide +kernel
theorem d_X11_of_100 : decode prog_1_method_5_code 100 = .ok (.ireturn, 1) := by decide +kernel
theorem d_X11_of_101 : decode prog_1_method_5_code 101 = .ok (.iconst (-1), 1) := by decide +kernel
theorem d_X11_of_102 : decode prog_1_method_5_code 102 = .ok (.ireturn, 1) := by decide +kernel
def m_X11_of (kap lam : Nat → Nat) (r0 : Nat) (a1 : Int32) (a2 : Int32) (S : fm_M) : Option Int32 :=
  fm_ck (kap r0 == 11) <|
  fm_b1 (m_X11_isPane kap lam r0 a1 S) fun x2 =>
  if x2 = 0 then (
   some (-1)
  ) else (
   fm_gr kap 11 r0 0 S fun q11 =>
   fm_lr kap lam 16 q11 a1 S fun q15 =>
   if a2 = 0 then (
    fm_gi kap 5 q15 0 S fun x57 =>
    some x57
   ) else (
    if a2 = 1 then (
     fm_gi kap 5 q15 2 S fun x62 =>
     some x62
    ) else (
     if a2 = 2 then (
      fm_gi kap 5 q15 3 S fun x67 =>
      some x67
     ) else (
      if a2 = 3 then (
       fm_gi kap 5 q15 4 S fun x72 =>
       some x72
      ) else (
       if a2 = 4 then (
        fm_gi kap 5 q15 5 S fun x77 =>
        if x77 = 0 then (
         some 0
        ) else (
         some 1
        )
       ) else (
        if a2 = 5 then (
         fm_ck (kap r0 == 11) <|
         fm_b1 (m_X11_heldTown kap lam r0 S) fun q90 =>
         fm_gi kap 5 q15 4 S fun x94 =>
         fm_ck (kap q90 == 10) <|
         fm_b1 (m_X10_offerOf kap lam q90 x94 S) fun x97 =>
         some x97
        ) else (
         some (-1)
        )
       )
      )
     )
    )
   )
  )
set_option maxHeartbeats 4000000 in
set_option maxRecDepth 100000 in
theorem c_X11_of {l : Launch} {D : va_G} {ids kap lam : Nat → Nat} {RL : List Nat} {ad sk sv : Nat → Nat} {S : fm_M} {r0 : Nat} {a1 : Int32} {a2 : Int32} {r : Int32} (hE : fm_E kap RL ad) (hf : m_X11_of kap lam r0 a1 a2 S = some r) (sz : Nat) : fm_MI l y_X11_of prog_1_method_5_code 4 (Option.some Jvm.ClassFile.FieldType.int) 2 D ids kap lam RL ad sk sv S [.ref (ad r0), .int a1, .int a2] sz r S := by
  refine fm_open rfl hE (Nat.le_of_ble_eq_true rfl) (fun p e s m args below meth c ls Z hr hlk G F N hl hsz => ?_)
  subst hsz
  obtain ⟨hx, hb, hml, hown, hts⟩ := id Z
  have hl : lv_has ls 4 [(0, .ref (ad r0)), (1, .int a1), (2, .int a2)] := hl
  unfold m_X11_of at hf
  refine lv_aload_n hx hb d_X11_of_0 rfl (lv_at hl 0 rfl) ?_
  refine lv_iload_n hx hb d_X11_of_1 rfl (lv_at hl 1 rfl) ?_
  obtain ⟨hk2, hf⟩ := fm_some hf
  refine fm_rcr G F hf (fun r ho => fm_runV (k := 1) Z G F N (As := [.int a1]) (rest := []) (c_X11_isPane hE ho _) (by rw [eq_of_beq hk2]; decide) (by rw [eq_of_beq hk2]; rfl) kw_546 kw_548 kp_9 kw_1 kw_549 yd_X11_isPane rfl (by decide) (by decide) hl.1 (Nat.le_of_ble_eq_true rfl) d_X11_of_2 (Nat.le_refl 0) (Nat.le_refl 0)) (fun x2 H locs _ F hf => ?_)
  refine lv_if_ne (tgt := 10) hx hb d_X11_of_5 (by decide) (fun c5 => ?_) (fun c5 => ?_)
  · have hf := fm_ig c5 hf
    refine lv_aload_n hx hb d_X11_of_10 rfl (lv_at hl 0 rfl) ?_
    refine fm_rgr Z G F hf fr_X11_13 d_X11_of_11 (fun q11 _ hf => ?_)
    refine lv_iload_n hx hb d_X11_of_14 rfl (lv_at hl 1 rfl) ?_
    refine fm_rlr Z G F (by decide) (by decide) hf d_X11_of_15 (fun q15 _ hf => ?_)
    refine lv_astore_n (lv' := [(3, .ref (ad q15)), (0, .ref (ad r0)), (1, .int a1), (2, .int a2)]) hx hb d_X11_of_16 rfl hl (by decide) rfl (fun ls hl => ?_)
    refine lv_iload_n hx hb d_X11_of_17 rfl (lv_at hl 3 rfl) ?_
    by_cases w18_0 : a2 = 0
    · have hf := fm_ip w18_0 hf
      refine lv_tableIn (off := 38) (tgt := 56) hx hb d_X11_of_18 (by rw [w18_0]; decide) (by rw [w18_0]; decide) (by rw [w18_0]; rfl) (by decide) ?_
      refine lv_aload_n hx hb d_X11_of_56 rfl (lv_at hl 0 rfl) ?_
      refine fm_rgi Z G F hf fr_X11_119 d_X11_of_57 (fun x57 _ hf => ?_)
      exact fm_reti Z hr hlk F d_X11_of_60 (Option.some.inj hf) rfl
    have hf := fm_ig w18_0 hf
    by_cases w18_1 : a2 = 1
    · have hf := fm_ip w18_1 hf
      refine lv_tableIn (off := 43) (tgt := 61) hx hb d_X11_of_18 (by rw [w18_1]; decide) (by rw [w18_1]; decide) (by rw [w18_1]; rfl) (by decide) ?_
      refine lv_aload_n hx hb d_X11_of_61 rfl (lv_at hl 0 rfl) ?_
      refine fm_rgi Z G F hf fr_X11_122 d_X11_of_62 (fun x62 _ hf => ?_)
      exact fm_reti Z hr hlk F d_X11_of_65 (Option.some.inj hf) rfl
    have hf := fm_ig w18_1 hf
    by_cases w18_2 : a2 = 2
    · have hf := fm_ip w18_2 hf
      refine lv_tableIn (off := 48) (tgt := 66) hx hb d_X11_of_18 (by rw [w18_2]; decide) (by rw [w18_2]; decide) (by rw [w18_2]; rfl) (by decide) ?_
      refine lv_aload_n hx hb d_X11_of_66 rfl (lv_at hl 0 rfl) ?_
      refine fm_rgi Z G F hf fr_X11_125 d_X11_of_67 (fun x67 _ hf => ?_)
      exact fm_reti Z hr hlk F d_X11_of_70 (Option.some.inj hf) rfl
    have hf := fm_ig w18_2 hf
    by_cases w18_3 : a2 = 3
    · have hf := fm_ip w18_3 hf
      refine lv_tableIn (off := 53) (tgt := 71) hx hb d_X11_of_18 (by rw [w18_3]; decide) (by rw [w18_3]; decide) (by rw [w18_3]; rfl) (by decide) ?_
      refine lv_aload_n hx hb d_X11_of_71 rfl (lv_at hl 0 rfl) ?_
      refine fm_rgi Z G F hf fr_X11_128 d_X11_of_72 (fun x72 _ hf => ?_)
      exact fm_reti Z hr hlk F d_X11_of_75 (Option.some.inj hf) rfl
    have hf := fm_ig w18_3 hf
    by_cases w18_4 : a2 = 4
    · have hf := fm_ip w18_4 hf
      refine lv_tableIn (off := 58) (tgt := 76) hx hb d_X11_of_18 (by rw [w18_4]; decide) (by rw [w18_4]; decide) (by rw [w18_4]; rfl) (by decide) ?_
      refine lv_aload_n hx hb d_X11_of_76 rfl (lv_at hl 0 rfl) ?_
      refine fm_rgi Z G F hf fr_X11_131 d_X11_of_77 (fun x77 _ hf => ?_)
      refine lv_if_eq (tgt := 87) hx hb d_X11_of_80 (by decide) (fun c80 => ?_) (fun c80 => ?_)
      · have hf := fm_ip c80 hf
        refine lv_iconst (v := 0) hx hb d_X11_of_87 (by decide) ?_
        exact fm_reti Z hr hlk F d_X11_of_88 (Option.some.inj hf) rfl
      · have hf := fm_ig c80 hf
        refine lv_iconst (v := 1) hx hb d_X11_of_83 (by decide) ?_
        refine lv_goto (tgt := 88) hx hb d_X11_of_84 (by decide) ?_
        exact fm_reti Z hr hlk F d_X11_of_88 (Option.some.inj hf) rfl
    have hf := fm_ig w18_4 hf
    by_cases w18_5 : a2 = 5
    · have hf := fm_ip w18_5 hf
      refine lv_tableIn (off := 71) (tgt := 89) hx hb d_X11_of_18 (by rw [w18_5]; decide) (by rw [w18_5]; decide) (by rw [w18_5]; rfl) (by decide) ?_
      refine lv_aload_n hx hb d_X11_of_89 rfl (lv_at hl 1 rfl) ?_
      obtain ⟨hk90, hf⟩ := fm_some hf
      refine fm_rcq G F hf (fun r ho => fm_runV (k := 0) Z G F N (As := []) (rest := []) (c_X11_heldTown hE ho _) (by rw [eq_of_beq hk90]; decide) (by rw [eq_of_beq hk90]; rfl) kw_550 kw_552 kp_10 kw_1 kw_553 yd_X11_heldTown rfl (by decide) (by decide) hl.1 (Nat.le_of_ble_eq_true rfl) d_X11_of_90 (Nat.le_refl 0) (Nat.le_refl 0)) (fun q90 H locs _ F hf => ?_)
      refine lv_aload_n hx hb d_X11_of_93 rfl (lv_at hl 0 rfl) ?_
      refine fm_rgi Z G F hf fr_X11_128 d_X11_of_94 (fun x94 _ hf => ?_)
      obtain ⟨hk97, hf⟩ := fm_some hf
      refine fm_rcr G F hf (fun r ho => fm_runV (k := 1) Z G F N (As := [.int x94]) (rest := []) (c_X10_offerOf hE ho _) (by rw [eq_of_beq hk97]; decide) (by rw [eq_of_beq hk97]; rfl) kw_554 kw_555 kw_556 kw_2 kw_557 yd_X10_offerOf rfl (by decide) (by decide) hl.1 (Nat.le_of_ble_eq_true rfl) d_X11_of_97 (Nat.le_refl 0) (Nat.le_refl 0)) (fun x97 H locs _ F hf => ?_)
      exact fm_reti Z hr hlk F d_X11_of_100 (Option.some.inj hf) rfl
    have hf := fm_ig w18_5 hf
    have z18_0 := lv_neT (a := 0) w18_0 (by decide)
    have z18_1 := lv_neT (a := 1) w18_1 (by decide)
    have z18_2 := lv_neT (a := 2) w18_2 (by decide)
    have z18_3 := lv_neT (a := 3) w18_3 (by decide)
    have z18_4 := lv_neT (a := 4) w18_4 (by decide)
    have z18_5 := lv_neT (a := 5) w18_5 (by decide)
    refine lv_tableOut (tgt := 101) hx hb d_X11_of_18 (by omega) (by decide) ?_
    refine lv_iconst (v := (-1)) hx hb d_X11_of_101 (by decide) ?_
    exact fm_reti Z hr hlk F d_X11_of_102 (Option.some.inj hf) rfl
  · have hf := fm_ip c5 hf
    refine lv_iconst (v := (-1)) hx hb d_X11_of_8 (by decide) ?_
    exact fm_reti Z hr hlk F d_X11_of_9 (Option.some.inj hf) rfl
theorem d_X11_grows_0 : decode prog_1_method_6_code 0 = .ok (.aload_n 0, 1) := by decide +kernel
theorem d_X11_grows_1 : decode prog_1_method_6_code 1 = .ok (.iload_n 1, 1) := by decide +kernel
theorem d_X11_grows_2 : decode prog_1_method_6_code 2 = .ok (.invokevirtual 115, 3) := by decide +kernel
theorem d_X11_grows_5 : decode prog_1_method_6_code 5 = .ok (.ifCond .eq 12, 3) := by decide +kernel
theorem d_X11_grows_8 : decode prog_1_method_6_code 8 = .ok (.iload_n 2, 1) := by decide +kernel
theorem d_X11_grows_9 : decode prog_1_method_6_code 9 = .ok (.bipush 11, 2) := by decide +kernel
theorem d_X11_grows_11 : decode prog_1_method_6_code 11 = .ok (.invokestatic 85, 3) := by decide +kernel
theorem d_X11_grows_14 : decode prog_1_method_6_code 14 = .ok (.ifCond .ne 6, 3) := by decide +kernel
theorem d_X11_grows_17 : decode prog_1_method_6_code 17 = .ok (.ldc 143, 2) := by decide +kernel
theorem d_X11_grows_19 : decode prog_1_method_6_code 19 = .ok (.ireturn, 1) := by decide +kernel
theorem d_X11_grows_20 : decode prog_1_method_6_code 20 = .ok (.aload_n 0, 1) := by decide +kernel
theorem d_X11_grows_21 : decode prog_1_method_6_code 21 = .ok (.iload_n 1, 1) := by decide +kernel
theorem d_X11_grows_22 : decode prog_1_method_6_code 22 = .ok (.aload_n 0, 1) := by decide +kernel
theorem d_X11_grows_23 : decode prog_1_method_6_code 23 = .ok (.getfield 57, 3) := by decide +kernel
theorem d_X11_grows_26 : decode prog_1_method_6_code 26 = .ok (.invokevirtual 144, 3) := by decide +kernel
theorem d_X11_grows_29 : decode prog_1_method_6_code 29 = .ok (.iload_n 2, 1) := by decide +kernel
theorem d_X11_grows_30 : decode prog_1_method_6_code 30 = .ok (.invokevirtual 148, 3) := by decide +kernel
theorem d_X11_grows_33 : decode prog_1_method_6_code 33 = .ok (.ireturn, 1) := by decide +kernel
def m_X11_grows (kap lam : Nat → Nat) (r0 : Nat) (a1 : Int32) (a2 : Int32) (S : fm_M) : Option (Int32 × fm_M) :=
  fm_ck (kap r0 == 11) <|
  fm_b1 (m_X11_isPane kap lam r0 a1 S) fun x2 =>
  if x2 = 0 then (
   some ((-999999), S)
  ) else (
   fm_b1 (m_X11_isWithin kap lam a2 11 S) fun x11 =>
   if x11 = 0 then (
    some ((-999999), S)
   ) else (
    fm_gi kap 11 r0 8 S fun x23 =>
    fm_ck (kap r0 == 11) <|
    fm_bi (m_X11_courseFromNow kap lam r0 a1 x23 S) fun q26 S26 =>
    fm_ck (kap q26 == 1) <|
    fm_bi (m_X1_growthAt kap lam q26 a2 S26) fun x30 S30 =>
    some (x30, S30)
   )
  )
set_option maxHeartbeats 4000000 in
set_option maxRecDepth 100000 in
theorem c_X11_grows {l : Launch} {D : va_G} {ids kap lam : Nat → Nat} {RL : List Nat} {ad sk sv : Nat → Nat} {S : fm_M} {r0 : Nat} {a1 : Int32} {a2 : Int32} {r : Int32} {u : fm_M} (hE : fm_E kap RL ad) (hf : m_X11_grows kap lam r0 a1 a2 S = some (r, u)) (sz : Nat) : fm_MI l y_X11_grows prog_1_method_6_code 3 (Option.some Jvm.ClassFile.FieldType.int) 5 D ids kap lam RL ad sk sv S [.ref (ad r0), .int a1, .int a2] sz r u := by
  refine fm_open rfl hE (Nat.le_of_ble_eq_true rfl) (fun p e s m args below meth c ls Z hr hlk G F N hl hsz => ?_)
  subst hsz
  obtain ⟨hx, hb, hml, hown, hts⟩ := id Z
  have hl : lv_has ls 3 [(0, .ref (ad r0)), (1, .int a1), (2, .int a2)] := hl
  unfold m_X11_grows at hf
  refine lv_aload_n hx hb d_X11_grows_0 rfl (lv_at hl 0 rfl) ?_
  refine lv_iload_n hx hb d_X11_grows_1 rfl (lv_at hl 1 rfl) ?_
  obtain ⟨hk2, hf⟩ := fm_some hf
  refine fm_rcr G F hf (fun r ho => fm_runV (k := 1) Z G F N (As := [.int a1]) (rest := []) (c_X11_isPane hE ho _) (by rw [eq_of_beq hk2]; decide) (by rw [eq_of_beq hk2]; rfl) kw_546 kw_548 kp_9 kw_1 kw_549 yd_X11_isPane rfl (by decide) (by decide) hl.1 (Nat.le_of_ble_eq_true rfl) d_X11_grows_2 (Nat.le_refl 0) (Nat.le_refl 0)) (fun x2 H locs _ F hf => ?_)
  refine lv_if_eq (tgt := 17) hx hb d_X11_grows_5 (by decide) (fun c5 => ?_) (fun c5 => ?_)
  · have hf := fm_ip c5 hf
    refine lv_ldc (v := (-999999)) hx hb hown (hts _ (fm_in kw_563 rfl)) d_X11_grows_17 ?_
    exact fm_reti Z hr hlk F d_X11_grows_19 (Prod.mk.inj (Option.some.inj hf)).1 (Prod.mk.inj (Option.some.inj hf)).2
  · have hf := fm_ig c5 hf
    refine lv_iload_n hx hb d_X11_grows_8 rfl (lv_at hl 2 rfl) ?_
    refine lv_bipush (v := 11) hx hb d_X11_grows_9 (by decide) ?_
    refine fm_rcr G F hf (fun r ho => fm_runS (k := 2) Z G F N (As := [.int a2, .int 11]) (rest := []) (c_X11_isWithin hE ho _) kw_182 kw_183 kw_1 kw_184 yd_X11_isWithin rfl (by decide) (by decide) hl.1 (Nat.le_of_ble_eq_true rfl) d_X11_grows_11 (Nat.le_refl 0) (Nat.le_refl 0)) (fun x11 H locs _ F hf => ?_)
    refine lv_if_ne (tgt := 20) hx hb d_X11_grows_14 (by decide) (fun c14 => ?_) (fun c14 => ?_)
    · have hf := fm_ig c14 hf
      refine lv_aload_n hx hb d_X11_grows_20 rfl (lv_at hl 0 rfl) ?_
      refine lv_iload_n hx hb d_X11_grows_21 rfl (lv_at hl 1 rfl) ?_
      refine lv_aload_n hx hb d_X11_grows_22 rfl (lv_at hl 0 rfl) ?_
      refine fm_rgi Z G F hf fr_X11_57 d_X11_grows_23 (fun x23 _ hf => ?_)
      obtain ⟨hk26, hf⟩ := fm_some hf
      refine fm_rcqq G F hf (fun r u ho => fm_runV (k := 2) Z G F N (As := [.int a1, .int x23]) (rest := []) (c_X11_courseFromNow hE ho _) (by rw [eq_of_beq hk26]; decide) (by rw [eq_of_beq hk26]; rfl) kw_564 kw_566 kp_11 kw_1 kw_567 yd_X11_courseFromNow rfl (by decide) (by decide) hl.1 (Nat.le_of_ble_eq_true rfl) d_X11_grows_26 (Nat.le_refl 0) (Nat.le_refl 0)) (fun q26 S26 H locs _ F hf => ?_)
      refine lv_iload_n hx hb d_X11_grows_29 rfl (lv_at hl 2 rfl) ?_
      obtain ⟨hk30, hf⟩ := fm_some hf
      refine fm_rci G F hf (fun r u ho => fm_runV (k := 1) Z G F N (As := [.int a2]) (rest := []) (c_X1_growthAt hE ho _) (by rw [eq_of_beq hk30]; decide) (by rw [eq_of_beq hk30]; rfl) kw_572 kw_573 kw_574 kw_18 kw_575 yd_X1_growthAt rfl (by decide) (by decide) hl.1 (Nat.le_of_ble_eq_true rfl) d_X11_grows_30 (Nat.le_refl 0) (Nat.le_refl 0)) (fun x30 S30 H locs _ F hf => ?_)
      exact fm_reti Z hr hlk F d_X11_grows_33 (Prod.mk.inj (Option.some.inj hf)).1 (Prod.mk.inj (Option.some.inj hf)).2
    · have hf := fm_ip c14 hf
      refine lv_ldc (v := (-999999)) hx hb hown (hts _ (fm_in kw_563 rfl)) d_X11_grows_17 ?_
      exact fm_reti Z hr hlk F d_X11_grows_19 (Prod.mk.inj (Option.some.inj hf)).1 (Prod.mk.inj (Option.some.inj hf)).2
theorem d_X11_row_0 : decode prog_1_method_7_code 0 = .ok (.aload_n 0, 1) := by decide +kernel
theorem d_X11_row_1 : decode prog_1_method_7_code 1 = .ok (.iload_n 1, 1) := by decide +kernel
theorem d_X11_row_2 : decode prog_1_method_7_code 2 = .ok (.invokevirtual 115, 3) := by decide +kernel
theorem d_X11_row_5 : decode prog_1_method_7_code 5 = .ok (.ifCond .eq 11, 3) := by decide +kernel
theorem d_X11_row_8 : decode prog_1_method_7_code 8 = .ok (.iload_n 2, 1) := by decide +kernel
theorem d_X11_row_9 : decode prog_1_method_7_code 9 = .ok (.iconst 3, 1) := by decide +kernel
theorem d_X11_row_10 : decode prog_1_method_7_code 10 = .ok (.invokestatic 85, 3) := by decide +kernel
theorem d_X11_row_13 : decode prog_1_method_7_code 13 = .ok (.ifCond .ne 5, 3) := by decide +kernel
theorem d_X11_row_16 : decode prog_1_method_7_code 16 = .ok (.iconst (-1), 1) := by decide +kernel
theorem d_X11_row_17 : decode prog_1_method_7_code 17 = .ok (.ireturn, 1) := by decide +kernel
theorem d_X11_row_18 : decode prog_1_method_7_code 18 = .ok (.iload_n 3, 1) := by decide +kernel
theorem d_X11_row_19 : decode prog_1_method_7_code 19 = .ok (.bipush 9, 2) := by decide +kernel
theorem d_X11_row_21 : decode prog_1_method_7_code 21 = .ok (.invokestatic 85, 3) := by decide +kernel
theorem d_X11_row_24 : decode prog_1_method_7_code 24 = .ok (.ifCond .ne 6, 3) := by decide +kernel
theorem d_X11_row_27 : decode prog_1_method_7_code 27 = .ok (.bipush (-2), 2) := by decide +kernel
theorem d_X11_row_29 : decode prog_1_method_7_code 29 = .ok (.ireturn, 1) := by decide +kernel
theorem d_X11_row_30 : decode prog_1_method_7_code 30 = .ok (.aload_n 0, 1) := by decide +kernel
theorem d_X11_row_31 : decode prog_1_method_7_code 31 = .ok (.getfield 13, 3) := by decide +kernel
theorem d_X11_row_34 : decode prog_1_method_7_code 34 = .ok (.iload_n 1, 1) := by decide +kernel
theorem d_X11_row_35 : decode prog_1_method_7_code 35 = .ok (.aaload, 1) := by decide +kernel
theorem d_X11_row_36 : decode prog_1_method_7_code 36 = .ok (.astore 5, 2) := by decide +kernel
theorem d_X11_row_38 : decode prog_1_method_7_code 38 = .ok (.aload 5, 2) := by decide +kernel
theorem d_X11_row_40 : decode prog_1_method_7_code 40 = .ok (.instanceof 151, 3) := by decide +kernel
theorem d_X11_row_43 : decode prog_1_method_7_code 43 = .ok (.ifCond .eq 18, 3) := by decide +kernel
theorem d_X11_row_46 : decode prog_1_method_7_code 46 = .ok (.aload 5, 2) := by decide +kernel
theorem d_X11_row_48 : decode prog_1_method_7_code 48 = .ok (.checkcast 151, 3) := by decide +kernel
theorem d_X11_row_51 : decode prog_1_method_7_code 51 = .ok (.astore 4, 2) := by decide +kernel
theorem d_X11_row_53 : decode prog_1_method_7_code 53 = .ok (.aload 4, 2) := by decide +kernel
theorem d_X11_row_55 : decode prog_1_method_7_code 55 = .ok (.iload_n 2, 1) := by decide +kernel
theorem d_X11_row_56 : decode prog_1_method_7_code 56 = .ok (.iload_n 3, 1) := by decide +kernel
theorem d_X11_row_57 : decode prog_1_method_7_code 57 = .ok (.invokevirtual 153, 3) := by decide +kernel
theorem d_X11_row_60 : decode prog_1_method_7_code 60 = .ok (.ireturn, 1) := by decide +kernel
theorem d_X11_row_61 : decode prog_1_method_7_code 61 = .ok (.bipush (-3), 2) := by decide +kernel
theorem d_X11_row_63 : decode prog_1_method_7_code 63 = .ok (.ireturn, 1) := by decide +kernel
def m_X11_row (kap lam : Nat → Nat) (r0 : Nat) (a1 : Int32) (a2 : Int32) (a3 : Int32) (S : fm_M) : Option (Int32 × fm_M) :=
  fm_ck (kap r0 == 11) <|
  fm_b1 (m_X11_isPane kap lam r0 a1 S) fun x2 =>
  if x2 = 0 then (
   some ((-1), S)
  ) else (
   fm_b1 (m_X11_isWithin kap lam a2 3 S) fun x10 =>
   if x10 = 0 then (
    some ((-1), S)
   ) else (
    fm_b1 (m_X11_isWithin kap lam a3 9 S) fun x21 =>
    if x21 = 0 then (
     some ((-2), S)
    ) else (
     fm_gr kap 11 r0 0 S fun q31 =>
     fm_lr kap lam 16 q31 a1 S fun q35 =>
     fm_ins kap 9 q35 fun x40 =>
     if x40 = 0 then (
      some ((-3), S)
     ) else (
      fm_ck (kap q35 == 9) <|
      fm_ck (kap q35 == 9) <|
      fm_bi (m_X9_change kap lam q35 a2 a3 S) fun x57 S57 =>
      some (x57, S57)
     )
    )
   )
  )
set_option maxHeartbeats 4000000 in
set_option maxRecDepth 100000 in
theorem c_X11_row {l : Launch} {D : va_G} {ids kap lam : Nat → Nat} {RL : List Nat} {ad sk sv : Nat → Nat} {S : fm_M} {r0 : Nat} {a1 : Int32} {a2 : Int32} {a3 : Int32} {r : Int32} {u : fm_M} (hE : fm_E kap RL ad) (hf : m_X11_row kap lam r0 a1 a2 a3 S = some (r, u)) (sz : Nat) : fm_MI l y_X11_row prog_1_method_7_code 6 (Option.some Jvm.ClassFile.FieldType.int) 2 D ids kap lam RL ad sk sv S [.ref (ad r0), .int a1, .int a2, .int a3] sz r u := by
  refine fm_open rfl hE (Nat.le_of_ble_eq_true rfl) (fun p e s m args below meth c ls Z hr hlk G F N hl hsz => ?_)
  subst hsz
  obtain ⟨hx, hb, hml, hown, hts⟩ := id Z
  have hl : lv_has ls 6 [(0, .ref (ad r0)), (1, .int a1), (2, .int a2), (3, .int a3)] := hl
  unfold m_X11_row at hf
  refine lv_aload_n hx hb d_X11_row_0 rfl (lv_at hl 0 rfl) ?_
  refine lv_iload_n hx hb d_X11_row_1 rfl (lv_at hl 1 rfl) ?_
  obtain ⟨hk2, hf⟩ := fm_some hf
  refine fm_rcr G F hf (fun r ho => fm_runV (k := 1) Z G F N (As := [.int a1]) (rest := []) (c_X11_isPane hE ho _) (by rw [eq_of_beq hk2]; decide) (by rw [eq_of_beq hk2]; rfl) kw_546 kw_548 kp_9 kw_1 kw_549 yd_X11_isPane rfl (by decide) (by decide) hl.1 (Nat.le_of_ble_eq_true rfl) d_X11_row_2 (Nat.le_refl 0) (Nat.le_refl 0)) (fun x2 H locs _ F hf => ?_)
  refine lv_if_eq (tgt := 16) hx hb d_X11_row_5 (by decide) (fun c5 => ?_) (fun c5 => ?_)
  · have hf := fm_ip c5 hf
    refine lv_iconst (v := (-1)) hx hb d_X11_row_16 (by decide) ?_
    exact fm_reti Z hr hlk F d_X11_row_17 (Prod.mk.inj (Option.some.inj hf)).1 (Prod.mk.inj (Option.some.inj hf)).2
  · have hf := fm_ig c5 hf
    refine lv_iload_n hx hb d_X11_row_8 rfl (lv_at hl 2 rfl) ?_
    refine lv_iconst (v := 3) hx hb d_X11_row_9 (by decide) ?_
    refine fm_rcr G F hf (fun r ho => fm_runS (k := 2) Z G F N (As := [.int a2, .int 3]) (rest := []) (c_X11_isWithin hE ho _) kw_182 kw_183 kw_1 kw_184 yd_X11_isWithin rfl (by decide) (by decide) hl.1 (Nat.le_of_ble_eq_true rfl) d_X11_row_10 (Nat.le_refl 0) (Nat.le_refl 0)) (fun x10 H locs _ F hf => ?_)
    refine lv_if_ne (tgt := 18) hx hb d_X11_row_13 (by decide) (fun c13 => ?_) (fun c13 => ?_)
    · have hf := fm_ig c13 hf
      refine lv_iload_n hx hb d_X11_row_18 rfl (lv_at hl 3 rfl) ?_
      refine lv_bipush (v := 9) hx hb d_X11_row_19 (by decide) ?_
      refine fm_rcr G F hf (fun r ho => fm_runS (k := 2) Z G F N (As := [.int a3, .int 9]) (rest := []) (c_X11_isWithin hE ho _) kw_182 kw_183 kw_1 kw_184 yd_X11_isWithin rfl (by decide) (by decide) hl.1 (Nat.le_of_ble_eq_true rfl) d_X11_row_21 (Nat.le_refl 0) (Nat.le_refl 0)) (fun x21 H locs _ F hf => ?_)
      refine lv_if_ne (tgt := 30) hx hb d_X11_row_24 (by decide) (fun c24 => ?_) (fun c24 => ?_)
      · have hf := fm_ig c24 hf
        refine lv_aload_n hx hb d_X11_row_30 rfl (lv_at hl 0 rfl) ?_
        refine fm_rgr Z G F hf fr_X11_13 d_X11_row_31 (fun q31 _ hf => ?_)
        refine lv_iload_n hx hb d_X11_row_34 rfl (lv_at hl 1 rfl) ?_
        refine fm_rlr Z G F (by decide) (by decide) hf d_X11_row_35 (fun q35 _ hf => ?_)
        refine lv_astore (lv' := [(5, .ref (ad q35)), (0, .ref (ad r0)), (1, .int a1), (2, .int a2), (3, .int a3)]) hx hb d_X11_row_36 hl (by decide) rfl (fun ls hl => ?_)
        refine lv_aload hx hb d_X11_row_38 (lv_at hl 0 rfl) ?_
        refine fm_rins 9 _ fm_iy9 fm_ni9 Z G F N hf kw_463 d_X11_row_40 (fun x40 _ hf => ?_)
        refine lv_if_eq (tgt := 61) hx hb d_X11_row_43 (by decide) (fun c43 => ?_) (fun c43 => ?_)
        · have hf := fm_ip c43 hf
          refine lv_bipush (v := (-3)) hx hb d_X11_row_61 (by decide) ?_
          exact fm_reti Z hr hlk F d_X11_row_63 (Prod.mk.inj (Option.some.inj hf)).1 (Prod.mk.inj (Option.some.inj hf)).2
        · have hf := fm_ig c43 hf
          refine lv_aload hx hb d_X11_row_46 (lv_at hl 0 rfl) ?_
          obtain ⟨hk48, hf⟩ := fm_some hf
          refine fm_rcast Z G F (eq_of_beq hk48) kw_463 d_X11_row_48 ?_
          refine lv_astore (lv' := [(4, .ref (ad q35)), (5, .ref (ad q35)), (0, .ref (ad r0)), (1, .int a1), (2, .int a2), (3, .int a3)]) hx hb d_X11_row_51 hl (by decide) rfl (fun ls hl => ?_)
          refine lv_aload hx hb d_X11_row_53 (lv_at hl 0 rfl) ?_
          refine lv_iload_n hx hb d_X11_row_55 rfl (lv_at hl 4 rfl) ?_
          refine lv_iload_n hx hb d_X11_row_56 rfl (lv_at hl 5 rfl) ?_
          obtain ⟨hk57, hf⟩ := fm_some hf
          refine fm_rci G F hf (fun r u ho => fm_runV (k := 2) Z G F N (As := [.int a2, .int a3]) (rest := []) (c_X9_change hE ho _) (by rw [eq_of_beq hk57]; decide) (by rw [eq_of_beq hk57]; rfl) kw_632 kw_633 kw_634 kw_17 kw_635 yd_X9_change rfl (by decide) (by decide) hl.1 (Nat.le_of_ble_eq_true rfl) d_X11_row_57 (Nat.le_refl 0) (Nat.le_refl 0)) (fun x57 S57 H locs _ F hf => ?_)
          exact fm_reti Z hr hlk F d_X11_row_60 (Prod.mk.inj (Option.some.inj hf)).1 (Prod.mk.inj (Option.some.inj hf)).2
      · have hf := fm_ip c24 hf
        refine lv_bipush (v := (-2)) hx hb d_X11_row_27 (by decide) ?_
        exact fm_reti Z hr hlk F d_X11_row_29 (Prod.mk.inj (Option.some.inj hf)).1 (Prod.mk.inj (Option.some.inj hf)).2
    · have hf := fm_ip c13 hf
      refine lv_iconst (v := (-1)) hx hb d_X11_row_16 (by decide) ?_
      exact fm_reti Z hr hlk F d_X11_row_17 (Prod.mk.inj (Option.some.inj hf)).1 (Prod.mk.inj (Option.some.inj hf)).2
theorem d_X11_set_0 : decode prog_1_method_8_code 0 = .ok (.aload_n 0, 1) := by decide +kernel
theorem d_X11_set_1 : decode prog_1_method_8_code 1 = .ok (.iload_n 1, 1) := by decide +kernel
theorem d_X11_set_2 : decode prog_1_method_8_code 2 = .ok (.invokevirtual 115, 3) := by decide +kernel
theorem d_X11_set_5 : decode prog_1_method_8_code 5 = .ok (.ifCond .eq 11, 3) := by decide +kernel
theorem d_X11_set_8 : decode prog_1_method_8_code 8 = .ok (.iload_n 2, 1) := by decide +kernel
theorem d_X11_set_9 : decode prog_1_method_8_code 9 = .ok (.iconst 1, 1) := by decide +kernel
theorem d_X11_set_10 : decode prog_1_method_8_code 10 = .ok (.invokestatic 85, 3) := by decide +kernel
theorem d_X11_set_13 : decode prog_1_method_8_code 13 = .ok (.ifCond .ne 5, 3) := by decide +kernel
theorem d_X11_set_16 : decode prog_1_method_8_code 16 = .ok (.iconst (-1), 1) := by decide +kernel
theorem d_X11_set_17 : decode prog_1_method_8_code 17 = .ok (.ireturn, 1) := by decide +kernel
theorem d_X11_set_18 : decode prog_1_method_8_code 18 = .ok (.iload_n 3, 1) := by decide +kernel
theorem d_X11_set_19 : decode prog_1_method_8_code 19 = .ok (.iload_n 2, 1) := by decide +kernel
theorem d_X11_set_20 : decode prog_1_method_8_code 20 = .ok (.ifCond .ne 8, 3) := by decide +kernel
theorem d_X11_set_23 : decode prog_1_method_8_code 23 = .ok (.bipush 9, 2) := by decide +kernel
theorem d_X11_set_25 : decode prog_1_method_8_code 25 = .ok (.goto 6, 3) := by decide +kernel
theorem d_X11_set_28 : decode prog_1_method_8_code 28 = .ok (.sipush 4095, 3) := by decide +kernel
theorem d_X11_set_31 : decode prog_1_method_8_code 31 = .ok (.invokestatic 85, 3) := by decide +kernel
theorem d_X11_set_34 : decode prog_1_method_8_code 34 = .ok (.ifCond .ne 6, 3) := by decide +kernel
theorem d_X11_set_37 : decode prog_1_method_8_code 37 = .ok (.bipush (-2), 2) := by decide +kernel
theorem d_X11_set_39 : decode prog_1_method_8_code 39 = .ok (.ireturn, 1) := by decide +kernel
theorem d_X11_set_40 : decode prog_1_method_8_code 40 = .ok (.aload_n 0, 1) := by decide +kernel
theorem d_X11_set_41 : decode prog_1_method_8_code 41 = .ok (.getfield 13, 3) := by decide +kernel
theorem d_X11_set_44 : decode prog_1_method_8_code 44 = .ok (.iload_n 1, 1) := by decide +kernel
theorem d_X11_set_45 : decode prog_1_method_8_code 45 = .ok (.aaload, 1) := by decide +kernel
theorem d_X11_set_46 : decode prog_1_method_8_code 46 = .ok (.astore 4, 2) := by decide +kernel
theorem d_X11_set_48 : decode prog_1_method_8_code 48 = .ok (.iload_n 2, 1) := by decide +kernel
theorem d_X11_set_49 : decode prog_1_method_8_code 49 = .ok (.ifCond .ne 11, 3) := by decide +kernel
theorem d_X11_set_52 : decode prog_1_method_8_code 52 = .ok (.aload 4, 2) := by decide +kernel
theorem d_X11_set_54 : decode prog_1_method_8_code 54 = .ok (.getfield 125, 3) := by decide +kernel
theorem d_X11_set_57 : decode prog_1_method_8_code 57 = .ok (.goto 8, 3) := by decide +kernel
theorem d_X11_set_60 : decode prog_1_method_8_code 60 = .ok (.aload 4, 2) := by decide +kernel
theorem d_X11_set_62 : decode prog_1_method_8_code 62 = .ok (.getfield 128, 3) := by decide +kernel
theorem d_X11_set_65 : decode prog_1_method_8_code 65 = .ok (.istore 5, 2) := by decide +kernel
theorem d_X11_set_67 : decode prog_1_method_8_code 67 = .ok (.iload_n 2, 1) := by decide +kernel
theorem d_X11_set_68 : decode prog_1_method_8_code 68 = .ok (.ifCond .ne 12, 3) := by decide +kernel
theorem d_X11_set_71 : decode prog_1_method_8_code 71 = .ok (.aload 4, 2) := by decide +kernel
theorem d_X11_set_73 : decode prog_1_method_8_code 73 = .ok (.iload_n 3, 1) := by decide +kernel
theorem d_X11_set_74 : decode prog_1_method_8_code 74 = .ok (.putfield 125, 3) := by decide +kernel
theorem d_X11_set_77 : decode prog_1_method_8_code 77 = .ok (.goto 9, 3) := by decide +kernel
theorem d_X11_set_80 : decode prog_1_method_8_code 80 = .ok (.aload 4, 2) := by decide +kernel
theorem d_X11_set_82 : decode prog_1_method_8_code 82 = .ok (.iload_n 3, 1) := by decide +kernel
theorem d_X11_set_83 : decode prog_1_method_8_code 83 = .ok (.putfield 128, 3) := by decide +kernel
theorem d_X11_set_86 : decode prog_1_method_8_code 86 = .ok (.iload 5, 2) := by decide +kernel
theorem d_X11_set_88 : decode prog_1_method_8_code 88 = .ok (.ireturn, 1) := by decide +kernel
def m_X11_set (kap lam : Nat → Nat) (r0 : Nat) (a1 : Int32) (a2 : Int32) (a3 : Int32) (S : fm_M) : Option (Int32 × fm_M) :=
  fm_ck (kap r0 == 11) <|
  fm_b1 (m_X11_isPane kap lam r0 a1 S) fun x2 =>
  if x2 = 0 then (
   some ((-1), S)
  ) else (
   fm_b1 (m_X11_isWithin kap lam a2 1 S) fun x10 =>
   if x10 = 0 then (
    some ((-1), S)
   ) else (
    if a2 = 0 then (
     fm_b1 (m_X11_isWithin kap lam a3 9 S) fun x31 =>
     if x31 = 0 then (
      some ((-2), S)
     ) else (
      fm_gr kap 11 r0 0 S fun q41 =>
      fm_lr kap lam 16 q41 a1 S fun q45 =>
      if a2 = 0 then (
       fm_gi kap 5 q45 3 S fun x54 =>
       if a2 = 0 then (
        fm_pi kap 5 q45 3 S a3 fun S74 =>
        some (x54, S74)
       ) else (
        fm_pi kap 5 q45 4 S a3 fun S83 =>
        some (x54, S83)
       )
      ) else (
       fm_gi kap 5 q45 4 S fun x62 =>
       if a2 = 0 then (
        fm_pi kap 5 q45 3 S a3 fun S74 =>
        some (x62, S74)
       ) else (
        fm_pi kap 5 q45 4 S a3 fun S83 =>
        some (x62, S83)
       )
      )
     )
    ) else (
     fm_b1 (m_X11_isWithin kap lam a3 4095 S) fun x31 =>
     if x31 = 0 then (
      some ((-2), S)
     ) else (
      fm_gr kap 11 r0 0 S fun q41 =>
      fm_lr kap lam 16 q41 a1 S fun q45 =>
      if a2 = 0 then (
       fm_gi kap 5 q45 3 S fun x54 =>
       if a2 = 0 then (
        fm_pi kap 5 q45 3 S a3 fun S74 =>
        some (x54, S74)
       ) else (
        fm_pi kap 5 q45 4 S a3 fun S83 =>
        some (x54, S83)
       )
      ) else (
       fm_gi kap 5 q45 4 S fun x62 =>
       if a2 = 0 then (
        fm_pi kap 5 q45 3 S a3 fun S74 =>
        some (x62, S74)
       ) else (
        fm_pi kap 5 q45 4 S a3 fun S83 =>
        some (x62, S83)
       )
      )
     )
    )
   )
  )
set_option maxHeartbeats 4000000 in
set_option maxRecDepth 100000 in
theorem c_X11_set {l : Launch} {D : va_G} {ids kap lam : Nat → Nat} {RL : List Nat} {ad sk sv : Nat → Nat} {S : fm_M} {r0 : Nat} {a1 : Int32} {a2 : Int32} {a3 : Int32} {r : Int32} {u : fm_M} (hE : fm_E kap RL ad) (hf : m_X11_set kap lam r0 a1 a2 a3 S = some (r, u)) (sz : Nat) : fm_MI l y_X11_set prog_1_method_8_code 6 (Option.some Jvm.ClassFile.FieldType.int) 2 D ids kap lam RL ad sk sv S [.ref (ad r0), .int a1, .int a2, .int a3] sz r u := by
  refine fm_open rfl hE (Nat.le_of_ble_eq_true rfl) (fun p e s m args below meth c ls Z hr hlk G F N hl hsz => ?_)
  subst hsz
  obtain ⟨hx, hb, hml, hown, hts⟩ := id Z
  have hl : lv_has ls 6 [(0, .ref (ad r0)), (1, .int a1), (2, .int a2), (3, .int a3)] := hl
  unfold m_X11_set at hf
  refine lv_aload_n hx hb d_X11_set_0 rfl (lv_at hl 0 rfl) ?_
  refine lv_iload_n hx hb d_X11_set_1 rfl (lv_at hl 1 rfl) ?_
  obtain ⟨hk2, hf⟩ := fm_some hf
  refine fm_rcr G F hf (fun r ho => fm_runV (k := 1) Z G F N (As := [.int a1]) (rest := []) (c_X11_isPane hE ho _) (by rw [eq_of_beq hk2]; decide) (by rw [eq_of_beq hk2]; rfl) kw_546 kw_548 kp_9 kw_1 kw_549 yd_X11_isPane rfl (by decide) (by decide) hl.1 (Nat.le_of_ble_eq_true rfl) d_X11_set_2 (Nat.le_refl 0) (Nat.le_refl 0)) (fun x2 H locs _ F hf => ?_)
  refine lv_if_eq (tgt := 16) hx hb d_X11_set_5 (by decide) (fun c5 => ?_) (fun c5 => ?_)
  · have hf := fm_ip c5 hf
    refine lv_iconst (v := (-1)) hx hb d_X11_set_16 (by decide) ?_
    exact fm_reti Z hr hlk F d_X11_set_17 (Prod.mk.inj (Option.some.inj hf)).1 (Prod.mk.inj (Option.some.inj hf)).2
  · have hf := fm_ig c5 hf
    refine lv_iload_n hx hb d_X11_set_8 rfl (lv_at hl 2 rfl) ?_
    refine lv_iconst (v := 1) hx hb d_X11_set_9 (by decide) ?_
    refine fm_rcr G F hf (fun r ho => fm_runS (k := 2) Z G F N (As := [.int a2, .int 1]) (rest := []) (c_X11_isWithin hE ho _) kw_182 kw_183 kw_1 kw_184 yd_X11_isWithin rfl (by decide) (by decide) hl.1 (Nat.le_of_ble_eq_true rfl) d_X11_set_10 (Nat.le_refl 0) (Nat.le_refl 0)) (fun x10 H locs _ F hf => ?_)
    refine lv_if_ne (tgt := 18) hx hb d_X11_set_13 (by decide) (fun c13 => ?_) (fun c13 => ?_)
    · have hf := fm_ig c13 hf
      refine lv_iload_n hx hb d_X11_set_18 rfl (lv_at hl 3 rfl) ?_
      refine lv_iload_n hx hb d_X11_set_19 rfl (lv_at hl 2 rfl) ?_
      refine lv_if_ne (tgt := 28) hx hb d_X11_set_20 (by decide) (fun c20 => ?_) (fun c20 => ?_)
      · have hf := fm_ig c20 hf
        refine lv_sipush (v := 4095) hx hb d_X11_set_28 (by decide) ?_
        refine fm_rcr G F hf (fun r ho => fm_runS (k := 2) Z G F N (As := [.int a3, .int 4095]) (rest := []) (c_X11_isWithin hE ho _) kw_182 kw_183 kw_1 kw_184 yd_X11_isWithin rfl (by decide) (by decide) hl.1 (Nat.le_of_ble_eq_true rfl) d_X11_set_31 (Nat.le_refl 0) (Nat.le_refl 0)) (fun x31 H locs _ F hf => ?_)
        refine lv_if_ne (tgt := 40) hx hb d_X11_set_34 (by decide) (fun c34 => ?_) (fun c34 => ?_)
        · have hf := fm_ig c34 hf
          refine lv_aload_n hx hb d_X11_set_40 rfl (lv_at hl 0 rfl) ?_
          refine fm_rgr Z G F hf fr_X11_13 d_X11_set_41 (fun q41 _ hf => ?_)
          refine lv_iload_n hx hb d_X11_set_44 rfl (lv_at hl 1 rfl) ?_
          refine fm_rlr Z G F (by decide) (by decide) hf d_X11_set_45 (fun q45 _ hf => ?_)
          refine lv_astore (lv' := [(4, .ref (ad q45)), (0, .ref (ad r0)), (1, .int a1), (2, .int a2), (3, .int a3)]) hx hb d_X11_set_46 hl (by decide) rfl (fun ls hl => ?_)
          refine lv_iload_n hx hb d_X11_set_48 rfl (lv_at hl 3 rfl) ?_
          refine lv_if_ne (tgt := 60) hx hb d_X11_set_49 (by decide) (fun c49 => ?_) (fun c49 => ?_)
          · have hf := fm_ig c49 hf
            refine lv_aload hx hb d_X11_set_60 (lv_at hl 0 rfl) ?_
            refine fm_rgi Z G F hf fr_X11_128 d_X11_set_62 (fun x62 _ hf => ?_)
            refine lv_istore (lv' := [(5, .int x62), (4, .ref (ad q45)), (0, .ref (ad r0)), (1, .int a1), (2, .int a2), (3, .int a3)]) hx hb d_X11_set_65 hl (by decide) rfl (fun ls hl => ?_)
            refine lv_iload_n hx hb d_X11_set_67 rfl (lv_at hl 4 rfl) ?_
            refine lv_if_ne (tgt := 80) hx hb d_X11_set_68 (by decide) (fun c68 => ?_) (fun c68 => ?_)
            · have hf := fm_ig c68 hf
              refine lv_aload hx hb d_X11_set_80 (lv_at hl 1 rfl) ?_
              refine lv_iload_n hx hb d_X11_set_82 rfl (lv_at hl 5 rfl) ?_
              refine fm_rpi Z G F hf fs_X11_128 d_X11_set_83 (fun c h => by rcases fm_isC5 h with h | h | h | h | h | h | h <;> subst h <;> rfl) (fun S83 H locs _ F hf => ?_)
              refine lv_iload hx hb d_X11_set_86 (lv_at hl 0 rfl) ?_
              exact fm_reti Z hr hlk F d_X11_set_88 (Prod.mk.inj (Option.some.inj hf)).1 (Prod.mk.inj (Option.some.inj hf)).2
            · have hf := fm_ip c68 hf
              refine lv_aload hx hb d_X11_set_71 (lv_at hl 1 rfl) ?_
              refine lv_iload_n hx hb d_X11_set_73 rfl (lv_at hl 5 rfl) ?_
              refine fm_rpi Z G F hf fs_X11_125 d_X11_set_74 (fun c h => by rcases fm_isC5 h with h | h | h | h | h | h | h <;> subst h <;> rfl) (fun S74 H locs _ F hf => ?_)
              refine lv_goto (tgt := 86) hx hb d_X11_set_77 (by decide) ?_
              refine lv_iload hx hb d_X11_set_86 (lv_at hl 0 rfl) ?_
              exact fm_reti Z hr hlk F d_X11_set_88 (Prod.mk.inj (Option.some.inj hf)).1 (Prod.mk.inj (Option.some.inj hf)).2
          · have hf := fm_ip c49 hf
            refine lv_aload hx hb d_X11_set_52 (lv_at hl 0 rfl) ?_
            refine fm_rgi Z G F hf fr_X11_125 d_X11_set_54 (fun x54 _ hf => ?_)
            refine lv_goto (tgt := 65) hx hb d_X11_set_57 (by decide) ?_
            refine lv_istore (lv' := [(5, .int x54), (4, .ref (ad q45)), (0, .ref (ad r0)), (1, .int a1), (2, .int a2), (3, .int a3)]) hx hb d_X11_set_65 hl (by decide) rfl (fun ls hl => ?_)
            refine lv_iload_n hx hb d_X11_set_67 rfl (lv_at hl 4 rfl) ?_
            refine lv_if_ne (tgt := 80) hx hb d_X11_set_68 (by decide) (fun c68 => ?_) (fun c68 => ?_)
            · have hf := fm_ig c68 hf
              refine lv_aload hx hb d_X11_set_80 (lv_at hl 1 rfl) ?_
              refine lv_iload_n hx hb d_X11_set_82 rfl (lv_at hl 5 rfl) ?_
              refine fm_rpi Z G F hf fs_X11_128 d_X11_set_83 (fun c h => by rcases fm_isC5 h with h | h | h | h | h | h | h <;> subst h <;> rfl) (fun S83 H locs _ F hf => ?_)
              refine lv_iload hx hb d_X11_set_86 (lv_at hl 0 rfl) ?_
              exact fm_reti Z hr hlk F d_X11_set_88 (Prod.mk.inj (Option.some.inj hf)).1 (Prod.mk.inj (Option.some.inj hf)).2
            · have hf := fm_ip c68 hf
              refine lv_aload hx hb d_X11_set_71 (lv_at hl 1 rfl) ?_
              refine lv_iload_n hx hb d_X11_set_73 rfl (lv_at hl 5 rfl) ?_
              refine fm_rpi Z G F hf fs_X11_125 d_X11_set_74 (fun c h => by rcases fm_isC5 h with h | h | h | h | h | h | h <;> subst h <;> rfl) (fun S74 H locs _ F hf => ?_)
              refine lv_goto (tgt := 86) hx hb d_X11_set_77 (by decide) ?_
              refine lv_iload hx hb d_X11_set_86 (lv_at hl 0 rfl) ?_
              exact fm_reti Z hr hlk F d_X11_set_88 (Prod.mk.inj (Option.some.inj hf)).1 (Prod.mk.inj (Option.some.inj hf)).2
        · have hf := fm_ip c34 hf
          refine lv_bipush (v := (-2)) hx hb d_X11_set_37 (by decide) ?_
          exact fm_reti Z hr hlk F d_X11_set_39 (Prod.mk.inj (Option.some.inj hf)).1 (Prod.mk.inj (Option.some.inj hf)).2
      · have hf := fm_ip c20 hf
        refine lv_bipush (v := 9) hx hb d_X11_set_23 (by decide) ?_
        refine lv_goto (tgt := 31) hx hb d_X11_set_25 (by decide) ?_
        refine fm_rcr G F hf (fun r ho => fm_runS (k := 2) Z G F N (As := [.int a3, .int 9]) (rest := []) (c_X11_isWithin hE ho _) kw_182 kw_183 kw_1 kw_184 yd_X11_isWithin rfl (by decide) (by decide) hl.1 (Nat.le_of_ble_eq_true rfl) d_X11_set_31 (Nat.le_refl 0) (Nat.le_refl 0)) (fun x31 H locs _ F hf => ?_)
        refine lv_if_ne (tgt := 40) hx hb d_X11_set_34 (by decide) (fun c34 => ?_) (fun c34 => ?_)
        · have hf := fm_ig c34 hf
          refine lv_aload_n hx hb d_X11_set_40 rfl (lv_at hl 0 rfl) ?_
          refine fm_rgr Z G F hf fr_X11_13 d_X11_set_41 (fun q41 _ hf => ?_)
          refine lv_iload_n hx hb d_X11_set_44 rfl (lv_at hl 1 rfl) ?_
          refine fm_rlr Z G F (by decide) (by decide) hf d_X11_set_45 (fun q45 _ hf => ?_)
          refine lv_astore (lv' := [(4, .ref (ad q45)), (0, .ref (ad r0)), (1, .int a1), (2, .int a2), (3, .int a3)]) hx hb d_X11_set_46 hl (by decide) rfl (fun ls hl => ?_)
          refine lv_iload_n hx hb d_X11_set_48 rfl (lv_at hl 3 rfl) ?_
          refine lv_if_ne (tgt := 60) hx hb d_X11_set_49 (by decide) (fun c49 => ?_) (fun c49 => ?_)
          · have hf := fm_ig c49 hf
            refine lv_aload hx hb d_X11_set_60 (lv_at hl 0 rfl) ?_
            refine fm_rgi Z G F hf fr_X11_128 d_X11_set_62 (fun x62 _ hf => ?_)
            refine lv_istore (lv' := [(5, .int x62), (4, .ref (ad q45)), (0, .ref (ad r0)), (1, .int a1), (2, .int a2), (3, .int a3)]) hx hb d_X11_set_65 hl (by decide) rfl (fun ls hl => ?_)
            refine lv_iload_n hx hb d_X11_set_67 rfl (lv_at hl 4 rfl) ?_
            refine lv_if_ne (tgt := 80) hx hb d_X11_set_68 (by decide) (fun c68 => ?_) (fun c68 => ?_)
            · have hf := fm_ig c68 hf
              refine lv_aload hx hb d_X11_set_80 (lv_at hl 1 rfl) ?_
              refine lv_iload_n hx hb d_X11_set_82 rfl (lv_at hl 5 rfl) ?_
              refine fm_rpi Z G F hf fs_X11_128 d_X11_set_83 (fun c h => by rcases fm_isC5 h with h | h | h | h | h | h | h <;> subst h <;> rfl) (fun S83 H locs _ F hf => ?_)
              refine lv_iload hx hb d_X11_set_86 (lv_at hl 0 rfl) ?_
              exact fm_reti Z hr hlk F d_X11_set_88 (Prod.mk.inj (Option.some.inj hf)).1 (Prod.mk.inj (Option.some.inj hf)).2
            · have hf := fm_ip c68 hf
              refine lv_aload hx hb d_X11_set_71 (lv_at hl 1 rfl) ?_
              refine lv_iload_n hx hb d_X11_set_73 rfl (lv_at hl 5 rfl) ?_
              refine fm_rpi Z G F hf fs_X11_125 d_X11_set_74 (fun c h => by rcases fm_isC5 h with h | h | h | h | h | h | h <;> subst h <;> rfl) (fun S74 H locs _ F hf => ?_)
              refine lv_goto (tgt := 86) hx hb d_X11_set_77 (by decide) ?_
              refine lv_iload hx hb d_X11_set_86 (lv_at hl 0 rfl) ?_
              exact fm_reti Z hr hlk F d_X11_set_88 (Prod.mk.inj (Option.some.inj hf)).1 (Prod.mk.inj (Option.some.inj hf)).2
          · have hf := fm_ip c49 hf
            refine lv_aload hx hb d_X11_set_52 (lv_at hl 0 rfl) ?_
            refine fm_rgi Z G F hf fr_X11_125 d_X11_set_54 (fun x54 _ hf => ?_)
            refine lv_goto (tgt := 65) hx hb d_X11_set_57 (by decide) ?_
            refine lv_istore (lv' := [(5, .int x54), (4, .ref (ad q45)), (0, .ref (ad r0)), (1, .int a1), (2, .int a2), (3, .int a3)]) hx hb d_X11_set_65 hl (by decide) rfl (fun ls hl => ?_)
            refine lv_iload_n hx hb d_X11_set_67 rfl (lv_at hl 4 rfl) ?_
            refine lv_if_ne (tgt := 80) hx hb d_X11_set_68 (by decide) (fun c68 => ?_) (fun c68 => ?_)
            · have hf := fm_ig c68 hf
              refine lv_aload hx hb d_X11_set_80 (lv_at hl 1 rfl) ?_
              refine lv_iload_n hx hb d_X11_set_82 rfl (lv_at hl 5 rfl) ?_
              refine fm_rpi Z G F hf fs_X11_128 d_X11_set_83 (fun c h => by rcases fm_isC5 h with h | h | h | h | h | h | h <;> subst h <;> rfl) (fun S83 H locs _ F hf => ?_)
              refine lv_iload hx hb d_X11_set_86 (lv_at hl 0 rfl) ?_
              exact fm_reti Z hr hlk F d_X11_set_88 (Prod.mk.inj (Option.some.inj hf)).1 (Prod.mk.inj (Option.some.inj hf)).2
            · have hf := fm_ip c68 hf
              refine lv_aload hx hb d_X11_set_71 (lv_at hl 1 rfl) ?_
              refine lv_iload_n hx hb d_X11_set_73 rfl (lv_at hl 5 rfl) ?_
              refine fm_rpi Z G F hf fs_X11_125 d_X11_set_74 (fun c h => by rcases fm_isC5 h with h | h | h | h | h | h | h <;> subst h <;> rfl) (fun S74 H locs _ F hf => ?_)
              refine lv_goto (tgt := 86) hx hb d_X11_set_77 (by decide) ?_
              refine lv_iload hx hb d_X11_set_86 (lv_at hl 0 rfl) ?_
              exact fm_reti Z hr hlk F d_X11_set_88 (Prod.mk.inj (Option.some.inj hf)).1 (Prod.mk.inj (Option.some.inj hf)).2
        · have hf := fm_ip c34 hf
          refine lv_bipush (v := (-2)) hx hb d_X11_set_37 (by decide) ?_
          exact fm_reti Z hr hlk F d_X11_set_39 (Prod.mk.inj (Option.some.inj hf)).1 (Prod.mk.inj (Option.some.inj hf)).2
    · have hf := fm_ip c13 hf
      refine lv_iconst (v := (-1)) hx hb d_X11_set_16 (by decide) ?_
      exact fm_reti Z hr hlk F d_X11_set_17 (Prod.mk.inj (Option.some.inj hf)).1 (Prod.mk.inj (Option.some.inj hf)).2
theorem d_X11_cold_0 : decode prog_1_method_9_code 0 = .ok (.iload_n 1, 1) := by decide +kernel
theorem d_X11_cold_1 : decode prog_1_method_9_code 1 = .ok (.bipush 20, 2) := by decide +kernel
theorem d_X11_cold_3 : decode prog_1_method_9_code 3 = .ok (.invokestatic 85, 3) := by decide +kernel
theorem d_X11_cold_6 : decode prog_1_method_9_code 6 = .ok (.ifCond .ne 6, 3) := by decide +kernel
theorem d_X11_cold_9 : decode prog_1_method_9_code 9 = .ok (.bipush (-2), 2) := by decide +kernel
theorem d_X11_cold_11 : decode prog_1_method_9_code 11 = .ok (.ireturn, 1) := by decide +kernel
theorem d_X11_cold_12 : decode prog_1_method_9_code 12 = .ok (.aload_n 0, 1) := by decide +kernel
theorem d_X11_cold_13 : decode prog_1_method_9_code 13 = .ok (.getfield 57, 3) := by decide +kernel
theorem d_X11_cold_16 : decode prog_1_method_9_code 16 = .ok (.istore_n 2, 1) := by decide +kernel
theorem d_X11_cold_17 : decode prog_1_method_9_code 17 = .ok (.aload_n 0, 1) := by decide +kernel
theorem d_X11_cold_18 : decode prog_1_method_9_code 18 = .ok (.iload_n 1, 1) := by decide +kernel
theorem d_X11_cold_19 : decode prog_1_method_9_code 19 = .ok (.putfield 57, 3) := by decide +kernel
theorem d_X11_cold_22 : decode prog_1_method_9_code 22 = .ok (.iload_n 2, 1) := by decide +kernel
theorem d_X11_cold_23 : decode prog_1_method_9_code 23 = .ok (.ireturn, 1) := by decide +kernel
def m_X11_cold (kap lam : Nat → Nat) (r0 : Nat) (a1 : Int32) (S : fm_M) : Option (Int32 × fm_M) :=
  fm_b1 (m_X11_isWithin kap lam a1 20 S) fun x3 =>
  if x3 = 0 then (
   some ((-2), S)
  ) else (
   fm_gi kap 11 r0 8 S fun x13 =>
   fm_pi kap 11 r0 8 S a1 fun S19 =>
   some (x13, S19)
  )
set_option maxHeartbeats 4000000 in
set_option maxRecDepth 100000 in
theorem c_X11_cold {l : Launch} {D : va_G} {ids kap lam : Nat → Nat} {RL : List Nat} {ad sk sv : Nat → Nat} {S : fm_M} {r0 : Nat} {a1 : Int32} {r : Int32} {u : fm_M} (hE : fm_E kap RL ad) (hf : m_X11_cold kap lam r0 a1 S = some (r, u)) (sz : Nat) : fm_MI l y_X11_cold prog_1_method_9_code 3 (Option.some Jvm.ClassFile.FieldType.int) 1 D ids kap lam RL ad sk sv S [.ref (ad r0), .int a1] sz r u := by
  refine fm_open rfl hE (Nat.le_of_ble_eq_true rfl) (fun p e s m args below meth c ls Z hr hlk G F N hl hsz => ?_)
  subst hsz
  obtain ⟨hx, hb, hml, hown, hts⟩ := id Z
  have hl : lv_has ls 3 [(0, .ref (ad r0)), (1, .int a1)] := hl
  unfold m_X11_cold at hf
  refine lv_iload_n hx hb d_X11_cold_0 rfl (lv_at hl 1 rfl) ?_
  refine lv_bipush (v := 20) hx hb d_X11_cold_1 (by decide) ?_
  refine fm_rcr G F hf (fun r ho => fm_runS (k := 2) Z G F N (As := [.int a1, .int 20]) (rest := []) (c_X11_isWithin hE ho _) kw_182 kw_183 kw_1 kw_184 yd_X11_isWithin rfl (by decide) (by decide) hl.1 (Nat.le_of_ble_eq_true rfl) d_X11_cold_3 (Nat.le_refl 0) (Nat.le_refl 0)) (fun x3 H locs _ F hf => ?_)
  refine lv_if_ne (tgt := 12) hx hb d_X11_cold_6 (by decide) (fun c6 => ?_) (fun c6 => ?_)
  · have hf := fm_ig c6 hf
    refine lv_aload_n hx hb d_X11_cold_12 rfl (lv_at hl 0 rfl) ?_
    refine fm_rgi Z G F hf fr_X11_57 d_X11_cold_13 (fun x13 _ hf => ?_)
    refine lv_istore_n (lv' := [(2, .int x13), (0, .ref (ad r0)), (1, .int a1)]) hx hb d_X11_cold_16 rfl hl (by decide) rfl (fun ls hl => ?_)
    refine lv_aload_n hx hb d_X11_cold_17 rfl (lv_at hl 1 rfl) ?_
    refine lv_iload_n hx hb d_X11_cold_18 rfl (lv_at hl 2 rfl) ?_
    refine fm_rpi Z G F hf fs_X11_57 d_X11_cold_19 (fun c h => by have h := eq_of_beq (show (c == 11) = true from h); subst h; rfl) (fun S19 H locs _ F hf => ?_)
    refine lv_iload_n hx hb d_X11_cold_22 rfl (lv_at hl 0 rfl) ?_
    exact fm_reti Z hr hlk F d_X11_cold_23 (Prod.mk.inj (Option.some.inj hf)).1 (Prod.mk.inj (Option.some.inj hf)).2
  · have hf := fm_ip c6 hf
    refine lv_bipush (v := (-2)) hx hb d_X11_cold_9 (by decide) ?_
    exact fm_reti Z hr hlk F d_X11_cold_11 (Prod.mk.inj (Option.some.inj hf)).1 (Prod.mk.inj (Option.some.inj hf)).2
theorem d_X11_shut_0 : decode prog_1_method_10_code 0 = .ok (.aload_n 0, 1) := by decide +kernel
theorem d_X11_shut_1 : decode prog_1_method_10_code 1 = .ok (.iload_n 1, 1) := by decide +kernel
theorem d_X11_shut_2 : decode prog_1_method_10_code 2 = .ok (.invokevirtual 115, 3) := by decide +kernel
theorem d_X11_shut_5 : decode prog_1_method_10_code 5 = .ok (.ifCond .ne 5, 3) := by decide +kernel
theorem d_X11_shut_8 : decode prog_1_method_10_code 8 = .ok (.iconst (-1), 1) := by decide +kernel
theorem d_X11_shut_9 : decode prog_1_method_10_code 9 = .ok (.ireturn, 1) := by decide +kernel
theorem d_X11_shut_10 : decode prog_1_method_10_code 10 = .ok (.aload_n 0, 1) := by decide +kernel
theorem d_X11_shut_11 : decode prog_1_method_10_code 11 = .ok (.getfield 13, 3) := by decide +kernel
theorem d_X11_shut_14 : decode prog_1_method_10_code 14 = .ok (.iload_n 1, 1) := by decide +kernel
theorem d_X11_shut_15 : decode prog_1_method_10_code 15 = .ok (.aaload, 1) := by decide +kernel
theorem d_X11_shut_16 : decode prog_1_method_10_code 16 = .ok (.getfield 131, 3) := by decide +kernel
theorem d_X11_shut_19 : decode prog_1_method_10_code 19 = .ok (.istore_n 3, 1) := by decide +kernel
theorem d_X11_shut_20 : decode prog_1_method_10_code 20 = .ok (.aload_n 0, 1) := by decide +kernel
theorem d_X11_shut_21 : decode prog_1_method_10_code 21 = .ok (.getfield 13, 3) := by decide +kernel
theorem d_X11_shut_24 : decode prog_1_method_10_code 24 = .ok (.iload_n 1, 1) := by decide +kernel
theorem d_X11_shut_25 : decode prog_1_method_10_code 25 = .ok (.aaload, 1) := by decide +kernel
theorem d_X11_shut_26 : decode prog_1_method_10_code 26 = .ok (.iload_n 2, 1) := by decide +kernel
theorem d_X11_shut_27 : decode prog_1_method_10_code 27 = .ok (.putfield 131, 3) := by decide +kernel
theorem d_X11_shut_30 : decode prog_1_method_10_code 30 = .ok (.iload_n 3, 1) := by decide +kernel
theorem d_X11_shut_31 : decode prog_1_method_10_code 31 = .ok (.ifCond .eq 7, 3) := by decide +kernel
theorem d_X11_shut_34 : decode prog_1_method_10_code 34 = .ok (.iconst 1, 1) := by decide +kernel
theorem d_X11_shut_35 : decode prog_1_method_10_code 35 = .ok (.goto 4, 3) := by decide +kernel
theorem d_X11_shut_38 : decode prog_1_method_10_code 38 = .ok (.iconst 0, 1) := by decide +kernel
theorem d_X11_shut_39 : decode prog_1_method_10_code 39 = .ok (.ireturn, 1) := by decide +kernel
def m_X11_shut (kap lam : Nat → Nat) (r0 : Nat) (a1 : Int32) (a2 : Int32) (S : fm_M) : Option (Int32 × fm_M) :=
  fm_ck (kap r0 == 11) <|
  fm_b1 (m_X11_isPane kap lam r0 a1 S) fun x2 =>
  if x2 = 0 then (
   some ((-1), S)
  ) else (
   fm_gr kap 11 r0 0 S fun q11 =>
   fm_lr kap lam 16 q11 a1 S fun q15 =>
   fm_gi kap 5 q15 5 S fun x16 =>
   fm_gr kap 11 r0 0 S fun q21 =>
   fm_lr kap lam 16 q21 a1 S fun q25 =>
   fm_pz kap 5 q25 5 S a2 fun S27 =>
   if x16 = 0 then (
    some (0, S27)
   ) else (
    some (1, S27)
   )
  )
set_option maxHeartbeats 4000000 in
set_option maxRecDepth 100000 in
theorem c_X11_shut {l : Launch} {D : va_G} {ids kap lam : Nat → Nat} {RL : List Nat} {ad sk sv : Nat → Nat} {S : fm_M} {r0 : Nat} {a1 : Int32} {a2 : Int32} {r : Int32} {u : fm_M} (hE : fm_E kap RL ad) (hf : m_X11_shut kap lam r0 a1 a2 S = some (r, u)) (sz : Nat) : fm_MI l y_X11_shut prog_1_method_10_code 4 (Option.some Jvm.ClassFile.FieldType.int) 2 D ids kap lam RL ad sk sv S [.ref (ad r0), .int a1, .int a2] sz r u := by
  refine fm_open rfl hE (Nat.le_of_ble_eq_true rfl) (fun p e s m args below meth c ls Z hr hlk G F N hl hsz => ?_)
  subst hsz
  obtain ⟨hx, hb, hml, hown, hts⟩ := id Z
  have hl : lv_has ls 4 [(0, .ref (ad r0)), (1, .int a1), (2, .int a2)] := hl
  unfold m_X11_shut at hf
  refine lv_aload_n hx hb d_X11_shut_0 rfl (lv_at hl 0 rfl) ?_
  refine lv_iload_n hx hb d_X11_shut_1 rfl (lv_at hl 1 rfl) ?_
  obtain ⟨hk2, hf⟩ := fm_some hf
  refine fm_rcr G F hf (fun r ho => fm_runV (k := 1) Z G F N (As := [.int a1]) (rest := []) (c_X11_isPane hE ho _) (by rw [eq_of_beq hk2]; decide) (by rw [eq_of_beq hk2]; rfl) kw_546 kw_548 kp_9 kw_1 kw_549 yd_X11_isPane rfl (by decide) (by decide) hl.1 (Nat.le_of_ble_eq_true rfl) d_X11_shut_2 (Nat.le_refl 0) (Nat.le_refl 0)) (fun x2 H locs _ F hf => ?_)
  refine lv_if_ne (tgt := 10) hx hb d_X11_shut_5 (by decide) (fun c5 => ?_) (fun c5 => ?_)
  · have hf := fm_ig c5 hf
    refine lv_aload_n hx hb d_X11_shut_10 rfl (lv_at hl 0 rfl) ?_
    refine fm_rgr Z G F hf fr_X11_13 d_X11_shut_11 (fun q11 _ hf => ?_)
    refine lv_iload_n hx hb d_X11_shut_14 rfl (lv_at hl 1 rfl) ?_
    refine fm_rlr Z G F (by decide) (by decide) hf d_X11_shut_15 (fun q15 _ hf => ?_)
    refine fm_rgi Z G F hf fr_X11_131 d_X11_shut_16 (fun x16 _ hf => ?_)
    refine lv_istore_n (lv' := [(3, .int x16), (0, .ref (ad r0)), (1, .int a1), (2, .int a2)]) hx hb d_X11_shut_19 rfl hl (by decide) rfl (fun ls hl => ?_)
    refine lv_aload_n hx hb d_X11_shut_20 rfl (lv_at hl 1 rfl) ?_
    refine fm_rgr Z G F hf fr_X11_13 d_X11_shut_21 (fun q21 _ hf => ?_)
    refine lv_iload_n hx hb d_X11_shut_24 rfl (lv_at hl 2 rfl) ?_
    refine fm_rlr Z G F (by decide) (by decide) hf d_X11_shut_25 (fun q25 _ hf => ?_)
    refine lv_iload_n hx hb d_X11_shut_26 rfl (lv_at hl 3 rfl) ?_
    refine fm_rpz Z G F hf fs_X11_131 d_X11_shut_27 (fun c h => by rcases fm_isC5 h with h | h | h | h | h | h | h <;> subst h <;> rfl) (fun S27 H locs _ F hf => ?_)
    refine lv_iload_n hx hb d_X11_shut_30 rfl (lv_at hl 0 rfl) ?_
    refine lv_if_eq (tgt := 38) hx hb d_X11_shut_31 (by decide) (fun c31 => ?_) (fun c31 => ?_)
    · have hf := fm_ip c31 hf
      refine lv_iconst (v := 0) hx hb d_X11_shut_38 (by decide) ?_
      exact fm_reti Z hr hlk F d_X11_shut_39 (Prod.mk.inj (Option.some.inj hf)).1 (Prod.mk.inj (Option.some.inj hf)).2
    · have hf := fm_ig c31 hf
      refine lv_iconst (v := 1) hx hb d_X11_shut_34 (by decide) ?_
      refine lv_goto (tgt := 39) hx hb d_X11_shut_35 (by decide) ?_
      exact fm_reti Z hr hlk F d_X11_shut_39 (Prod.mk.inj (Option.some.inj hf)).1 (Prod.mk.inj (Option.some.inj hf)).2
  · have hf := fm_ip c5 hf
    refine lv_iconst (v := (-1)) hx hb d_X11_shut_8 (by decide) ?_
    exact fm_reti Z hr hlk F d_X11_shut_9 (Prod.mk.inj (Option.some.inj hf)).1 (Prod.mk.inj (Option.some.inj hf)).2
theorem d_X11_breathe_0 : decode prog_1_method_11_code 0 = .ok (.aload_n 0, 1) := by decide +kernel
theorem d_X11_breathe_1 : decode prog_1_method_11_code 1 = .ok (.iload_n 1, 1) := by decide +kernel
theorem d_X11_breathe_2 : decode prog_1_method_11_code 2 = .ok (.invokevirtual 115, 3) := by decide +kernel
theorem d_X11_breathe_5 : decode prog_1_method_11_code 5 = .ok (.ifCond .ne 5, 3) := by decide +kernel
theorem d_X11_breathe_8 : decode prog_1_method_11_code 8 = .ok (.iconst (-1), 1) := by decide +kernel
theorem d_X11_breathe_9 : decode prog_1_method_11_code 9 = .ok (.ireturn, 1) := by decide +kernel
theorem d_X11_breathe_10 : decode prog_1_method_11_code 10 = .ok (.aload_n 0, 1) := by decide +kernel
theorem d_X11_breathe_11 : decode prog_1_method_11_code 11 = .ok (.invokevirtual 135, 3) := by decide +kernel
theorem d_X11_breathe_14 : decode prog_1_method_11_code 14 = .ok (.aload_n 0, 1) := by decide +kernel
theorem d_X11_breathe_15 : decode prog_1_method_11_code 15 = .ok (.getfield 13, 3) := by decide +kernel
theorem d_X11_breathe_18 : decode prog_1_method_11_code 18 = .ok (.iload_n 1, 1) := by decide +kernel
theorem d_X11_breathe_19 : decode prog_1_method_11_code 19 = .ok (.aaload, 1) := by decide +kernel
theorem d_X11_breathe_20 : decode prog_1_method_11_code 20 = .ok (.getfield 128, 3) := by decide +kernel
theorem d_X11_breathe_23 : decode prog_1_method_11_code 23 = .ok (.invokevirtual 139, 3) := by decide +kernel
theorem d_X11_breathe_26 : decode prog_1_method_11_code 26 = .ok (.istore_n 2, 1) := by decide +kernel
theorem d_X11_breathe_27 : decode prog_1_method_11_code 27 = .ok (.aload_n 0, 1) := by decide +kernel
theorem d_X11_breathe_28 : decode prog_1_method_11_code 28 = .ok (.ldc 157, 2) := by decide +kernel
theorem d_X11_breathe_30 : decode prog_1_method_11_code 30 = .ok (.aload_n 0, 1) := by decide +kernel
theorem d_X11_breathe_31 : decode prog_1_method_11_code 31 = .ok (.getfield 60, 3) := by decide +kernel
theorem d_X11_breathe_34 : decode prog_1_method_11_code 34 = .ok (.iload_n 2, 1) := by decide +kernel
theorem d_X11_breathe_35 : decode prog_1_method_11_code 35 = .ok (.iadd, 1) := by decide +kernel
theorem d_X11_breathe_36 : decode prog_1_method_11_code 36 = .ok (.invokestatic 158, 3) := by decide +kernel
theorem d_X11_breathe_39 : decode prog_1_method_11_code 39 = .ok (.putfield 60, 3) := by decide +kernel
theorem d_X11_breathe_42 : decode prog_1_method_11_code 42 = .ok (.aload_n 0, 1) := by decide +kernel
theorem d_X11_breathe_43 : decode prog_1_method_11_code 43 = .ok (.getfield 13, 3) := by decide +kernel
theorem d_X11_breathe_46 : decode prog_1_method_11_code 46 = .ok (.iload_n 1, 1) := by decide +kernel
theorem d_X11_breathe_47 : decode prog_1_method_11_code 47 = .ok (.aaload, 1) := by decide +kernel
theorem d_X11_breathe_48 : decode prog_1_method_11_code 48 = .ok (.iconst 0, 1) := by decide +kernel
theorem d_X11_breathe_49 : decode prog_1_method_11_code 49 = .ok (.putfield 128, 3) := by decide +kernel
theorem d_X11_breathe_52 : decode prog_1_method_11_code 52 = .ok (.iload_n 2, 1) := by decide +kernel
theorem d_X11_breathe_53 : decode prog_1_method_11_code 53 = .ok (.ireturn, 1) := by decide +kernel
def m_X11_breathe (kap lam : Nat → Nat) (r0 : Nat) (a1 : Int32) (S : fm_M) : Option (Int32 × fm_M) :=
  fm_ck (kap r0 == 11) <|
  fm_b1 (m_X11_isPane kap lam r0 a1 S) fun x2 =>
  if x2 = 0 then (
   some ((-1), S)
  ) else (
   fm_ck (kap r0 == 11) <|
   fm_b1 (m_X11_heldTown kap lam r0 S) fun q11 =>
   fm_gr kap 11 r0 0 S fun q15 =>
   fm_lr kap lam 16 q15 a1 S fun q19 =>
   fm_gi kap 5 q19 4 S fun x20 =>
   fm_ck (kap q11 == 10) <|
   fm_b1 (m_X10_offerOf kap lam q11 x20 S) fun x23 =>
   fm_gi kap 11 r0 9 S fun x31 =>
   fm_let (if (x31 + x23) < 999999 then (x31 + x23) else 999999 : Int32) fun x36 =>
   fm_pi kap 11 r0 9 S x36 fun S39 =>
   fm_gr kap 11 r0 0 S39 fun q43 =>
   fm_lr kap lam 16 q43 a1 S39 fun q47 =>
   fm_pi kap 5 q47 4 S39 0 fun S49 =>
   some (x23, S49)
  )
set_option maxHeartbeats 4000000 in
set_option maxRecDepth 100000 in
theorem c_X11_breathe {l : Launch} {D : va_G} {ids kap lam : Nat → Nat} {RL : List Nat} {ad sk sv : Nat → Nat} {S : fm_M} {r0 : Nat} {a1 : Int32} {r : Int32} {u : fm_M} (hE : fm_E kap RL ad) (hf : m_X11_breathe kap lam r0 a1 S = some (r, u)) (sz : Nat) : fm_MI l y_X11_breathe prog_1_method_11_code 3 (Option.some Jvm.ClassFile.FieldType.int) 2 D ids kap lam RL ad sk sv S [.ref (ad r0), .int a1] sz r u := by
  refine fm_open rfl hE (Nat.le_of_ble_eq_true rfl) (fun p e s m args below meth c ls Z hr hlk G F N hl hsz => ?_)
  subst hsz
  obtain ⟨hx, hb, hml, hown, hts⟩ := id Z
  have hl : lv_has ls 3 [(0, .ref (ad r0)), (1, .int a1)] := hl
  unfold m_X11_breathe at hf
  refine lv_aload_n hx hb d_X11_breathe_0 rfl (lv_at hl 0 rfl) ?_
  refine lv_iload_n hx hb d_X11_breathe_1 rfl (lv_at hl 1 rfl) ?_
  obtain ⟨hk2, hf⟩ := fm_some hf
  refine fm_rcr G F hf (fun r ho => fm_runV (k := 1) Z G F N (As := [.int a1]) (rest := []) (c_X11_isPane hE ho _) (by rw [eq_of_beq hk2]; decide) (by rw [eq_of_beq hk2]; rfl) kw_546 kw_548 kp_9 kw_1 kw_549 yd_X11_isPane rfl (by decide) (by decide) hl.1 (Nat.le_of_ble_eq_true rfl) d_X11_breathe_2 (Nat.le_refl 0) (Nat.le_refl 0)) (fun x2 H locs _ F hf => ?_)
  refine lv_if_ne (tgt := 10) hx hb d_X11_breathe_5 (by decide) (fun c5 => ?_) (fun c5 => ?_)
  · have hf := fm_ig c5 hf
    refine lv_aload_n hx hb d_X11_breathe_10 rfl (lv_at hl 0 rfl) ?_
    obtain ⟨hk11, hf⟩ := fm_some hf
    refine fm_rcq G F hf (fun r ho => fm_runV (k := 0) Z G F N (As := []) (rest := []) (c_X11_heldTown hE ho _) (by rw [eq_of_beq hk11]; decide) (by rw [eq_of_beq hk11]; rfl) kw_550 kw_552 kp_10 kw_1 kw_553 yd_X11_heldTown rfl (by decide) (by decide) hl.1 (Nat.le_of_ble_eq_true rfl) d_X11_breathe_11 (Nat.le_refl 0) (Nat.le_refl 0)) (fun q11 H locs _ F hf => ?_)
    refine lv_aload_n hx hb d_X11_breathe_14 rfl (lv_at hl 0 rfl) ?_
    refine fm_rgr Z G F hf fr_X11_13 d_X11_breathe_15 (fun q15 _ hf => ?_)
    refine lv_iload_n hx hb d_X11_breathe_18 rfl (lv_at hl 1 rfl) ?_
    refine fm_rlr Z G F (by decide) (by decide) hf d_X11_breathe_19 (fun q19 _ hf => ?_)
    refine fm_rgi Z G F hf fr_X11_128 d_X11_breathe_20 (fun x20 _ hf => ?_)
    obtain ⟨hk23, hf⟩ := fm_some hf
    refine fm_rcr G F hf (fun r ho => fm_runV (k := 1) Z G F N (As := [.int x20]) (rest := []) (c_X10_offerOf hE ho _) (by rw [eq_of_beq hk23]; decide) (by rw [eq_of_beq hk23]; rfl) kw_554 kw_555 kw_556 kw_2 kw_557 yd_X10_offerOf rfl (by decide) (by decide) hl.1 (Nat.le_of_ble_eq_true rfl) d_X11_breathe_23 (Nat.le_refl 0) (Nat.le_refl 0)) (fun x23 H locs _ F hf => ?_)
    refine lv_istore_n (lv' := [(2, .int x23), (0, .ref (ad r0)), (1, .int a1)]) hx hb d_X11_breathe_26 rfl hl (by decide) rfl (fun ls hl => ?_)
    refine lv_aload_n hx hb d_X11_breathe_27 rfl (lv_at hl 1 rfl) ?_
    refine lv_ldc (v := 999999) hx hb hown (hts _ (fm_in kw_652 rfl)) d_X11_breathe_28 ?_
    refine lv_aload_n hx hb d_X11_breathe_30 rfl (lv_at hl 1 rfl) ?_
    refine fm_rgi Z G F hf fr_X11_60 d_X11_breathe_31 (fun x31 _ hf => ?_)
    refine lv_iload_n hx hb d_X11_breathe_34 rfl (lv_at hl 0 rfl) ?_
    refine lv_iadd hx hb d_X11_breathe_35 ?_
    refine va_mmin hx hb (hml.trans hl.1.symm) hown (hts _ (fm_in kw_653 rfl)) (hts _ (fm_in kw_198 rfl)) (hts _ (fm_in kw_4 rfl)) (hts _ (fm_in kw_199 rfl)) (by decide) (Nat.le_of_ble_eq_true rfl) (by decide) (by decide) d_X11_breathe_36 ?_
    refine lv_topi (fun x36 ex36 => ?_)
    have hf := fm_let_at ex36 hf
    refine fm_rpi Z G F hf fs_X11_60 d_X11_breathe_39 (fun c h => by have h := eq_of_beq (show (c == 11) = true from h); subst h; rfl) (fun S39 H locs _ F hf => ?_)
    refine lv_aload_n hx hb d_X11_breathe_42 rfl (lv_at hl 1 rfl) ?_
    refine fm_rgr Z G F hf fr_X11_13 d_X11_breathe_43 (fun q43 _ hf => ?_)
    refine lv_iload_n hx hb d_X11_breathe_46 rfl (lv_at hl 2 rfl) ?_
    refine fm_rlr Z G F (by decide) (by decide) hf d_X11_breathe_47 (fun q47 _ hf => ?_)
    refine lv_iconst (v := 0) hx hb d_X11_breathe_48 (by decide) ?_
    refine fm_rpi Z G F hf fs_X11_128 d_X11_breathe_49 (fun c h => by rcases fm_isC5 h with h | h | h | h | h | h | h <;> subst h <;> rfl) (fun S49 H locs _ F hf => ?_)
    refine lv_iload_n hx hb d_X11_breathe_52 rfl (lv_at hl 0 rfl) ?_
    exact fm_reti Z hr hlk F d_X11_breathe_53 (Prod.mk.inj (Option.some.inj hf)).1 (Prod.mk.inj (Option.some.inj hf)).2
  · have hf := fm_ip c5 hf
    refine lv_iconst (v := (-1)) hx hb d_X11_breathe_8 (by decide) ?_
    exact fm_reti Z hr hlk F d_X11_breathe_9 (Prod.mk.inj (Option.some.inj hf)).1 (Prod.mk.inj (Option.some.inj hf)).2
theorem d_X11_told_0 : decode prog_1_method_12_code 0 = .ok (.iload_n 1, 1) := by decide +kernel
theorem d_X11_told_1 : decode prog_1_method_12_code 1 = .ok (.tableswitch 85 0 6 #[43, 48, 53, 61, 69, 74, 80], 43) := by decide +kernel
theorem d_X11_told_44 : decode prog_1_method_12_code 44 = .ok (.aload_n 0, 1) := by decide +kernel
theorem d_X11_told_45 : decode prog_1_method_12_code 45 = .ok (.getfield 63, 3) := by decide +kernel
theorem d_X11_told_48 : decode prog_1_method_12_code 48 = .ok (.ireturn, 1) := by decide +kernel
theorem d_X11_told_49 : decode prog_1_method_12_code 49 = .ok (.aload_n 0, 1) := by decide +kernel
theorem d_X11_told_50 : decode prog_1_method_12_code 50 = .ok (.getfield 57, 3) := by decide +kernel
theorem d_X11_told_53 : decode prog_1_method_12_code 53 = .ok (.ireturn, 1) := by decide +kernel
theorem d_X11_told_54 : decode prog_1_method_12_code 54 = .ok (.aload_n 0, 1) := by decide +kernel
theorem d_X11_told_55 : decode prog_1_method_12_code 55 = .ok (.invokevirtual 135, 3) := by decide +kernel
theorem d_X11_told_58 : decode prog_1_method_12_code 58 = .ok (.getfield 163, 3) := by decide +kernel
theorem d_X11_told_61 : decode prog_1_method_12_code 61 = .ok (.ireturn, 1) := by decide +kernel
theorem d_X11_told_62 : decode prog_1_method_12_code 62 = .ok (.aload_n 0, 1) := by decide +kernel
theorem d_X11_told_63 : decode prog_1_method_12_code 63 = .ok (.invokevirtual 135, 3) := by decide +kernel
theorem d_X11_told_66 : decode prog_1_method_12_code 66 = .ok (.getfield 166, 3) := by decide +kernel
theorem d_X11_told_69 : decode prog_1_method_12_code 69 = .ok (.ireturn, 1) := by decide +kernel
theorem d_X11_told_70 : decode prog_1_method_12_code 70 = .ok (.aload_n 0, 1) := by decide +kernel
theorem d_X11_told_71 : decode prog_1_method_12_code 71 = .ok (.getfield 60, 3) := by decide +kernel
theorem d_X11_told_74 : decode prog_1_method_12_code 74 = .ok (.ireturn, 1) := by decide +kernel
theorem d_X11_told_75 : decode prog_1_method_12_code 75 = .ok (.aload_n 0, 1) := by decide +kernel
theorem d_X11_told_76 : decode prog_1_method_12_code 76 = .ok (.iconst 0, 1) := by decide +kernel
theorem d_X11_told_77 : decode prog_1_method_12_code 77 = .ok (.invokevirtual 169, 3) := by decide +kernel
theorem d_X11_told_80 : decode prog_1_method_12_code 80 = .ok (.ireturn, 1) := by decide +kernel
theorem d_X11_told_81 : decode prog_1_method_12_code 81 = .ok (.aload_n 0, 1) := by decide +kernel
theorem d_X11_told_82 : decode prog_1_method_12_code 82 = .ok (.invokevirtual 172, 3) := by decide +kernel
theorem d_X11_told_85 : decode prog_1_method_12_code 85 = .ok (.ireturn, 1) := by decide +kernel
theorem d_X11_told_86 : decode prog_1_method_12_code 86 = .ok (.iconst (-1), 1) := by decide +kernel
theorem d_X11_told_87 : decode prog_1_method_12_code 87 = .ok (.ireturn, 1) := by decide +kernel
def m_X11_told (kap lam : Nat → Nat) (r0 : Nat) (a1 : Int32) (S : fm_M) : Option (Int32 × fm_M) :=
  if a1 = 0 then (
   fm_gi kap 11 r0 10 S fun x45 =>
   some (x45, S)
  ) else (
   if a1 = 1 then (
    fm_gi kap 11 r0 8 S fun x50 =>
    some (x50, S)
   ) else (
    if a1 = 2 then (
     fm_ck (kap r0 == 11) <|
     fm_b1 (m_X11_heldTown kap lam r0 S) fun q55 =>
     fm_gi kap 10 q55 0 S fun x58 =>
     some (x58, S)
    ) else (
     if a1 = 3 then (
      fm_ck (kap r0 == 11) <|
      fm_b1 (m_X11_heldTown kap lam r0 S) fun q63 =>
      fm_gi kap 10 q63 1 S fun x66 =>
      some (x66, S)
     ) else (
      if a1 = 4 then (
       fm_gi kap 11 r0 9 S fun x71 =>
       some (x71, S)
      ) else (
       if a1 = 5 then (
        fm_ck (kap r0 == 11) <|
        fm_bi (m_X11_offersBehind kap lam r0 0 S) fun x77 S77 =>
        some (x77, S77)
       ) else (
        if a1 = 6 then (
         fm_ck (kap r0 == 11) <|
         fm_b1 (m_X11_shutPanes kap lam r0 S) fun x82 =>
         some (x82, S)
        ) else (
         some ((-1), S)
        )
       )
      )
     )
    )
   )
  )
set_option maxHeartbeats 4000000 in
set_option maxRecDepth 100000 in
theorem c_X11_told {l : Launch} {D : va_G} {ids kap lam : Nat → Nat} {RL : List Nat} {ad sk sv : Nat → Nat} {S : fm_M} {r0 : Nat} {a1 : Int32} {r : Int32} {u : fm_M} (hE : fm_E kap RL ad) (hf : m_X11_told kap lam r0 a1 S = some (r, u)) (sz : Nat) : fm_MI l y_X11_told prog_1_method_12_code 2 (Option.some Jvm.ClassFile.FieldType.int) 7 D ids kap lam RL ad sk sv S [.ref (ad r0), .int a1] sz r u := by
  refine fm_open rfl hE (Nat.le_of_ble_eq_true rfl) (fun p e s m args below meth c ls Z hr hlk G F N hl hsz => ?_)
  subst hsz
  obtain ⟨hx, hb, hml, hown, hts⟩ := id Z
  have hl : lv_has ls 2 [(0, .ref (ad r0)), (1, .int a1)] := hl
  unfold m_X11_told at hf
  refine lv_iload_n hx hb d_X11_told_0 rfl (lv_at hl 1 rfl) ?_
  by_cases w1_0 : a1 = 0
  · have hf := fm_ip w1_0 hf
    refine lv_tableIn (off := 43) (tgt := 44) hx hb d_X11_told_1 (by rw [w1_0]; decide) (by rw [w1_0]; decide) (by rw [w1_0]; rfl) (by decide) ?_
    refine lv_aload_n hx hb d_X11_told_44 rfl (lv_at hl 0 rfl) ?_
    refine fm_rgi Z G F hf fr_X11_63 d_X11_told_45 (fun x45 _ hf => ?_)
    exact fm_reti Z hr hlk F d_X11_told_48 (Prod.mk.inj (Option.some.inj hf)).1 (Prod.mk.inj (Option.some.inj hf)).2
  have hf := fm_ig w1_0 hf
  by_cases w1_1 : a1 = 1
  · have hf := fm_ip w1_1 hf
    refine lv_tableIn (off := 48) (tgt := 49) hx hb d_X11_told_1 (by rw [w1_1]; decide) (by rw [w1_1]; decide) (by rw [w1_1]; rfl) (by decide) ?_
    refine lv_aload_n hx hb d_X11_told_49 rfl (lv_at hl 0 rfl) ?_
    refine fm_rgi Z G F hf fr_X11_57 d_X11_told_50 (fun x50 _ hf => ?_)
    exact fm_reti Z hr hlk F d_X11_told_53 (Prod.mk.inj (Option.some.inj hf)).1 (Prod.mk.inj (Option.some.inj hf)).2
  have hf := fm_ig w1_1 hf
  by_cases w1_2 : a1 = 2
  · have hf := fm_ip w1_2 hf
    refine lv_tableIn (off := 53) (tgt := 54) hx hb d_X11_told_1 (by rw [w1_2]; decide) (by rw [w1_2]; decide) (by rw [w1_2]; rfl) (by decide) ?_
    refine lv_aload_n hx hb d_X11_told_54 rfl (lv_at hl 0 rfl) ?_
    obtain ⟨hk55, hf⟩ := fm_some hf
    refine fm_rcq G F hf (fun r ho => fm_runV (k := 0) Z G F N (As := []) (rest := []) (c_X11_heldTown hE ho _) (by rw [eq_of_beq hk55]; decide) (by rw [eq_of_beq hk55]; rfl) kw_550 kw_552 kp_10 kw_1 kw_553 yd_X11_heldTown rfl (by decide) (by decide) hl.1 (Nat.le_of_ble_eq_true rfl) d_X11_told_55 (Nat.le_refl 0) (Nat.le_refl 0)) (fun q55 H locs _ F hf => ?_)
    refine fm_rgi Z G F hf fr_X11_163 d_X11_told_58 (fun x58 _ hf => ?_)
    exact fm_reti Z hr hlk F d_X11_told_61 (Prod.mk.inj (Option.some.inj hf)).1 (Prod.mk.inj (Option.some.inj hf)).2
  have hf := fm_ig w1_2 hf
  by_cases w1_3 : a1 = 3
  · have hf := fm_ip w1_3 hf
    refine lv_tableIn (off := 61) (tgt := 62) hx hb d_X11_told_1 (by rw [w1_3]; decide) (by rw [w1_3]; decide) (by rw [w1_3]; rfl) (by decide) ?_
    refine lv_aload_n hx hb d_X11_told_62 rfl (lv_at hl 0 rfl) ?_
    obtain ⟨hk63, hf⟩ := fm_some hf
    refine fm_rcq G F hf (fun r ho => fm_runV (k := 0) Z G F N (As := []) (rest := []) (c_X11_heldTown hE ho _) (by rw [eq_of_beq hk63]; decide) (by rw [eq_of_beq hk63]; rfl) kw_550 kw_552 kp_10 kw_1 kw_553 yd_X11_heldTown rfl (by decide) (by decide) hl.1 (Nat.le_of_ble_eq_true rfl) d_X11_told_63 (Nat.le_refl 0) (Nat.le_refl 0)) (fun q63 H locs _ F hf => ?_)
    refine fm_rgi Z G F hf fr_X11_166 d_X11_told_66 (fun x66 _ hf => ?_)
    exact fm_reti Z hr hlk F d_X11_told_69 (Prod.mk.inj (Option.some.inj hf)).1 (Prod.mk.inj (Option.some.inj hf)).2
  have hf := fm_ig w1_3 hf
  by_cases w1_4 : a1 = 4
  · have hf := fm_ip w1_4 hf
    refine lv_tableIn (off := 69) (tgt := 70) hx hb d_X11_told_1 (by rw [w1_4]; decide) (by rw [w1_4]; decide) (by rw [w1_4]; rfl) (by decide) ?_
    refine lv_aload_n hx hb d_X11_told_70 rfl (lv_at hl 0 rfl) ?_
    refine fm_rgi Z G F hf fr_X11_60 d_X11_told_71 (fun x71 _ hf => ?_)
    exact fm_reti Z hr hlk F d_X11_told_74 (Prod.mk.inj (Option.some.inj hf)).1 (Prod.mk.inj (Option.some.inj hf)).2
  have hf := fm_ig w1_4 hf
  by_cases w1_5 : a1 = 5
  · have hf := fm_ip w1_5 hf
    refine lv_tableIn (off := 74) (tgt := 75) hx hb d_X11_told_1 (by rw [w1_5]; decide) (by rw [w1_5]; decide) (by rw [w1_5]; rfl) (by decide) ?_
    refine lv_aload_n hx hb d_X11_told_75 rfl (lv_at hl 0 rfl) ?_
    refine lv_iconst (v := 0) hx hb d_X11_told_76 (by decide) ?_
    obtain ⟨hk77, hf⟩ := fm_some hf
    refine fm_rci G F hf (fun r u ho => fm_runV (k := 1) Z G F N (As := [.int 0]) (rest := []) (c_X11_offersBehind hE ho _) (by rw [eq_of_beq hk77]; decide) (by rw [eq_of_beq hk77]; rfl) kw_658 kw_660 kp_16 kw_1 kw_661 yd_X11_offersBehind rfl (by decide) (by decide) hl.1 (Nat.le_of_ble_eq_true rfl) d_X11_told_77 (Nat.le_refl 0) (Nat.le_refl 0)) (fun x77 S77 H locs _ F hf => ?_)
    exact fm_reti Z hr hlk F d_X11_told_80 (Prod.mk.inj (Option.some.inj hf)).1 (Prod.mk.inj (Option.some.inj hf)).2
  have hf := fm_ig w1_5 hf
  by_cases w1_6 : a1 = 6
  · have hf := fm_ip w1_6 hf
    refine lv_tableIn (off := 80) (tgt := 81) hx hb d_X11_told_1 (by rw [w1_6]; decide) (by rw [w1_6]; decide) (by rw [w1_6]; rfl) (by decide) ?_
    refine lv_aload_n hx hb d_X11_told_81 rfl (lv_at hl 0 rfl) ?_
    obtain ⟨hk82, hf⟩ := fm_some hf
    refine fm_rcr G F hf (fun r ho => fm_runV (k := 0) Z G F N (As := []) (rest := []) (c_X11_shutPanes hE ho _) (by rw [eq_of_beq hk82]; decide) (by rw [eq_of_beq hk82]; rfl) kw_676 kw_678 kp_17 kw_1 kw_679 yd_X11_shutPanes rfl (by decide) (by decide) hl.1 (Nat.le_of_ble_eq_true rfl) d_X11_told_82 (Nat.le_refl 0) (Nat.le_refl 0)) (fun x82 H locs _ F hf => ?_)
    exact fm_reti Z hr hlk F d_X11_told_85 (Prod.mk.inj (Option.some.inj hf)).1 (Prod.mk.inj (Option.some.inj hf)).2
  have hf := fm_ig w1_6 hf
  have z1_0 := lv_neT (a := 0) w1_0 (by decide)
  have z1_1 := lv_neT (a := 1) w1_1 (by decide)
  have z1_2 := lv_neT (a := 2) w1_2 (by decide)
  have z1_3 := lv_neT (a := 3) w1_3 (by decide)
  have z1_4 := lv_neT (a := 4) w1_4 (by decide)
  have z1_5 := lv_neT (a := 5) w1_5 (by decide)
  have z1_6 := lv_neT (a := 6) w1_6 (by decide)
  refine lv_tableOut (tgt := 86) hx hb d_X11_told_1 (by omega) (by decide) ?_
  refine lv_iconst (v := (-1)) hx hb d_X11_told_86 (by decide) ?_
  exact fm_reti Z hr hlk F d_X11_told_87 (Prod.mk.inj (Option.some.inj hf)).1 (Prod.mk.inj (Option.some.inj hf)).2
theorem d_X11_pass_0 : decode prog_1_method_13_code 0 = .ok (.iload_n 1, 1) := by decide +kernel
theorem d_X11_pass_1 : decode prog_1_method_13_code 1 = .ok (.bipush 60, 2) := by decide +kernel
theorem d_X11_pass_3 : decode prog_1_method_13_code 3 = .ok (.invokestatic 85, 3) := by decide +kernel
theorem d_X11_pass_6 : decode prog_1_method_13_code 6 = .ok (.ifCond .ne 6, 3) := by decide +kernel
theorem d_X11_pass_9 : decode prog_1_method_13_code 9 = .ok (.bipush (-2), 2) := by decide +kernel
theorem d_X11_pass_11 : decode prog_1_method_13_code 11 = .ok (.ireturn, 1) := by decide +kernel
theorem d_X11_pass_12 : decode prog_1_method_13_code 12 = .ok (.aload_n 0, 1) := by decide +kernel
theorem d_X11_pass_13 : decode prog_1_method_13_code 13 = .ok (.getfield 63, 3) := by decide +kernel
theorem d_X11_pass_16 : decode prog_1_method_13_code 16 = .ok (.iload_n 1, 1) := by decide +kernel
theorem d_X11_pass_17 : decode prog_1_method_13_code 17 = .ok (.iadd, 1) := by decide +kernel
theorem d_X11_pass_18 : decode prog_1_method_13_code 18 = .ok (.sipush 9999, 3) := by decide +kernel
theorem d_X11_pass_21 : decode prog_1_method_13_code 21 = .ok (.if_icmp .le 6, 3) := by decide +kernel
theorem d_X11_pass_24 : decode prog_1_method_13_code 24 = .ok (.bipush (-3), 2) := by decide +kernel
theorem d_X11_pass_26 : decode prog_1_method_13_code 26 = .ok (.ireturn, 1) := by decide +kernel
theorem d_X11_pass_27 : decode prog_1_method_13_code 27 = .ok (.iconst 0, 1) := by decide +kernel
theorem d_X11_pass_28 : decode prog_1_method_13_code 28 = .ok (.istore_n 2, 1) := by decide +kernel
theorem d_X11_pass_29 : decode prog_1_method_13_code 29 = .ok (.iload_n 2, 1) := by decide +kernel
theorem d_X11_pass_30 : decode prog_1_method_13_code 30 = .ok (.aload_n 0, 1) := by decide +kernel
theorem d_X11_pass_31 : decode prog_1_method_13_code 31 = .ok (.getfield 23, 3) := by decide +kernel
theorem d_X11_pass_34 : decode prog_1_method_13_code 34 = .ok (.if_icmp .ge 24, 3) := by decide +kernel
theorem d_X11_pass_37 : decode prog_1_method_13_code 37 = .ok (.aload_n 0, 1) := by decide +kernel
theorem d_X11_pass_38 : decode prog_1_method_13_code 38 = .ok (.getfield 13, 3) := by decide +kernel
theorem d_X11_pass_41 : decode prog_1_method_13_code 41 = .ok (.iload_n 2, 1) := by decide +kernel
theorem d_X11_pass_42 : decode prog_1_method_13_code 42 = .ok (.aaload, 1) := by decide +kernel
theorem d_X11_pass_43 : decode prog_1_method_13_code 43 = .ok (.aload_n 0, 1) := by decide +kernel
theorem d_X11_pass_44 : decode prog_1_method_13_code 44 = .ok (.iload_n 2, 1) := by decide +kernel
theorem d_X11_pass_45 : decode prog_1_method_13_code 45 = .ok (.iload_n 1, 1) := by decide +kernel
theorem d_X11_pass_46 : decode prog_1_method_13_code 46 = .ok (.invokevirtual 175, 3) := by decide +kernel
theorem d_X11_pass_49 : decode prog_1_method_13_code 49 = .ok (.putfield 128, 3) := by decide +kernel
theorem d_X11_pass_52 : decode prog_1_method_13_code 52 = .ok (.iinc 2 1, 3) := by decide +kernel
theorem d_X11_pass_55 : decode prog_1_method_13_code 55 = .ok (.goto (-26), 3) := by decide +kernel
theorem d_X11_pass_58 : decode prog_1_method_13_code 58 = .ok (.aload_n 0, 1) := by decide +kernel
theorem d_X11_pass_59 : decode prog_1_method_13_code 59 = .ok (.dup, 1) := by decide +kernel
theorem d_X11_pass_60 : decode prog_1_method_13_code 60 = .ok (.getfield 63, 3) := by decide +kernel
theorem d_X11_pass_63 : decode prog_1_method_13_code 63 = .ok (.iload_n 1, 1) := by decide +kernel
theorem d_X11_pass_64 : decode prog_1_method_13_code 64 = .ok (.iadd, 1) := by decide +kernel
theorem d_X11_pass_65 : decode prog_1_method_13_code 65 = .ok (.putfield 63, 3) := by decide +kernel
theorem d_X11_pass_68 : decode prog_1_method_13_code 68 = .ok (.aload_n 0, 1) := by decide +kernel
theorem d_X11_pass_69 : decode prog_1_method_13_code 69 = .ok (.getfield 63, 3) := by decide +kernel
theorem d_X11_pass_72 : decode prog_1_method_13_code 72 = .ok (.ireturn, 1) := by decide +kernel
def k_X11_pass_29 (kap lam : Nat → Nat) (go29 : Nat → Int32 → Int32 → fm_M → Option (Int32 × fm_M)) (r0 : Nat) (a1 : Int32) (a2 : Int32)  (S : fm_M) : Option (Int32 × fm_M) :=
  fm_gi kap 11 r0 2 S fun x31 =>
  if x31 ≤ a2 then (
   fm_gi kap 11 r0 10 S fun x60 =>
   fm_pi kap 11 r0 10 S (x60 + a1) fun S65 =>
   fm_gi kap 11 r0 10 S65 fun x69 =>
   some (x69, S65)
  ) else (
   fm_gr kap 11 r0 0 S fun q38 =>
   fm_lr kap lam 16 q38 a2 S fun q42 =>
   fm_ck (kap r0 == 11) <|
   fm_bi (m_X11_iceBehind kap lam r0 a2 a1 S) fun x46 S46 =>
   fm_pi kap 5 q42 4 S46 x46 fun S49 =>
   fm_let (a2 + 1 : Int32) fun x52 =>
   go29 r0 a1 x52 S49
  )
def b_X11_pass_29 (kap lam : Nat → Nat) : Nat → Nat → Int32 → Int32 → fm_M → Option (Int32 × fm_M)
  | 0 => fun _ _ _ _ => none
  | n + 1 => k_X11_pass_29 kap lam (b_X11_pass_29 kap lam n)
def m_X11_pass (kap lam : Nat → Nat) (r0 : Nat) (a1 : Int32) (S : fm_M) : Option (Int32 × fm_M) :=
  fm_b1 (m_X11_isWithin kap lam a1 60 S) fun x3 =>
  if x3 = 0 then (
   some ((-2), S)
  ) else (
   fm_gi kap 11 r0 10 S fun x13 =>
   if (x13 + a1) ≤ 9999 then (
    fm_let (0 : Int32) fun x28 =>
    b_X11_pass_29 kap lam fm_LF r0 a1 x28 S
   ) else (
    some ((-3), S)
   )
  )
set_option maxHeartbeats 4000000 in
set_option maxRecDepth 100000 in
theorem c_X11_pass {l : Launch} {D : va_G} {ids kap lam : Nat → Nat} {RL : List Nat} {ad sk sv : Nat → Nat} {S : fm_M} {r0 : Nat} {a1 : Int32} {r : Int32} {u : fm_M} (hE : fm_E kap RL ad) (hf : m_X11_pass kap lam r0 a1 S = some (r, u)) (sz : Nat) : fm_MI l y_X11_pass prog_1_method_13_code 3 (Option.some Jvm.ClassFile.FieldType.int) 7 D ids kap lam RL ad sk sv S [.ref (ad r0), .int a1] sz r u := by
  refine fm_open rfl hE (Nat.le_of_ble_eq_true rfl) (fun p e s m args below meth c ls Z hr hlk G F N hl hsz => ?_)
  subst hsz
  obtain ⟨hx, hb, hml, hown, hts⟩ := id Z
  have hl : lv_has ls 3 [(0, .ref (ad r0)), (1, .int a1)] := hl
  generalize hQ : MQ below _ args s 0 0 (fm_A RL ad s.heap.size) = Qf
  have hL : ∀ n : Nat, (∀ (r0 : Nat) (a1 : Int32) (a2 : Int32)  (S : fm_M) (H : Heap) (locs : List Loc) (ls : Array Slot), fm_F D ids kap lam RL ad S (fm_A RL ad s.heap.size) s.heap H locs → lv_has ls 3 [(0, .ref (ad r0)), (1, .int a1), (2, .int a2)] → b_X11_pass_29 kap lam n r0 a1 a2 S = some (r, u) → W p l e (fm_rm 7) s m args below meth c H locs 0 0 Qf (F0 m 29 ls [])) := by
    intro n
    induction n with
    | zero => exact fun _ _ _ _ _ _ _ _ _ hf => absurd hf (by intro h; cases h)
    | succ n ih =>
      intro r0 a1 a2 S H locs ls F hl hf
      have hf : k_X11_pass_29 kap lam (b_X11_pass_29 kap lam n) r0 a1 a2 S = some (r, u) := hf
      unfold k_X11_pass_29 at hf
      refine lv_iload_n hx hb d_X11_pass_29 rfl (lv_at hl 2 rfl) ?_
      refine lv_aload_n hx hb d_X11_pass_30 rfl (lv_at hl 0 rfl) ?_
      refine fm_rgi Z G F hf fr_X11_23 d_X11_pass_31 (fun x31 _ hf => ?_)
      refine lv_icmp_ge (tgt := 58) hx hb d_X11_pass_34 (by decide) (fun c34 => ?_) (fun c34 => ?_)
      · have hf := fm_ip c34 hf
        refine lv_aload_n hx hb d_X11_pass_58 rfl (lv_at hl 0 rfl) ?_
        refine lv_dup hx hb d_X11_pass_59 rfl ?_
        refine fm_rgi Z G F hf fr_X11_63 d_X11_pass_60 (fun x60 _ hf => ?_)
        refine lv_iload_n hx hb d_X11_pass_63 rfl (lv_at hl 1 rfl) ?_
        refine lv_iadd hx hb d_X11_pass_64 ?_
        refine fm_rpi Z G F hf fs_X11_63 d_X11_pass_65 (fun c h => by have h := eq_of_beq (show (c == 11) = true from h); subst h; rfl) (fun S65 H locs _ F hf => ?_)
        refine lv_aload_n hx hb d_X11_pass_68 rfl (lv_at hl 0 rfl) ?_
        refine fm_rgi Z G F hf fr_X11_63 d_X11_pass_69 (fun x69 _ hf => ?_)
        rw [← hQ]; exact fm_reti Z hr hlk F d_X11_pass_72 (Prod.mk.inj (Option.some.inj hf)).1 (Prod.mk.inj (Option.some.inj hf)).2
      · have hf := fm_ig c34 hf
        refine lv_aload_n hx hb d_X11_pass_37 rfl (lv_at hl 0 rfl) ?_
        refine fm_rgr Z G F hf fr_X11_13 d_X11_pass_38 (fun q38 _ hf => ?_)
        refine lv_iload_n hx hb d_X11_pass_41 rfl (lv_at hl 2 rfl) ?_
        refine fm_rlr Z G F (by decide) (by decide) hf d_X11_pass_42 (fun q42 _ hf => ?_)
        refine lv_aload_n hx hb d_X11_pass_43 rfl (lv_at hl 0 rfl) ?_
        refine lv_iload_n hx hb d_X11_pass_44 rfl (lv_at hl 2 rfl) ?_
        refine lv_iload_n hx hb d_X11_pass_45 rfl (lv_at hl 1 rfl) ?_
        obtain ⟨hk46, hf⟩ := fm_some hf
        refine fm_rci G F hf (fun r u ho => fm_runV (k := 2) Z G F N (As := [.int a2, .int a1]) (rest := [.ref (ad q42)]) (c_X11_iceBehind hE ho _) (by rw [eq_of_beq hk46]; decide) (by rw [eq_of_beq hk46]; rfl) kw_684 kw_686 kp_18 kw_1 kw_687 yd_X11_iceBehind rfl (by decide) (by decide) hl.1 (Nat.le_of_ble_eq_true rfl) d_X11_pass_46 (Nat.le_refl 0) (Nat.le_refl 0)) (fun x46 S46 H locs _ F hf => ?_)
        refine fm_rpi Z G F hf fs_X11_128 d_X11_pass_49 (fun c h => by rcases fm_isC5 h with h | h | h | h | h | h | h <;> subst h <;> rfl) (fun S49 H locs _ F hf => ?_)
        obtain ⟨x52, ex52⟩ : ∃ y : Int32, y = a2 + 1 := ⟨_, rfl⟩
        have hf := fm_let_at ex52 hf
        refine lv_iinc (v := x52) (lv' := [(2, .int x52), (0, .ref (ad r0)), (1, .int a1)]) hx hb d_X11_pass_52 hl (k := 2) rfl (by rw [ex52]; rfl) (by decide) rfl (fun ls hl => ?_)
        refine lv_goto (tgt := 29) hx hb d_X11_pass_55 (by decide) ?_
        exact ih r0 a1 x52 S49 _ _ _ F (lv_sub hl [1, 2, 0] rfl) hf
  unfold m_X11_pass at hf
  refine lv_iload_n hx hb d_X11_pass_0 rfl (lv_at hl 1 rfl) ?_
  refine lv_bipush (v := 60) hx hb d_X11_pass_1 (by decide) ?_
  refine fm_rcr G F hf (fun r ho => fm_runS (k := 2) Z G F N (As := [.int a1, .int 60]) (rest := []) (c_X11_isWithin hE ho _) kw_182 kw_183 kw_1 kw_184 yd_X11_isWithin rfl (by decide) (by decide) hl.1 (Nat.le_of_ble_eq_true rfl) d_X11_pass_3 (Nat.le_refl 0) (Nat.le_refl 0)) (fun x3 H locs _ F hf => ?_)
  refine lv_if_ne (tgt := 12) hx hb d_X11_pass_6 (by decide) (fun c6 => ?_) (fun c6 => ?_)
  · have hf := fm_ig c6 hf
    refine lv_aload_n hx hb d_X11_pass_12 rfl (lv_at hl 0 rfl) ?_
    refine fm_rgi Z G F hf fr_X11_63 d_X11_pass_13 (fun x13 _ hf => ?_)
    refine lv_iload_n hx hb d_X11_pass_16 rfl (lv_at hl 1 rfl) ?_
    refine lv_iadd hx hb d_X11_pass_17 ?_
    refine lv_sipush (v := 9999) hx hb d_X11_pass_18 (by decide) ?_
    refine lv_icmp_le (tgt := 27) hx hb d_X11_pass_21 (by decide) (fun c21 => ?_) (fun c21 => ?_)
    · have hf := fm_ip c21 hf
      refine lv_iconst (v := 0) hx hb d_X11_pass_27 (by decide) ?_
      refine lv_topi (fun x28 ex28 => ?_)
      have hf := fm_let_at ex28 hf
      refine lv_istore_n (lv' := [(2, .int x28), (0, .ref (ad r0)), (1, .int a1)]) hx hb d_X11_pass_28 rfl hl (by decide) rfl (fun ls hl => ?_)
      exact (hL fm_LF) r0 a1 x28 S _ _ _ F (lv_sub hl [1, 2, 0] rfl) hf
    · have hf := fm_ig c21 hf
      refine lv_bipush (v := (-3)) hx hb d_X11_pass_24 (by decide) ?_
      rw [← hQ]; exact fm_reti Z hr hlk F d_X11_pass_26 (Prod.mk.inj (Option.some.inj hf)).1 (Prod.mk.inj (Option.some.inj hf)).2
  · have hf := fm_ip c6 hf
    refine lv_bipush (v := (-2)) hx hb d_X11_pass_9 (by decide) ?_
    rw [← hQ]; exact fm_reti Z hr hlk F d_X11_pass_11 (Prod.mk.inj (Option.some.inj hf)).1 (Prod.mk.inj (Option.some.inj hf)).2
theorem d_X11_on_0 : decode prog_1_method_14_code 0 = .ok (.iload_n 2, 1) := by decide +kernel
theorem d_X11_on_1 : decode prog_1_method_14_code 1 = .ok (.ifCond .ne 7, 3) := by decide +kernel
theorem d_X11_on_4 : decode prog_1_method_14_code 4 = .ok (.iconst 1, 1) := by decide +kernel
theorem d_X11_on_5 : decode prog_1_method_14_code 5 = .ok (.goto 4, 3) := by decide +kernel
theorem d_X11_on_8 : decode prog_1_method_14_code 8 = .ok (.iconst 0, 1) := by decide +kernel
theorem d_X11_on_9 : decode prog_1_method_14_code 9 = .ok (.istore_n 3, 1) := by decide +kernel
theorem d_X11_on_10 : decode prog_1_method_14_code 10 = .ok (.iload_n 3, 1) := by decide +kernel
theorem d_X11_on_11 : decode prog_1_method_14_code 11 = .ok (.ifCond .ne 22, 3) := by decide +kernel
theorem d_X11_on_14 : decode prog_1_method_14_code 14 = .ok (.iload_n 2, 1) := by decide +kernel
theorem d_X11_on_15 : decode prog_1_method_14_code 15 = .ok (.bipush 10, 2) := by decide +kernel
theorem d_X11_on_17 : decode prog_1_method_14_code 17 = .ok (.if_icmp .lt 14, 3) := by decide +kernel
theorem d_X11_on_20 : decode prog_1_method_14_code 20 = .ok (.aload_n 0, 1) := by decide +kernel
theorem d_X11_on_21 : decode prog_1_method_14_code 21 = .ok (.iload_n 2, 1) := by decide +kernel
theorem d_X11_on_22 : decode prog_1_method_14_code 22 = .ok (.bipush 10, 2) := by decide +kernel
theorem d_X11_on_24 : decode prog_1_method_14_code 24 = .ok (.isub, 1) := by decide +kernel
theorem d_X11_on_25 : decode prog_1_method_14_code 25 = .ok (.invokevirtual 115, 3) := by decide +kernel
theorem d_X11_on_28 : decode prog_1_method_14_code 28 = .ok (.ifCond .ne 5, 3) := by decide +kernel
theorem d_X11_on_31 : decode prog_1_method_14_code 31 = .ok (.iconst (-1), 1) := by decide +kernel
theorem d_X11_on_32 : decode prog_1_method_14_code 32 = .ok (.ireturn, 1) := by decide +kernel
theorem d_X11_on_33 : decode prog_1_method_14_code 33 = .ok (.iload_n 1, 1) := by decide +kernel
theorem d_X11_on_34 : decode prog_1_method_14_code 34 = .ok (.bipush 60, 2) := by decide +kernel
theorem d_X11_on_36 : decode prog_1_method_14_code 36 = .ok (.invokestatic 85, 3) := by decide +kernel
theorem d_X11_on_39 : decode prog_1_method_14_code 39 = .ok (.ifCond .ne 6, 3) := by decide +kernel
theorem d_X11_on_42 : decode prog_1_method_14_code 42 = .ok (.bipush (-2), 2) := by decide +kernel
theorem d_X11_on_44 : decode prog_1_method_14_code 44 = .ok (.ireturn, 1) := by decide +kernel
theorem d_X11_on_45 : decode prog_1_method_14_code 45 = .ok (.iload_n 3, 1) := by decide +kernel
theorem d_X11_on_46 : decode prog_1_method_14_code 46 = .ok (.ifCond .eq 11, 3) := by decide +kernel
theorem d_X11_on_49 : decode prog_1_method_14_code 49 = .ok (.aload_n 0, 1) := by decide +kernel
theorem d_X11_on_50 : decode prog_1_method_14_code 50 = .ok (.iload_n 1, 1) := by decide +kernel
theorem d_X11_on_51 : decode prog_1_method_14_code 51 = .ok (.invokevirtual 169, 3) := by decide +kernel
theorem d_X11_on_54 : decode prog_1_method_14_code 54 = .ok (.goto 12, 3) := by decide +kernel
theorem d_X11_on_57 : decode prog_1_method_14_code 57 = .ok (.aload_n 0, 1) := by decide +kernel
theorem d_X11_on_58 : decode prog_1_method_14_code 58 = .ok (.iload_n 2, 1) := by decide +kernel
theorem d_X11_on_59 : decode prog_1_method_14_code 59 = .ok (.bipush 10, 2) := by decide +kernel
theorem d_X11_on_61 : decode prog_1_method_14_code 61 = .ok (.isub, 1) := by decide +kernel
theorem d_X11_on_62 : decode prog_1_method_14_code 62 = .ok (.iload_n 1, 1) := by decide +kernel
theorem d_X11_on_63 : decode prog_1_method_14_code 63 = .ok (.invokevirtual 175, 3) := by decide +kernel
theorem d_X11_on_66 : decode prog_1_method_14_code 66 = .ok (.ireturn, 1) := by decide +kernel
def m_X11_on (kap lam : Nat → Nat) (r0 : Nat) (a1 : Int32) (a2 : Int32) (S : fm_M) : Option (Int32 × fm_M) :=
  if a2 = 0 then (
   fm_let (1 : Int32) fun x9 =>
   if x9 = 0 then (
    if a2 < 10 then (
     some ((-1), S)
    ) else (
     fm_ck (kap r0 == 11) <|
     fm_b1 (m_X11_isPane kap lam r0 (a2 - 10) S) fun x25 =>
     if x25 = 0 then (
      some ((-1), S)
     ) else (
      fm_b1 (m_X11_isWithin kap lam a1 60 S) fun x36 =>
      if x36 = 0 then (
       some ((-2), S)
      ) else (
       if x9 = 0 then (
        fm_ck (kap r0 == 11) <|
        fm_bi (m_X11_iceBehind kap lam r0 (a2 - 10) a1 S) fun x63 S63 =>
        some (x63, S63)
       ) else (
        fm_ck (kap r0 == 11) <|
        fm_bi (m_X11_offersBehind kap lam r0 a1 S) fun x51 S51 =>
        some (x51, S51)
       )
      )
     )
    )
   ) else (
    fm_b1 (m_X11_isWithin kap lam a1 60 S) fun x36 =>
    if x36 = 0 then (
     some ((-2), S)
    ) else (
     if x9 = 0 then (
      fm_ck (kap r0 == 11) <|
      fm_bi (m_X11_iceBehind kap lam r0 (a2 - 10) a1 S) fun x63 S63 =>
      some (x63, S63)
     ) else (
      fm_ck (kap r0 == 11) <|
      fm_bi (m_X11_offersBehind kap lam r0 a1 S) fun x51 S51 =>
      some (x51, S51)
     )
    )
   )
  ) else (
   fm_let (0 : Int32) fun x9 =>
   if x9 = 0 then (
    if a2 < 10 then (
     some ((-1), S)
    ) else (
     fm_ck (kap r0 == 11) <|
     fm_b1 (m_X11_isPane kap lam r0 (a2 - 10) S) fun x25 =>
     if x25 = 0 then (
      some ((-1), S)
     ) else (
      fm_b1 (m_X11_isWithin kap lam a1 60 S) fun x36 =>
      if x36 = 0 then (
       some ((-2), S)
      ) else (
       if x9 = 0 then (
        fm_ck (kap r0 == 11) <|
        fm_bi (m_X11_iceBehind kap lam r0 (a2 - 10) a1 S) fun x63 S63 =>
        some (x63, S63)
       ) else (
        fm_ck (kap r0 == 11) <|
        fm_bi (m_X11_offersBehind kap lam r0 a1 S) fun x51 S51 =>
        some (x51, S51)
       )
      )
     )
    )
   ) else (
    fm_b1 (m_X11_isWithin kap lam a1 60 S) fun x36 =>
    if x36 = 0 then (
     some ((-2), S)
    ) else (
     if x9 = 0 then (
      fm_ck (kap r0 == 11) <|
      fm_bi (m_X11_iceBehind kap lam r0 (a2 - 10) a1 S) fun x63 S63 =>
      some (x63, S63)
     ) else (
      fm_ck (kap r0 == 11) <|
      fm_bi (m_X11_offersBehind kap lam r0 a1 S) fun x51 S51 =>
      some (x51, S51)
     )
    )
   )
  )
set_option maxHeartbeats 4000000 in
set_option maxRecDepth 100000 in
theorem c_X11_on {l : Launch} {D : va_G} {ids kap lam : Nat → Nat} {RL : List Nat} {ad sk sv : Nat → Nat} {S : fm_M} {r0 : Nat} {a1 : Int32} {a2 : Int32} {r : Int32} {u : fm_M} (hE : fm_E kap RL ad) (hf : m_X11_on kap lam r0 a1 a2 S = some (r, u)) (sz : Nat) : fm_MI l y_X11_on prog_1_method_14_code 4 (Option.some Jvm.ClassFile.FieldType.int) 7 D ids kap lam RL ad sk sv S [.ref (ad r0), .int a1, .int a2] sz r u := by
  refine fm_open rfl hE (Nat.le_of_ble_eq_true rfl) (fun p e s m args below meth c ls Z hr hlk G F N hl hsz => ?_)
  subst hsz
  obtain ⟨hx, hb, hml, hown, hts⟩ := id Z
  have hl : lv_has ls 4 [(0, .ref (ad r0)), (1, .int a1), (2, .int a2)] := hl
  unfold m_X11_on at hf
  refine lv_iload_n hx hb d_X11_on_0 rfl (lv_at hl 2 rfl) ?_
  refine lv_if_ne (tgt := 8) hx hb d_X11_on_1 (by decide) (fun c1 => ?_) (fun c1 => ?_)
  · have hf := fm_ig c1 hf
    refine lv_iconst (v := 0) hx hb d_X11_on_8 (by decide) ?_
    refine lv_topi (fun x9 ex9 => ?_)
    have hf := fm_let_at ex9 hf
    refine lv_istore_n (lv' := [(3, .int x9), (0, .ref (ad r0)), (1, .int a1), (2, .int a2)]) hx hb d_X11_on_9 rfl hl (by decide) rfl (fun ls hl => ?_)
    refine lv_iload_n hx hb d_X11_on_10 rfl (lv_at hl 0 rfl) ?_
    refine lv_if_ne (tgt := 33) hx hb d_X11_on_11 (by decide) (fun c11 => ?_) (fun c11 => ?_)
    · have hf := fm_ig c11 hf
      refine lv_iload_n hx hb d_X11_on_33 rfl (lv_at hl 2 rfl) ?_
      refine lv_bipush (v := 60) hx hb d_X11_on_34 (by decide) ?_
      refine fm_rcr G F hf (fun r ho => fm_runS (k := 2) Z G F N (As := [.int a1, .int 60]) (rest := []) (c_X11_isWithin hE ho _) kw_182 kw_183 kw_1 kw_184 yd_X11_isWithin rfl (by decide) (by decide) hl.1 (Nat.le_of_ble_eq_true rfl) d_X11_on_36 (Nat.le_refl 0) (Nat.le_refl 0)) (fun x36 H locs _ F hf => ?_)
      refine lv_if_ne (tgt := 45) hx hb d_X11_on_39 (by decide) (fun c39 => ?_) (fun c39 => ?_)
      · have hf := fm_ig c39 hf
        refine lv_iload_n hx hb d_X11_on_45 rfl (lv_at hl 0 rfl) ?_
        refine lv_if_eq (tgt := 57) hx hb d_X11_on_46 (by decide) (fun c46 => ?_) (fun c46 => ?_)
        · have hf := fm_ip c46 hf
          refine lv_aload_n hx hb d_X11_on_57 rfl (lv_at hl 1 rfl) ?_
          refine lv_iload_n hx hb d_X11_on_58 rfl (lv_at hl 3 rfl) ?_
          refine lv_bipush (v := 10) hx hb d_X11_on_59 (by decide) ?_
          refine lv_isub hx hb d_X11_on_61 ?_
          refine lv_iload_n hx hb d_X11_on_62 rfl (lv_at hl 2 rfl) ?_
          obtain ⟨hk63, hf⟩ := fm_some hf
          refine fm_rci G F hf (fun r u ho => fm_runV (k := 2) Z G F N (As := [.int (a2 - 10), .int a1]) (rest := []) (c_X11_iceBehind hE ho _) (by rw [eq_of_beq hk63]; decide) (by rw [eq_of_beq hk63]; rfl) kw_684 kw_686 kp_18 kw_1 kw_687 yd_X11_iceBehind rfl (by decide) (by decide) hl.1 (Nat.le_of_ble_eq_true rfl) d_X11_on_63 (Nat.le_refl 0) (Nat.le_refl 0)) (fun x63 S63 H locs _ F hf => ?_)
          exact fm_reti Z hr hlk F d_X11_on_66 (Prod.mk.inj (Option.some.inj hf)).1 (Prod.mk.inj (Option.some.inj hf)).2
        · have hf := fm_ig c46 hf
          refine lv_aload_n hx hb d_X11_on_49 rfl (lv_at hl 1 rfl) ?_
          refine lv_iload_n hx hb d_X11_on_50 rfl (lv_at hl 2 rfl) ?_
          obtain ⟨hk51, hf⟩ := fm_some hf
          refine fm_rci G F hf (fun r u ho => fm_runV (k := 1) Z G F N (As := [.int a1]) (rest := []) (c_X11_offersBehind hE ho _) (by rw [eq_of_beq hk51]; decide) (by rw [eq_of_beq hk51]; rfl) kw_658 kw_660 kp_16 kw_1 kw_661 yd_X11_offersBehind rfl (by decide) (by decide) hl.1 (Nat.le_of_ble_eq_true rfl) d_X11_on_51 (Nat.le_refl 0) (Nat.le_refl 0)) (fun x51 S51 H locs _ F hf => ?_)
          refine lv_goto (tgt := 66) hx hb d_X11_on_54 (by decide) ?_
          exact fm_reti Z hr hlk F d_X11_on_66 (Prod.mk.inj (Option.some.inj hf)).1 (Prod.mk.inj (Option.some.inj hf)).2
      · have hf := fm_ip c39 hf
        refine lv_bipush (v := (-2)) hx hb d_X11_on_42 (by decide) ?_
        exact fm_reti Z hr hlk F d_X11_on_44 (Prod.mk.inj (Option.some.inj hf)).1 (Prod.mk.inj (Option.some.inj hf)).2
    · have hf := fm_ip c11 hf
      refine lv_iload_n hx hb d_X11_on_14 rfl (lv_at hl 3 rfl) ?_
      refine lv_bipush (v := 10) hx hb d_X11_on_15 (by decide) ?_
      refine lv_icmp_lt (tgt := 31) hx hb d_X11_on_17 (by decide) (fun c17 => ?_) (fun c17 => ?_)
      · have hf := fm_ip c17 hf
        refine lv_iconst (v := (-1)) hx hb d_X11_on_31 (by decide) ?_
        exact fm_reti Z hr hlk F d_X11_on_32 (Prod.mk.inj (Option.some.inj hf)).1 (Prod.mk.inj (Option.some.inj hf)).2
      · have hf := fm_ig c17 hf
        refine lv_aload_n hx hb d_X11_on_20 rfl (lv_at hl 1 rfl) ?_
        refine lv_iload_n hx hb d_X11_on_21 rfl (lv_at hl 3 rfl) ?_
        refine lv_bipush (v := 10) hx hb d_X11_on_22 (by decide) ?_
        refine lv_isub hx hb d_X11_on_24 ?_
        obtain ⟨hk25, hf⟩ := fm_some hf
        refine fm_rcr G F hf (fun r ho => fm_runV (k := 1) Z G F N (As := [.int (a2 - 10)]) (rest := []) (c_X11_isPane hE ho _) (by rw [eq_of_beq hk25]; decide) (by rw [eq_of_beq hk25]; rfl) kw_546 kw_548 kp_9 kw_1 kw_549 yd_X11_isPane rfl (by decide) (by decide) hl.1 (Nat.le_of_ble_eq_true rfl) d_X11_on_25 (Nat.le_refl 0) (Nat.le_refl 0)) (fun x25 H locs _ F hf => ?_)
        refine lv_if_ne (tgt := 33) hx hb d_X11_on_28 (by decide) (fun c28 => ?_) (fun c28 => ?_)
        · have hf := fm_ig c28 hf
          refine lv_iload_n hx hb d_X11_on_33 rfl (lv_at hl 2 rfl) ?_
          refine lv_bipush (v := 60) hx hb d_X11_on_34 (by decide) ?_
          refine fm_rcr G F hf (fun r ho => fm_runS (k := 2) Z G F N (As := [.int a1, .int 60]) (rest := []) (c_X11_isWithin hE ho _) kw_182 kw_183 kw_1 kw_184 yd_X11_isWithin rfl (by decide) (by decide) hl.1 (Nat.le_of_ble_eq_true rfl) d_X11_on_36 (Nat.le_refl 0) (Nat.le_refl 0)) (fun x36 H locs _ F hf => ?_)
          refine lv_if_ne (tgt := 45) hx hb d_X11_on_39 (by decide) (fun c39 => ?_) (fun c39 => ?_)
          · have hf := fm_ig c39 hf
            refine lv_iload_n hx hb d_X11_on_45 rfl (lv_at hl 0 rfl) ?_
            refine lv_if_eq (tgt := 57) hx hb d_X11_on_46 (by decide) (fun c46 => ?_) (fun c46 => ?_)
            · have hf := fm_ip c46 hf
              refine lv_aload_n hx hb d_X11_on_57 rfl (lv_at hl 1 rfl) ?_
              refine lv_iload_n hx hb d_X11_on_58 rfl (lv_at hl 3 rfl) ?_
              refine lv_bipush (v := 10) hx hb d_X11_on_59 (by decide) ?_
              refine lv_isub hx hb d_X11_on_61 ?_
              refine lv_iload_n hx hb d_X11_on_62 rfl (lv_at hl 2 rfl) ?_
              obtain ⟨hk63, hf⟩ := fm_some hf
              refine fm_rci G F hf (fun r u ho => fm_runV (k := 2) Z G F N (As := [.int (a2 - 10), .int a1]) (rest := []) (c_X11_iceBehind hE ho _) (by rw [eq_of_beq hk63]; decide) (by rw [eq_of_beq hk63]; rfl) kw_684 kw_686 kp_18 kw_1 kw_687 yd_X11_iceBehind rfl (by decide) (by decide) hl.1 (Nat.le_of_ble_eq_true rfl) d_X11_on_63 (Nat.le_refl 0) (Nat.le_refl 0)) (fun x63 S63 H locs _ F hf => ?_)
              exact fm_reti Z hr hlk F d_X11_on_66 (Prod.mk.inj (Option.some.inj hf)).1 (Prod.mk.inj (Option.some.inj hf)).2
            · have hf := fm_ig c46 hf
              refine lv_aload_n hx hb d_X11_on_49 rfl (lv_at hl 1 rfl) ?_
              refine lv_iload_n hx hb d_X11_on_50 rfl (lv_at hl 2 rfl) ?_
              obtain ⟨hk51, hf⟩ := fm_some hf
              refine fm_rci G F hf (fun r u ho => fm_runV (k := 1) Z G F N (As := [.int a1]) (rest := []) (c_X11_offersBehind hE ho _) (by rw [eq_of_beq hk51]; decide) (by rw [eq_of_beq hk51]; rfl) kw_658 kw_660 kp_16 kw_1 kw_661 yd_X11_offersBehind rfl (by decide) (by decide) hl.1 (Nat.le_of_ble_eq_true rfl) d_X11_on_51 (Nat.le_refl 0) (Nat.le_refl 0)) (fun x51 S51 H locs _ F hf => ?_)
              refine lv_goto (tgt := 66) hx hb d_X11_on_54 (by decide) ?_
              exact fm_reti Z hr hlk F d_X11_on_66 (Prod.mk.inj (Option.some.inj hf)).1 (Prod.mk.inj (Option.some.inj hf)).2
          · have hf := fm_ip c39 hf
            refine lv_bipush (v := (-2)) hx hb d_X11_on_42 (by decide) ?_
            exact fm_reti Z hr hlk F d_X11_on_44 (Prod.mk.inj (Option.some.inj hf)).1 (Prod.mk.inj (Option.some.inj hf)).2
        · have hf := fm_ip c28 hf
          refine lv_iconst (v := (-1)) hx hb d_X11_on_31 (by decide) ?_
          exact fm_reti Z hr hlk F d_X11_on_32 (Prod.mk.inj (Option.some.inj hf)).1 (Prod.mk.inj (Option.some.inj hf)).2
  · have hf := fm_ip c1 hf
    refine lv_iconst (v := 1) hx hb d_X11_on_4 (by decide) ?_
    refine lv_goto (tgt := 9) hx hb d_X11_on_5 (by decide) ?_
    refine lv_topi (fun x9 ex9 => ?_)
    have hf := fm_let_at ex9 hf
    refine lv_istore_n (lv' := [(3, .int x9), (0, .ref (ad r0)), (1, .int a1), (2, .int a2)]) hx hb d_X11_on_9 rfl hl (by decide) rfl (fun ls hl => ?_)
    refine lv_iload_n hx hb d_X11_on_10 rfl (lv_at hl 0 rfl) ?_
    refine lv_if_ne (tgt := 33) hx hb d_X11_on_11 (by decide) (fun c11 => ?_) (fun c11 => ?_)
    · have hf := fm_ig c11 hf
      refine lv_iload_n hx hb d_X11_on_33 rfl (lv_at hl 2 rfl) ?_
      refine lv_bipush (v := 60) hx hb d_X11_on_34 (by decide) ?_
      refine fm_rcr G F hf (fun r ho => fm_runS (k := 2) Z G F N (As := [.int a1, .int 60]) (rest := []) (c_X11_isWithin hE ho _) kw_182 kw_183 kw_1 kw_184 yd_X11_isWithin rfl (by decide) (by decide) hl.1 (Nat.le_of_ble_eq_true rfl) d_X11_on_36 (Nat.le_refl 0) (Nat.le_refl 0)) (fun x36 H locs _ F hf => ?_)
      refine lv_if_ne (tgt := 45) hx hb d_X11_on_39 (by decide) (fun c39 => ?_) (fun c39 => ?_)
      · have hf := fm_ig c39 hf
        refine lv_iload_n hx hb d_X11_on_45 rfl (lv_at hl 0 rfl) ?_
        refine lv_if_eq (tgt := 57) hx hb d_X11_on_46 (by decide) (fun c46 => ?_) (fun c46 => ?_)
        · have hf := fm_ip c46 hf
          refine lv_aload_n hx hb d_X11_on_57 rfl (lv_at hl 1 rfl) ?_
          refine lv_iload_n hx hb d_X11_on_58 rfl (lv_at hl 3 rfl) ?_
          refine lv_bipush (v := 10) hx hb d_X11_on_59 (by decide) ?_
          refine lv_isub hx hb d_X11_on_61 ?_
          refine lv_iload_n hx hb d_X11_on_62 rfl (lv_at hl 2 rfl) ?_
          obtain ⟨hk63, hf⟩ := fm_some hf
          refine fm_rci G F hf (fun r u ho => fm_runV (k := 2) Z G F N (As := [.int (a2 - 10), .int a1]) (rest := []) (c_X11_iceBehind hE ho _) (by rw [eq_of_beq hk63]; decide) (by rw [eq_of_beq hk63]; rfl) kw_684 kw_686 kp_18 kw_1 kw_687 yd_X11_iceBehind rfl (by decide) (by decide) hl.1 (Nat.le_of_ble_eq_true rfl) d_X11_on_63 (Nat.le_refl 0) (Nat.le_refl 0)) (fun x63 S63 H locs _ F hf => ?_)
          exact fm_reti Z hr hlk F d_X11_on_66 (Prod.mk.inj (Option.some.inj hf)).1 (Prod.mk.inj (Option.some.inj hf)).2
        · have hf := fm_ig c46 hf
          refine lv_aload_n hx hb d_X11_on_49 rfl (lv_at hl 1 rfl) ?_
          refine lv_iload_n hx hb d_X11_on_50 rfl (lv_at hl 2 rfl) ?_
          obtain ⟨hk51, hf⟩ := fm_some hf
          refine fm_rci G F hf (fun r u ho => fm_runV (k := 1) Z G F N (As := [.int a1]) (rest := []) (c_X11_offersBehind hE ho _) (by rw [eq_of_beq hk51]; decide) (by rw [eq_of_beq hk51]; rfl) kw_658 kw_660 kp_16 kw_1 kw_661 yd_X11_offersBehind rfl (by decide) (by decide) hl.1 (Nat.le_of_ble_eq_true rfl) d_X11_on_51 (Nat.le_refl 0) (Nat.le_refl 0)) (fun x51 S51 H locs _ F hf => ?_)
          refine lv_goto (tgt := 66) hx hb d_X11_on_54 (by decide) ?_
          exact fm_reti Z hr hlk F d_X11_on_66 (Prod.mk.inj (Option.some.inj hf)).1 (Prod.mk.inj (Option.some.inj hf)).2
      · have hf := fm_ip c39 hf
        refine lv_bipush (v := (-2)) hx hb d_X11_on_42 (by decide) ?_
        exact fm_reti Z hr hlk F d_X11_on_44 (Prod.mk.inj (Option.some.inj hf)).1 (Prod.mk.inj (Option.some.inj hf)).2
    · have hf := fm_ip c11 hf
      refine lv_iload_n hx hb d_X11_on_14 rfl (lv_at hl 3 rfl) ?_
      refine lv_bipush (v := 10) hx hb d_X11_on_15 (by decide) ?_
      refine lv_icmp_lt (tgt := 31) hx hb d_X11_on_17 (by decide) (fun c17 => ?_) (fun c17 => ?_)
      · have hf := fm_ip c17 hf
        refine lv_iconst (v := (-1)) hx hb d_X11_on_31 (by decide) ?_
        exact fm_reti Z hr hlk F d_X11_on_32 (Prod.mk.inj (Option.some.inj hf)).1 (Prod.mk.inj (Option.some.inj hf)).2
      · have hf := fm_ig c17 hf
        refine lv_aload_n hx hb d_X11_on_20 rfl (lv_at hl 1 rfl) ?_
        refine lv_iload_n hx hb d_X11_on_21 rfl (lv_at hl 3 rfl) ?_
        refine lv_bipush (v := 10) hx hb d_X11_on_22 (by decide) ?_
        refine lv_isub hx hb d_X11_on_24 ?_
        obtain ⟨hk25, hf⟩ := fm_some hf
        refine fm_rcr G F hf (fun r ho => fm_runV (k := 1) Z G F N (As := [.int (a2 - 10)]) (rest := []) (c_X11_isPane hE ho _) (by rw [eq_of_beq hk25]; decide) (by rw [eq_of_beq hk25]; rfl) kw_546 kw_548 kp_9 kw_1 kw_549 yd_X11_isPane rfl (by decide) (by decide) hl.1 (Nat.le_of_ble_eq_true rfl) d_X11_on_25 (Nat.le_refl 0) (Nat.le_refl 0)) (fun x25 H locs _ F hf => ?_)
        refine lv_if_ne (tgt := 33) hx hb d_X11_on_28 (by decide) (fun c28 => ?_) (fun c28 => ?_)
        · have hf := fm_ig c28 hf
          refine lv_iload_n hx hb d_X11_on_33 rfl (lv_at hl 2 rfl) ?_
          refine lv_bipush (v := 60) hx hb d_X11_on_34 (by decide) ?_
          refine fm_rcr G F hf (fun r ho => fm_runS (k := 2) Z G F N (As := [.int a1, .int 60]) (rest := []) (c_X11_isWithin hE ho _) kw_182 kw_183 kw_1 kw_184 yd_X11_isWithin rfl (by decide) (by decide) hl.1 (Nat.le_of_ble_eq_true rfl) d_X11_on_36 (Nat.le_refl 0) (Nat.le_refl 0)) (fun x36 H locs _ F hf => ?_)
          refine lv_if_ne (tgt := 45) hx hb d_X11_on_39 (by decide) (fun c39 => ?_) (fun c39 => ?_)
          · have hf := fm_ig c39 hf
            refine lv_iload_n hx hb d_X11_on_45 rfl (lv_at hl 0 rfl) ?_
            refine lv_if_eq (tgt := 57) hx hb d_X11_on_46 (by decide) (fun c46 => ?_) (fun c46 => ?_)
            · have hf := fm_ip c46 hf
              refine lv_aload_n hx hb d_X11_on_57 rfl (lv_at hl 1 rfl) ?_
              refine lv_iload_n hx hb d_X11_on_58 rfl (lv_at hl 3 rfl) ?_
              refine lv_bipush (v := 10) hx hb d_X11_on_59 (by decide) ?_
              refine lv_isub hx hb d_X11_on_61 ?_
              refine lv_iload_n hx hb d_X11_on_62 rfl (lv_at hl 2 rfl) ?_
              obtain ⟨hk63, hf⟩ := fm_some hf
              refine fm_rci G F hf (fun r u ho => fm_runV (k := 2) Z G F N (As := [.int (a2 - 10), .int a1]) (rest := []) (c_X11_iceBehind hE ho _) (by rw [eq_of_beq hk63]; decide) (by rw [eq_of_beq hk63]; rfl) kw_684 kw_686 kp_18 kw_1 kw_687 yd_X11_iceBehind rfl (by decide) (by decide) hl.1 (Nat.le_of_ble_eq_true rfl) d_X11_on_63 (Nat.le_refl 0) (Nat.le_refl 0)) (fun x63 S63 H locs _ F hf => ?_)
              exact fm_reti Z hr hlk F d_X11_on_66 (Prod.mk.inj (Option.some.inj hf)).1 (Prod.mk.inj (Option.some.inj hf)).2
            · have hf := fm_ig c46 hf
              refine lv_aload_n hx hb d_X11_on_49 rfl (lv_at hl 1 rfl) ?_
              refine lv_iload_n hx hb d_X11_on_50 rfl (lv_at hl 2 rfl) ?_
              obtain ⟨hk51, hf⟩ := fm_some hf
              refine fm_rci G F hf (fun r u ho => fm_runV (k := 1) Z G F N (As := [.int a1]) (rest := []) (c_X11_offersBehind hE ho _) (by rw [eq_of_beq hk51]; decide) (by rw [eq_of_beq hk51]; rfl) kw_658 kw_660 kp_16 kw_1 kw_661 yd_X11_offersBehind rfl (by decide) (by decide) hl.1 (Nat.le_of_ble_eq_true rfl) d_X11_on_51 (Nat.le_refl 0) (Nat.le_refl 0)) (fun x51 S51 H locs _ F hf => ?_)
              refine lv_goto (tgt := 66) hx hb d_X11_on_54 (by decide) ?_
              exact fm_reti Z hr hlk F d_X11_on_66 (Prod.mk.inj (Option.some.inj hf)).1 (Prod.mk.inj (Option.some.inj hf)).2
          · have hf := fm_ip c39 hf
            refine lv_bipush (v := (-2)) hx hb d_X11_on_42 (by decide) ?_
            exact fm_reti Z hr hlk F d_X11_on_44 (Prod.mk.inj (Option.some.inj hf)).1 (Prod.mk.inj (Option.some.inj hf)).2
        · have hf := fm_ip c28 hf
          refine lv_iconst (v := (-1)) hx hb d_X11_on_31 (by decide) ?_
          exact fm_reti Z hr hlk F d_X11_on_32 (Prod.mk.inj (Option.some.inj hf)).1 (Prod.mk.inj (Option.some.inj hf)).2
