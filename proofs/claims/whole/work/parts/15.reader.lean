/-! models and contracts (tool/gen.py prints them) -/
theorem d_X6_take_0 : decode prog_8_method_12_code 0 = .ok (.aload_n 0, 1) := by decide +kernel
theorem d_X6_take_1 : decode prog_8_method_12_code 1 = .ok (.getfield 9, 3) := by decide +kernel
theorem d_X6_take_4 : decode prog_8_method_12_code 4 = .ok (.aload_n 0, 1) := by decide +kernel
theorem d_X6_take_5 : decode prog_8_method_12_code 5 = .ok (.getfield 22, 3) := by decide +kernel
theorem d_X6_take_8 : decode prog_8_method_12_code 8 = .ok (.iaload, 1) := by decide +kernel
theorem d_X6_take_9 : decode prog_8_method_12_code 9 = .ok (.iload_n 1, 1) := by decide +kernel
theorem d_X6_take_10 : decode prog_8_method_12_code 10 = .ok (.if_icmp .eq 5, 3) := by decide +kernel
theorem d_X6_take_13 : decode prog_8_method_12_code 13 = .ok (.iconst 0, 1) := by decide +kernel
theorem d_X6_take_14 : decode prog_8_method_12_code 14 = .ok (.ireturn, 1) := by decide +kernel
theorem d_X6_take_15 : decode prog_8_method_12_code 15 = .ok (.aload_n 0, 1) := by decide +kernel
theorem d_X6_take_16 : decode prog_8_method_12_code 16 = .ok (.dup, 1) := by decide +kernel
theorem d_X6_take_17 : decode prog_8_method_12_code 17 = .ok (.getfield 22, 3) := by decide +kernel
theorem d_X6_take_20 : decode prog_8_method_12_code 20 = .ok (.iconst 1, 1) := by decide +kernel
theorem d_X6_take_21 : decode prog_8_method_12_code 21 = .ok (.iadd, 1) := by decide +kernel
theorem d_X6_take_22 : decode prog_8_method_12_code 22 = .ok (.putfield 22, 3) := by decide +kernel
theorem d_X6_take_25 : decode prog_8_method_12_code 25 = .ok (.iconst 1, 1) := by decide +kernel
theorem d_X6_take_26 : decode prog_8_method_12_code 26 = .ok (.ireturn, 1) := by decide +kernel
def m_X6_take (kap lam : Nat → Nat) (r0 : Nat) (a1 : Int32) (S : fm_M) : Option (Int32 × fm_M) :=
  fm_gr kap 6 r0 0 S fun q1 =>
  fm_gi kap 6 r0 2 S fun x5 =>
  fm_ld kap lam 13 q1 x5 S fun x8 =>
  if x8 = a1 then (
   fm_gi kap 6 r0 2 S fun x17 =>
   fm_pi kap 6 r0 2 S (x17 + 1) fun S22 =>
   fm_z 1 (some (1, S22))
  ) else (
   fm_z 0 (some (0, S))
  )
set_option maxHeartbeats 4000000 in
set_option maxRecDepth 100000 in
theorem c_X6_take {l : Launch} {D : va_G} {ids kap lam : Nat → Nat} {RL : List Nat} {ad sk sv : Nat → Nat} {S : fm_M} {r0 : Nat} {a1 : Int32} {r : Int32} {u : fm_M} (hE : fm_E kap RL ad) (hf : m_X6_take kap lam r0 a1 S = some (r, u)) (sz : Nat) : fm_MI l y_X6_take prog_8_method_12_code 2 (Option.some Jvm.ClassFile.FieldType.boolean) 0 D ids kap lam RL ad sk sv S [.ref (ad r0), .int a1] sz r u := by
  refine fm_open rfl hE (Nat.le_of_ble_eq_true rfl) (fun p e s m args below meth c ls Z hr hlk G F N hl hsz => ?_)
  subst hsz
  obtain ⟨hx, hb, hml, hown, hts⟩ := id Z
  have hl : lv_has ls 2 [(0, .ref (ad r0)), (1, .int a1)] := hl
  unfold m_X6_take at hf
  refine lv_aload_n hx hb d_X6_take_0 rfl (lv_at hl 0 rfl) ?_
  refine fm_rgr Z G F hf fr_X6_9 d_X6_take_1 (fun q1 _ hf => ?_)
  refine lv_aload_n hx hb d_X6_take_4 rfl (lv_at hl 0 rfl) ?_
  refine fm_rgi Z G F hf fr_X6_22 d_X6_take_5 (fun x5 _ hf => ?_)
  refine fm_rld Z G F hf d_X6_take_8 (fun x8 _ hf => ?_)
  refine lv_iload_n hx hb d_X6_take_9 rfl (lv_at hl 1 rfl) ?_
  refine lv_icmp_eq (tgt := 15) hx hb d_X6_take_10 (by decide) (fun c10 => ?_) (fun c10 => ?_)
  · have hf := fm_ip c10 hf
    refine lv_aload_n hx hb d_X6_take_15 rfl (lv_at hl 0 rfl) ?_
    refine lv_dup hx hb d_X6_take_16 rfl ?_
    refine fm_rgi Z G F hf fr_X6_22 d_X6_take_17 (fun x17 _ hf => ?_)
    refine lv_iconst (v := 1) hx hb d_X6_take_20 (by decide) ?_
    refine lv_iadd hx hb d_X6_take_21 ?_
    refine fm_rpi Z G F hf fs_X6_22 d_X6_take_22 (fun c h => by have h := eq_of_beq (show (c == 6) = true from h); subst h; rfl) (fun S22 H locs _ F hf => ?_)
    refine lv_iconst (v := 1) hx hb d_X6_take_25 (by decide) ?_
    obtain ⟨hz, hf⟩ := fm_some hf
    exact fm_retz Z hr hlk F d_X6_take_26 hz (Prod.mk.inj (Option.some.inj hf)).1 (Prod.mk.inj (Option.some.inj hf)).2
  · have hf := fm_ig c10 hf
    refine lv_iconst (v := 0) hx hb d_X6_take_13 (by decide) ?_
    obtain ⟨hz, hf⟩ := fm_some hf
    exact fm_retz Z hr hlk F d_X6_take_14 hz (Prod.mk.inj (Option.some.inj hf)).1 (Prod.mk.inj (Option.some.inj hf)).2
theorem d_X6_number_0 : decode prog_8_method_11_code 0 = .ok (.aload_n 0, 1) := by decide +kernel
theorem d_X6_number_1 : decode prog_8_method_11_code 1 = .ok (.getfield 9, 3) := by decide +kernel
theorem d_X6_number_4 : decode prog_8_method_11_code 4 = .ok (.aload_n 0, 1) := by decide +kernel
theorem d_X6_number_5 : decode prog_8_method_11_code 5 = .ok (.getfield 22, 3) := by decide +kernel
theorem d_X6_number_8 : decode prog_8_method_11_code 8 = .ok (.iaload, 1) := by decide +kernel
theorem d_X6_number_9 : decode prog_8_method_11_code 9 = .ok (.bipush 48, 2) := by decide +kernel
theorem d_X6_number_11 : decode prog_8_method_11_code 11 = .ok (.isub, 1) := by decide +kernel
theorem d_X6_number_12 : decode prog_8_method_11_code 12 = .ok (.istore_n 1, 1) := by decide +kernel
theorem d_X6_number_13 : decode prog_8_method_11_code 13 = .ok (.iload_n 1, 1) := by decide +kernel
theorem d_X6_number_14 : decode prog_8_method_11_code 14 = .ok (.ifCond .lt 9, 3) := by decide +kernel
theorem d_X6_number_17 : decode prog_8_method_11_code 17 = .ok (.iload_n 1, 1) := by decide +kernel
theorem d_X6_number_18 : decode prog_8_method_11_code 18 = .ok (.bipush 9, 2) := by decide +kernel
theorem d_X6_number_20 : decode prog_8_method_11_code 20 = .ok (.if_icmp .le 5, 3) := by decide +kernel
theorem d_X6_number_23 : decode prog_8_method_11_code 23 = .ok (.iconst 0, 1) := by decide +kernel
theorem d_X6_number_24 : decode prog_8_method_11_code 24 = .ok (.ireturn, 1) := by decide +kernel
theorem d_X6_number_25 : decode prog_8_method_11_code 25 = .ok (.aload_n 0, 1) := by decide +kernel
theorem d_X6_number_26 : decode prog_8_method_11_code 26 = .ok (.iload_n 1, 1) := by decide +kernel
theorem d_X6_number_27 : decode prog_8_method_11_code 27 = .ok (.putfield 26, 3) := by decide +kernel
theorem d_X6_number_30 : decode prog_8_method_11_code 30 = .ok (.aload_n 0, 1) := by decide +kernel
theorem d_X6_number_31 : decode prog_8_method_11_code 31 = .ok (.dup, 1) := by decide +kernel
theorem d_X6_number_32 : decode prog_8_method_11_code 32 = .ok (.getfield 22, 3) := by decide +kernel
theorem d_X6_number_35 : decode prog_8_method_11_code 35 = .ok (.iconst 1, 1) := by decide +kernel
theorem d_X6_number_36 : decode prog_8_method_11_code 36 = .ok (.iadd, 1) := by decide +kernel
theorem d_X6_number_37 : decode prog_8_method_11_code 37 = .ok (.putfield 22, 3) := by decide +kernel
theorem d_X6_number_40 : decode prog_8_method_11_code 40 = .ok (.aload_n 0, 1) := by decide +kernel
theorem d_X6_number_41 : decode prog_8_method_11_code 41 = .ok (.getfield 9, 3) := by decide +kernel
theorem d_X6_number_44 : decode prog_8_method_11_code 44 = .ok (.aload_n 0, 1) := by decide +kernel
theorem d_X6_number_45 : decode prog_8_method_11_code 45 = .ok (.getfield 22, 3) := by decide +kernel
theorem d_X6_number_48 : decode prog_8_method_11_code 48 = .ok (.iaload, 1) := by decide +kernel
theorem d_X6_number_49 : decode prog_8_method_11_code 49 = .ok (.bipush 48, 2) := by decide +kernel
theorem d_X6_number_51 : decode prog_8_method_11_code 51 = .ok (.isub, 1) := by decide +kernel
theorem d_X6_number_52 : decode prog_8_method_11_code 52 = .ok (.istore_n 2, 1) := by decide +kernel
theorem d_X6_number_53 : decode prog_8_method_11_code 53 = .ok (.iload_n 1, 1) := by decide +kernel
theorem d_X6_number_54 : decode prog_8_method_11_code 54 = .ok (.ifCond .le 33, 3) := by decide +kernel
theorem d_X6_number_57 : decode prog_8_method_11_code 57 = .ok (.iload_n 2, 1) := by decide +kernel
theorem d_X6_number_58 : decode prog_8_method_11_code 58 = .ok (.ifCond .lt 29, 3) := by decide +kernel
theorem d_X6_number_61 : decode prog_8_method_11_code 61 = .ok (.iload_n 2, 1) := by decide +kernel
theorem d_X6_number_62 : decode prog_8_method_11_code 62 = .ok (.bipush 9, 2) := by decide +kernel
theorem d_X6_number_64 : decode prog_8_method_11_code 64 = .ok (.if_icmp .gt 23, 3) := by decide +kernel
theorem d_X6_number_67 : decode prog_8_method_11_code 67 = .ok (.aload_n 0, 1) := by decide +kernel
theorem d_X6_number_68 : decode prog_8_method_11_code 68 = .ok (.iload_n 1, 1) := by decide +kernel
theorem d_X6_number_69 : decode prog_8_method_11_code 69 = .ok (.bipush 10, 2) := by decide +kernel
theorem d_X6_number_71 : decode prog_8_method_11_code 71 = .ok (.imul, 1) := by decide +kernel
theorem d_X6_number_72 : decode prog_8_method_11_code 72 = .ok (.iload_n 2, 1) := by decide +kernel
theorem d_X6_number_73 : decode prog_8_method_11_code 73 = .ok (.iadd, 1) := by decide +kernel
theorem d_X6_number_74 : decode prog_8_method_11_code 74 = .ok (.putfield 26, 3) := by decide +kernel
theorem d_X6_number_77 : decode prog_8_method_11_code 77 = .ok (.aload_n 0, 1) := by decide +kernel
theorem d_X6_number_78 : decode prog_8_method_11_code 78 = .ok (.dup, 1) := by decide +kernel
theorem d_X6_number_79 : decode prog_8_method_11_code 79 = .ok (.getfield 22, 3) := by decide +kernel
theorem d_X6_number_82 : decode prog_8_method_11_code 82 = .ok (.iconst 1, 1) := by decide +kernel
theorem d_X6_number_83 : decode prog_8_method_11_code 83 = .ok (.iadd, 1) := by decide +kernel
theorem d_X6_number_84 : decode prog_8_method_11_code 84 = .ok (.putfield 22, 3) := by decide +kernel
theorem d_X6_number_87 : decode prog_8_method_11_code 87 = .ok (.iconst 1, 1) := by decide +kernel
theorem d_X6_number_88 : decode prog_8_method_11_code 88 = .ok (.ireturn, 1) := by decide +kernel
def m_X6_number (kap lam : Nat → Nat) (r0 : Nat) (S : fm_M) : Option (Int32 × fm_M) :=
  fm_gr kap 6 r0 0 S fun q1 =>
  fm_gi kap 6 r0 2 S fun x5 =>
  fm_ld kap lam 13 q1 x5 S fun x8 =>
  fm_let (x8 - 48 : Int32) fun x12 =>
  if x12 < 0 then (
   fm_z 0 (some (0, S))
  ) else (
   if x12 ≤ 9 then (
    fm_pi kap 6 r0 3 S x12 fun S27 =>
    fm_gi kap 6 r0 2 S27 fun x32 =>
    fm_pi kap 6 r0 2 S27 (x32 + 1) fun S37 =>
    fm_gr kap 6 r0 0 S37 fun q41 =>
    fm_gi kap 6 r0 2 S37 fun x45 =>
    fm_ld kap lam 13 q41 x45 S37 fun x48 =>
    fm_let (x48 - 48 : Int32) fun x52 =>
    if x12 ≤ 0 then (
     fm_z 1 (some (1, S37))
    ) else (
     if x52 < 0 then (
      fm_z 1 (some (1, S37))
     ) else (
      if 9 < x52 then (
       fm_z 1 (some (1, S37))
      ) else (
       fm_pi kap 6 r0 3 S37 ((x12 * 10) + x52) fun S74 =>
       fm_gi kap 6 r0 2 S74 fun x79 =>
       fm_pi kap 6 r0 2 S74 (x79 + 1) fun S84 =>
       fm_z 1 (some (1, S84))
      )
     )
    )
   ) else (
    fm_z 0 (some (0, S))
   )
  )
set_option maxHeartbeats 4000000 in
set_option maxRecDepth 100000 in
theorem c_X6_number {l : Launch} {D : va_G} {ids kap lam : Nat → Nat} {RL : List Nat} {ad sk sv : Nat → Nat} {S : fm_M} {r0 : Nat} {r : Int32} {u : fm_M} (hE : fm_E kap RL ad) (hf : m_X6_number kap lam r0 S = some (r, u)) (sz : Nat) : fm_MI l y_X6_number prog_8_method_11_code 3 (Option.some Jvm.ClassFile.FieldType.boolean) 0 D ids kap lam RL ad sk sv S [.ref (ad r0)] sz r u := by
  refine fm_open rfl hE (Nat.le_of_ble_eq_true rfl) (fun p e s m args below meth c ls Z hr hlk G F N hl hsz => ?_)
  subst hsz
  obtain ⟨hx, hb, hml, hown, hts⟩ := id Z
  have hl : lv_has ls 3 [(0, .ref (ad r0))] := hl
  unfold m_X6_number at hf
  refine lv_aload_n hx hb d_X6_number_0 rfl (lv_at hl 0 rfl) ?_
  refine fm_rgr Z G F hf fr_X6_9 d_X6_number_1 (fun q1 _ hf => ?_)
  refine lv_aload_n hx hb d_X6_number_4 rfl (lv_at hl 0 rfl) ?_
  refine fm_rgi Z G F hf fr_X6_22 d_X6_number_5 (fun x5 _ hf => ?_)
  refine fm_rld Z G F hf d_X6_number_8 (fun x8 _ hf => ?_)
  refine lv_bipush (v := 48) hx hb d_X6_number_9 (by decide) ?_
  refine lv_isub hx hb d_X6_number_11 ?_
  refine lv_topi (fun x12 ex12 => ?_)
  have hf := fm_let_at ex12 hf
  refine lv_istore_n (lv' := [(1, .int x12), (0, .ref (ad r0))]) hx hb d_X6_number_12 rfl hl (by decide) rfl (fun ls hl => ?_)
  refine lv_iload_n hx hb d_X6_number_13 rfl (lv_at hl 0 rfl) ?_
  refine lv_if_lt (tgt := 23) hx hb d_X6_number_14 (by decide) (fun c14 => ?_) (fun c14 => ?_)
  · have hf := fm_ip c14 hf
    refine lv_iconst (v := 0) hx hb d_X6_number_23 (by decide) ?_
    obtain ⟨hz, hf⟩ := fm_some hf
    exact fm_retz Z hr hlk F d_X6_number_24 hz (Prod.mk.inj (Option.some.inj hf)).1 (Prod.mk.inj (Option.some.inj hf)).2
  · have hf := fm_ig c14 hf
    refine lv_iload_n hx hb d_X6_number_17 rfl (lv_at hl 0 rfl) ?_
    refine lv_bipush (v := 9) hx hb d_X6_number_18 (by decide) ?_
    refine lv_icmp_le (tgt := 25) hx hb d_X6_number_20 (by decide) (fun c20 => ?_) (fun c20 => ?_)
    · have hf := fm_ip c20 hf
      refine lv_aload_n hx hb d_X6_number_25 rfl (lv_at hl 1 rfl) ?_
      refine lv_iload_n hx hb d_X6_number_26 rfl (lv_at hl 0 rfl) ?_
      refine fm_rpi Z G F hf fs_X6_26 d_X6_number_27 (fun c h => by have h := eq_of_beq (show (c == 6) = true from h); subst h; rfl) (fun S27 H locs _ F hf => ?_)
      refine lv_aload_n hx hb d_X6_number_30 rfl (lv_at hl 1 rfl) ?_
      refine lv_dup hx hb d_X6_number_31 rfl ?_
      refine fm_rgi Z G F hf fr_X6_22 d_X6_number_32 (fun x32 _ hf => ?_)
      refine lv_iconst (v := 1) hx hb d_X6_number_35 (by decide) ?_
      refine lv_iadd hx hb d_X6_number_36 ?_
      refine fm_rpi Z G F hf fs_X6_22 d_X6_number_37 (fun c h => by have h := eq_of_beq (show (c == 6) = true from h); subst h; rfl) (fun S37 H locs _ F hf => ?_)
      refine lv_aload_n hx hb d_X6_number_40 rfl (lv_at hl 1 rfl) ?_
      refine fm_rgr Z G F hf fr_X6_9 d_X6_number_41 (fun q41 _ hf => ?_)
      refine lv_aload_n hx hb d_X6_number_44 rfl (lv_at hl 1 rfl) ?_
      refine fm_rgi Z G F hf fr_X6_22 d_X6_number_45 (fun x45 _ hf => ?_)
      refine fm_rld Z G F hf d_X6_number_48 (fun x48 _ hf => ?_)
      refine lv_bipush (v := 48) hx hb d_X6_number_49 (by decide) ?_
      refine lv_isub hx hb d_X6_number_51 ?_
      refine lv_topi (fun x52 ex52 => ?_)
      have hf := fm_let_at ex52 hf
      refine lv_istore_n (lv' := [(2, .int x52), (1, .int x12), (0, .ref (ad r0))]) hx hb d_X6_number_52 rfl hl (by decide) rfl (fun ls hl => ?_)
      refine lv_iload_n hx hb d_X6_number_53 rfl (lv_at hl 1 rfl) ?_
      refine lv_if_le (tgt := 87) hx hb d_X6_number_54 (by decide) (fun c54 => ?_) (fun c54 => ?_)
      · have hf := fm_ip c54 hf
        refine lv_iconst (v := 1) hx hb d_X6_number_87 (by decide) ?_
        obtain ⟨hz, hf⟩ := fm_some hf
        exact fm_retz Z hr hlk F d_X6_number_88 hz (Prod.mk.inj (Option.some.inj hf)).1 (Prod.mk.inj (Option.some.inj hf)).2
      · have hf := fm_ig c54 hf
        refine lv_iload_n hx hb d_X6_number_57 rfl (lv_at hl 0 rfl) ?_
        refine lv_if_lt (tgt := 87) hx hb d_X6_number_58 (by decide) (fun c58 => ?_) (fun c58 => ?_)
        · have hf := fm_ip c58 hf
          refine lv_iconst (v := 1) hx hb d_X6_number_87 (by decide) ?_
          obtain ⟨hz, hf⟩ := fm_some hf
          exact fm_retz Z hr hlk F d_X6_number_88 hz (Prod.mk.inj (Option.some.inj hf)).1 (Prod.mk.inj (Option.some.inj hf)).2
        · have hf := fm_ig c58 hf
          refine lv_iload_n hx hb d_X6_number_61 rfl (lv_at hl 0 rfl) ?_
          refine lv_bipush (v := 9) hx hb d_X6_number_62 (by decide) ?_
          refine lv_icmp_gt (tgt := 87) hx hb d_X6_number_64 (by decide) (fun c64 => ?_) (fun c64 => ?_)
          · have hf := fm_ip c64 hf
            refine lv_iconst (v := 1) hx hb d_X6_number_87 (by decide) ?_
            obtain ⟨hz, hf⟩ := fm_some hf
            exact fm_retz Z hr hlk F d_X6_number_88 hz (Prod.mk.inj (Option.some.inj hf)).1 (Prod.mk.inj (Option.some.inj hf)).2
          · have hf := fm_ig c64 hf
            refine lv_aload_n hx hb d_X6_number_67 rfl (lv_at hl 2 rfl) ?_
            refine lv_iload_n hx hb d_X6_number_68 rfl (lv_at hl 1 rfl) ?_
            refine lv_bipush (v := 10) hx hb d_X6_number_69 (by decide) ?_
            refine lv_imul hx hb d_X6_number_71 ?_
            refine lv_iload_n hx hb d_X6_number_72 rfl (lv_at hl 0 rfl) ?_
            refine lv_iadd hx hb d_X6_number_73 ?_
            refine fm_rpi Z G F hf fs_X6_26 d_X6_number_74 (fun c h => by have h := eq_of_beq (show (c == 6) = true from h); subst h; rfl) (fun S74 H locs _ F hf => ?_)
            refine lv_aload_n hx hb d_X6_number_77 rfl (lv_at hl 2 rfl) ?_
            refine lv_dup hx hb d_X6_number_78 rfl ?_
            refine fm_rgi Z G F hf fr_X6_22 d_X6_number_79 (fun x79 _ hf => ?_)
            refine lv_iconst (v := 1) hx hb d_X6_number_82 (by decide) ?_
            refine lv_iadd hx hb d_X6_number_83 ?_
            refine fm_rpi Z G F hf fs_X6_22 d_X6_number_84 (fun c h => by have h := eq_of_beq (show (c == 6) = true from h); subst h; rfl) (fun S84 H locs _ F hf => ?_)
            refine lv_iconst (v := 1) hx hb d_X6_number_87 (by decide) ?_
            obtain ⟨hz, hf⟩ := fm_some hf
            exact fm_retz Z hr hlk F d_X6_number_88 hz (Prod.mk.inj (Option.some.inj hf)).1 (Prod.mk.inj (Option.some.inj hf)).2
    · have hf := fm_ig c20 hf
      refine lv_iconst (v := 0) hx hb d_X6_number_23 (by decide) ?_
      obtain ⟨hz, hf⟩ := fm_some hf
      exact fm_retz Z hr hlk F d_X6_number_24 hz (Prod.mk.inj (Option.some.inj hf)).1 (Prod.mk.inj (Option.some.inj hf)).2
theorem d_X6_valuesSo_0 : decode prog_8_method_9_code 0 = .ok (.iconst 0, 1) := by decide +kernel
theorem d_X6_valuesSo_1 : decode prog_8_method_9_code 1 = .ok (.istore_n 2, 1) := by decide +kernel
theorem d_X6_valuesSo_2 : decode prog_8_method_9_code 2 = .ok (.iconst 0, 1) := by decide +kernel
theorem d_X6_valuesSo_3 : decode prog_8_method_9_code 3 = .ok (.istore_n 3, 1) := by decide +kernel
theorem d_X6_valuesSo_4 : decode prog_8_method_9_code 4 = .ok (.iload_n 3, 1) := by decide +kernel
theorem d_X6_valuesSo_5 : decode prog_8_method_9_code 5 = .ok (.bipush 12, 2) := by decide +kernel
theorem d_X6_valuesSo_7 : decode prog_8_method_9_code 7 = .ok (.if_icmp .ge 74, 3) := by decide +kernel
theorem d_X6_valuesSo_10 : decode prog_8_method_9_code 10 = .ok (.iload_n 0, 1) := by decide +kernel
theorem d_X6_valuesSo_11 : decode prog_8_method_9_code 11 = .ok (.bipush 60, 2) := by decide +kernel
theorem d_X6_valuesSo_13 : decode prog_8_method_9_code 13 = .ok (.if_icmp .ne 16, 3) := by decide +kernel
theorem d_X6_valuesSo_16 : decode prog_8_method_9_code 16 = .ok (.iload_n 3, 1) := by decide +kernel
theorem d_X6_valuesSo_17 : decode prog_8_method_9_code 17 = .ok (.iload_n 1, 1) := by decide +kernel
theorem d_X6_valuesSo_18 : decode prog_8_method_9_code 18 = .ok (.if_icmp .ge 7, 3) := by decide +kernel
theorem d_X6_valuesSo_21 : decode prog_8_method_9_code 21 = .ok (.iconst 1, 1) := by decide +kernel
theorem d_X6_valuesSo_22 : decode prog_8_method_9_code 22 = .ok (.goto 36, 3) := by decide +kernel
theorem d_X6_valuesSo_25 : decode prog_8_method_9_code 25 = .ok (.iconst 0, 1) := by decide +kernel
theorem d_X6_valuesSo_26 : decode prog_8_method_9_code 26 = .ok (.goto 32, 3) := by decide +kernel
theorem d_X6_valuesSo_29 : decode prog_8_method_9_code 29 = .ok (.iload_n 0, 1) := by decide +kernel
theorem d_X6_valuesSo_30 : decode prog_8_method_9_code 30 = .ok (.bipush 61, 2) := by decide +kernel
theorem d_X6_valuesSo_32 : decode prog_8_method_9_code 32 = .ok (.if_icmp .ne 16, 3) := by decide +kernel
theorem d_X6_valuesSo_35 : decode prog_8_method_9_code 35 = .ok (.iload_n 3, 1) := by decide +kernel
theorem d_X6_valuesSo_36 : decode prog_8_method_9_code 36 = .ok (.iload_n 1, 1) := by decide +kernel
theorem d_X6_valuesSo_37 : decode prog_8_method_9_code 37 = .ok (.if_icmp .ne 7, 3) := by decide +kernel
theorem d_X6_valuesSo_40 : decode prog_8_method_9_code 40 = .ok (.iconst 1, 1) := by decide +kernel
theorem d_X6_valuesSo_41 : decode prog_8_method_9_code 41 = .ok (.goto 17, 3) := by decide +kernel
theorem d_X6_valuesSo_44 : decode prog_8_method_9_code 44 = .ok (.iconst 0, 1) := by decide +kernel
theorem d_X6_valuesSo_45 : decode prog_8_method_9_code 45 = .ok (.goto 13, 3) := by decide +kernel
theorem d_X6_valuesSo_48 : decode prog_8_method_9_code 48 = .ok (.iload_n 3, 1) := by decide +kernel
theorem d_X6_valuesSo_49 : decode prog_8_method_9_code 49 = .ok (.iload_n 1, 1) := by decide +kernel
theorem d_X6_valuesSo_50 : decode prog_8_method_9_code 50 = .ok (.if_icmp .le 7, 3) := by decide +kernel
theorem d_X6_valuesSo_53 : decode prog_8_method_9_code 53 = .ok (.iconst 1, 1) := by decide +kernel
theorem d_X6_valuesSo_54 : decode prog_8_method_9_code 54 = .ok (.goto 4, 3) := by decide +kernel
theorem d_X6_valuesSo_57 : decode prog_8_method_9_code 57 = .ok (.iconst 0, 1) := by decide +kernel
theorem d_X6_valuesSo_58 : decode prog_8_method_9_code 58 = .ok (.istore 4, 2) := by decide +kernel
theorem d_X6_valuesSo_60 : decode prog_8_method_9_code 60 = .ok (.iload_n 2, 1) := by decide +kernel
theorem d_X6_valuesSo_61 : decode prog_8_method_9_code 61 = .ok (.iload 4, 2) := by decide +kernel
theorem d_X6_valuesSo_63 : decode prog_8_method_9_code 63 = .ok (.ifCond .eq 9, 3) := by decide +kernel
theorem d_X6_valuesSo_66 : decode prog_8_method_9_code 66 = .ok (.iconst 1, 1) := by decide +kernel
theorem d_X6_valuesSo_67 : decode prog_8_method_9_code 67 = .ok (.iload_n 3, 1) := by decide +kernel
theorem d_X6_valuesSo_68 : decode prog_8_method_9_code 68 = .ok (.ishl, 1) := by decide +kernel
theorem d_X6_valuesSo_69 : decode prog_8_method_9_code 69 = .ok (.goto 4, 3) := by decide +kernel
theorem d_X6_valuesSo_72 : decode prog_8_method_9_code 72 = .ok (.iconst 0, 1) := by decide +kernel
theorem d_X6_valuesSo_73 : decode prog_8_method_9_code 73 = .ok (.ior, 1) := by decide +kernel
theorem d_X6_valuesSo_74 : decode prog_8_method_9_code 74 = .ok (.istore_n 2, 1) := by decide +kernel
theorem d_X6_valuesSo_75 : decode prog_8_method_9_code 75 = .ok (.iinc 3 1, 3) := by decide +kernel
theorem d_X6_valuesSo_78 : decode prog_8_method_9_code 78 = .ok (.goto (-74), 3) := by decide +kernel
theorem d_X6_valuesSo_81 : decode prog_8_method_9_code 81 = .ok (.iload_n 2, 1) := by decide +kernel
theorem d_X6_valuesSo_82 : decode prog_8_method_9_code 82 = .ok (.ireturn, 1) := by decide +kernel
def k_X6_valuesSo_4 (kap lam : Nat → Nat) (S : fm_M) (go4 : Int32 → Int32 → Int32 → Int32 → Option Int32) (go58 : Int32 → Int32 → Int32 → Int32 → Int32 → Option Int32) (a0 : Int32) (a1 : Int32) (a2 : Int32) (a3 : Int32)  : Option Int32 :=
  if 12 ≤ a3 then (
   some a2
  ) else (
   if a0 = 60 then (
    if a1 ≤ a3 then (
     go58 a0 a1 a2 a3 0
    ) else (
     go58 a0 a1 a2 a3 1
    )
   ) else (
    if a0 = 61 then (
     if a3 = a1 then (
      go58 a0 a1 a2 a3 1
     ) else (
      go58 a0 a1 a2 a3 0
     )
    ) else (
     if a3 ≤ a1 then (
      go58 a0 a1 a2 a3 0
     ) else (
      go58 a0 a1 a2 a3 1
     )
    )
   )
  )
def k_X6_valuesSo_58 (kap lam : Nat → Nat) (S : fm_M) (go4 : Int32 → Int32 → Int32 → Int32 → Option Int32) (go58 : Int32 → Int32 → Int32 → Int32 → Int32 → Option Int32) (a0 : Int32) (a1 : Int32) (a2 : Int32) (a3 : Int32) (ak0 : Int32) : Option Int32 :=
  if ak0 = 0 then (
   fm_let (a2 ||| 0 : Int32) fun x74 =>
   fm_let (a3 + 1 : Int32) fun x75 =>
   go4 a0 a1 x74 x75
  ) else (
   fm_let (a2 ||| ((1 : Int32) <<< (a3 &&& 31)) : Int32) fun x74 =>
   fm_let (a3 + 1 : Int32) fun x75 =>
   go4 a0 a1 x74 x75
  )
def bs_X6_valuesSo (kap lam : Nat → Nat) (S : fm_M) : Nat → (Int32 → Int32 → Int32 → Int32 → Option Int32) × (Int32 → Int32 → Int32 → Int32 → Int32 → Option Int32)
  | 0 => ((fun _ _ _ _ => none), (fun _ _ _ _ _ => none))
  | n + 1 => (k_X6_valuesSo_4 kap lam S (bs_X6_valuesSo kap lam S n).1 (bs_X6_valuesSo kap lam S n).2, k_X6_valuesSo_58 kap lam S (bs_X6_valuesSo kap lam S n).1 (bs_X6_valuesSo kap lam S n).2)
def b_X6_valuesSo_4 (kap lam : Nat → Nat) (S : fm_M) (n : Nat) : Int32 → Int32 → Int32 → Int32 → Option Int32 := (bs_X6_valuesSo kap lam S n).1
def b_X6_valuesSo_58 (kap lam : Nat → Nat) (S : fm_M) (n : Nat) : Int32 → Int32 → Int32 → Int32 → Int32 → Option Int32 := (bs_X6_valuesSo kap lam S n).2
def m_X6_valuesSo (kap lam : Nat → Nat) (a0 : Int32) (a1 : Int32) (S : fm_M) : Option Int32 :=
  fm_let (0 : Int32) fun x1 =>
  fm_let (0 : Int32) fun x3 =>
  b_X6_valuesSo_4 kap lam S fm_LF a0 a1 x1 x3
set_option maxHeartbeats 4000000 in
set_option maxRecDepth 100000 in
theorem c_X6_valuesSo {l : Launch} {D : va_G} {ids kap lam : Nat → Nat} {RL : List Nat} {ad sk sv : Nat → Nat} {S : fm_M} {a0 : Int32} {a1 : Int32} {r : Int32} (hE : fm_E kap RL ad) (hf : m_X6_valuesSo kap lam a0 a1 S = some r) (sz : Nat) : fm_MI l y_X6_valuesSo prog_8_method_9_code 5 (Option.some Jvm.ClassFile.FieldType.int) 0 D ids kap lam RL ad sk sv S [.int a0, .int a1] sz r S := by
  refine fm_open rfl hE (Nat.le_of_ble_eq_true rfl) (fun p e s m args below meth c ls Z hr hlk G F N hl hsz => ?_)
  subst hsz
  obtain ⟨hx, hb, hml, hown, hts⟩ := id Z
  have hl : lv_has ls 5 [(0, .int a0), (1, .int a1)] := hl
  generalize hQ : MQ below _ args s 0 0 (fm_A RL ad s.heap.size) = Qf
  have hL : ∀ n : Nat, (∀ (a0 : Int32) (a1 : Int32) (a2 : Int32) (a3 : Int32)  (H : Heap) (locs : List Loc) (ls : Array Slot), fm_F D ids kap lam RL ad S (fm_A RL ad s.heap.size) s.heap H locs → lv_has ls 5 [(0, .int a0), (1, .int a1), (2, .int a2), (3, .int a3)] → b_X6_valuesSo_4 kap lam S n a0 a1 a2 a3 = some r → W p l e (fm_rm 0) s m args below meth c H locs 0 0 Qf (F0 m 4 ls [])) ∧ (∀ (a0 : Int32) (a1 : Int32) (a2 : Int32) (a3 : Int32) (ak0 : Int32) (H : Heap) (locs : List Loc) (ls : Array Slot), fm_F D ids kap lam RL ad S (fm_A RL ad s.heap.size) s.heap H locs → lv_has ls 5 [(0, .int a0), (1, .int a1), (2, .int a2), (3, .int a3)] → b_X6_valuesSo_58 kap lam S n a0 a1 a2 a3 ak0 = some r → W p l e (fm_rm 0) s m args below meth c H locs 0 0 Qf (F0 m 58 ls [.int ak0])) := by
    intro n
    induction n with
    | zero => exact ⟨fun _ _ _ _ _ _ _ _ _ hf => absurd hf (by intro h; cases h), fun _ _ _ _ _ _ _ _ _ _ hf => absurd hf (by intro h; cases h)⟩
    | succ n ih =>
      refine ⟨?_, ?_⟩
      · intro a0 a1 a2 a3 H locs ls F hl hf
        have hf : k_X6_valuesSo_4 kap lam S (b_X6_valuesSo_4 kap lam S n) (b_X6_valuesSo_58 kap lam S n) a0 a1 a2 a3 = some r := hf
        unfold k_X6_valuesSo_4 at hf
        refine lv_iload_n hx hb d_X6_valuesSo_4 rfl (lv_at hl 3 rfl) ?_
        refine lv_bipush (v := 12) hx hb d_X6_valuesSo_5 (by decide) ?_
        refine lv_icmp_ge (tgt := 81) hx hb d_X6_valuesSo_7 (by decide) (fun c7 => ?_) (fun c7 => ?_)
        · have hf := fm_ip c7 hf
          refine lv_iload_n hx hb d_X6_valuesSo_81 rfl (lv_at hl 2 rfl) ?_
          rw [← hQ]; exact fm_reti Z hr hlk F d_X6_valuesSo_82 (Option.some.inj hf) rfl
        · have hf := fm_ig c7 hf
          refine lv_iload_n hx hb d_X6_valuesSo_10 rfl (lv_at hl 0 rfl) ?_
          refine lv_bipush (v := 60) hx hb d_X6_valuesSo_11 (by decide) ?_
          refine lv_icmp_ne (tgt := 29) hx hb d_X6_valuesSo_13 (by decide) (fun c13 => ?_) (fun c13 => ?_)
          · have hf := fm_ig c13 hf
            refine lv_iload_n hx hb d_X6_valuesSo_29 rfl (lv_at hl 0 rfl) ?_
            refine lv_bipush (v := 61) hx hb d_X6_valuesSo_30 (by decide) ?_
            refine lv_icmp_ne (tgt := 48) hx hb d_X6_valuesSo_32 (by decide) (fun c32 => ?_) (fun c32 => ?_)
            · have hf := fm_ig c32 hf
              refine lv_iload_n hx hb d_X6_valuesSo_48 rfl (lv_at hl 3 rfl) ?_
              refine lv_iload_n hx hb d_X6_valuesSo_49 rfl (lv_at hl 1 rfl) ?_
              refine lv_icmp_le (tgt := 57) hx hb d_X6_valuesSo_50 (by decide) (fun c50 => ?_) (fun c50 => ?_)
              · have hf := fm_ip c50 hf
                refine lv_iconst (v := 0) hx hb d_X6_valuesSo_57 (by decide) ?_
                exact (ih).2 a0 a1 a2 a3 0 _ _ _ F (lv_sub hl [0, 1, 2, 3] rfl) hf
              · have hf := fm_ig c50 hf
                refine lv_iconst (v := 1) hx hb d_X6_valuesSo_53 (by decide) ?_
                refine lv_goto (tgt := 58) hx hb d_X6_valuesSo_54 (by decide) ?_
                exact (ih).2 a0 a1 a2 a3 1 _ _ _ F (lv_sub hl [0, 1, 2, 3] rfl) hf
            · have hf := fm_ip c32 hf
              refine lv_iload_n hx hb d_X6_valuesSo_35 rfl (lv_at hl 3 rfl) ?_
              refine lv_iload_n hx hb d_X6_valuesSo_36 rfl (lv_at hl 1 rfl) ?_
              refine lv_icmp_ne (tgt := 44) hx hb d_X6_valuesSo_37 (by decide) (fun c37 => ?_) (fun c37 => ?_)
              · have hf := fm_ig c37 hf
                refine lv_iconst (v := 0) hx hb d_X6_valuesSo_44 (by decide) ?_
                refine lv_goto (tgt := 58) hx hb d_X6_valuesSo_45 (by decide) ?_
                exact (ih).2 a0 a1 a2 a3 0 _ _ _ F (lv_sub hl [0, 1, 2, 3] rfl) hf
              · have hf := fm_ip c37 hf
                refine lv_iconst (v := 1) hx hb d_X6_valuesSo_40 (by decide) ?_
                refine lv_goto (tgt := 58) hx hb d_X6_valuesSo_41 (by decide) ?_
                exact (ih).2 a0 a1 a2 a3 1 _ _ _ F (lv_sub hl [0, 1, 2, 3] rfl) hf
          · have hf := fm_ip c13 hf
            refine lv_iload_n hx hb d_X6_valuesSo_16 rfl (lv_at hl 3 rfl) ?_
            refine lv_iload_n hx hb d_X6_valuesSo_17 rfl (lv_at hl 1 rfl) ?_
            refine lv_icmp_ge (tgt := 25) hx hb d_X6_valuesSo_18 (by decide) (fun c18 => ?_) (fun c18 => ?_)
            · have hf := fm_ip c18 hf
              refine lv_iconst (v := 0) hx hb d_X6_valuesSo_25 (by decide) ?_
              refine lv_goto (tgt := 58) hx hb d_X6_valuesSo_26 (by decide) ?_
              exact (ih).2 a0 a1 a2 a3 0 _ _ _ F (lv_sub hl [0, 1, 2, 3] rfl) hf
            · have hf := fm_ig c18 hf
              refine lv_iconst (v := 1) hx hb d_X6_valuesSo_21 (by decide) ?_
              refine lv_goto (tgt := 58) hx hb d_X6_valuesSo_22 (by decide) ?_
              exact (ih).2 a0 a1 a2 a3 1 _ _ _ F (lv_sub hl [0, 1, 2, 3] rfl) hf
      · intro a0 a1 a2 a3 ak0 H locs ls F hl hf
        have hf : k_X6_valuesSo_58 kap lam S (b_X6_valuesSo_4 kap lam S n) (b_X6_valuesSo_58 kap lam S n) a0 a1 a2 a3 ak0 = some r := hf
        unfold k_X6_valuesSo_58 at hf
        refine lv_istore (lv' := [(4, .int ak0), (0, .int a0), (1, .int a1), (2, .int a2), (3, .int a3)]) hx hb d_X6_valuesSo_58 hl (by decide) rfl (fun ls hl => ?_)
        refine lv_iload_n hx hb d_X6_valuesSo_60 rfl (lv_at hl 3 rfl) ?_
        refine lv_iload hx hb d_X6_valuesSo_61 (lv_at hl 0 rfl) ?_
        refine lv_if_eq (tgt := 72) hx hb d_X6_valuesSo_63 (by decide) (fun c63 => ?_) (fun c63 => ?_)
        · have hf := fm_ip c63 hf
          refine lv_iconst (v := 0) hx hb d_X6_valuesSo_72 (by decide) ?_
          refine lv_ior hx hb d_X6_valuesSo_73 ?_
          refine lv_topi (fun x74 ex74 => ?_)
          have hf := fm_let_at ex74 hf
          refine lv_istore_n (lv' := [(2, .int x74), (4, .int ak0), (0, .int a0), (1, .int a1), (3, .int a3)]) hx hb d_X6_valuesSo_74 rfl hl (by decide) rfl (fun ls hl => ?_)
          obtain ⟨x75, ex75⟩ : ∃ y : Int32, y = a3 + 1 := ⟨_, rfl⟩
          have hf := fm_let_at ex75 hf
          refine lv_iinc (v := x75) (lv' := [(3, .int x75), (2, .int x74), (4, .int ak0), (0, .int a0), (1, .int a1)]) hx hb d_X6_valuesSo_75 hl (k := 4) rfl (by rw [ex75]; rfl) (by decide) rfl (fun ls hl => ?_)
          refine lv_goto (tgt := 4) hx hb d_X6_valuesSo_78 (by decide) ?_
          exact (ih).1 a0 a1 x74 x75 _ _ _ F (lv_sub hl [3, 4, 1, 0] rfl) hf
        · have hf := fm_ig c63 hf
          refine lv_iconst (v := 1) hx hb d_X6_valuesSo_66 (by decide) ?_
          refine lv_iload_n hx hb d_X6_valuesSo_67 rfl (lv_at hl 4 rfl) ?_
          refine lv_ishl hx hb d_X6_valuesSo_68 ?_
          refine lv_goto (tgt := 73) hx hb d_X6_valuesSo_69 (by decide) ?_
          refine lv_ior hx hb d_X6_valuesSo_73 ?_
          refine lv_topi (fun x74 ex74 => ?_)
          have hf := fm_let_at ex74 hf
          refine lv_istore_n (lv' := [(2, .int x74), (4, .int ak0), (0, .int a0), (1, .int a1), (3, .int a3)]) hx hb d_X6_valuesSo_74 rfl hl (by decide) rfl (fun ls hl => ?_)
          obtain ⟨x75, ex75⟩ : ∃ y : Int32, y = a3 + 1 := ⟨_, rfl⟩
          have hf := fm_let_at ex75 hf
          refine lv_iinc (v := x75) (lv' := [(3, .int x75), (2, .int x74), (4, .int ak0), (0, .int a0), (1, .int a1)]) hx hb d_X6_valuesSo_75 hl (k := 4) rfl (by rw [ex75]; rfl) (by decide) rfl (fun ls hl => ?_)
          refine lv_goto (tgt := 4) hx hb d_X6_valuesSo_78 (by decide) ?_
          exact (ih).1 a0 a1 x74 x75 _ _ _ F (lv_sub hl [3, 4, 1, 0] rfl) hf
  unfold m_X6_valuesSo at hf
  refine lv_iconst (v := 0) hx hb d_X6_valuesSo_0 (by decide) ?_
  refine lv_topi (fun x1 ex1 => ?_)
  have hf := fm_let_at ex1 hf
  refine lv_istore_n (lv' := [(2, .int x1), (0, .int a0), (1, .int a1)]) hx hb d_X6_valuesSo_1 rfl hl (by decide) rfl (fun ls hl => ?_)
  refine lv_iconst (v := 0) hx hb d_X6_valuesSo_2 (by decide) ?_
  refine lv_topi (fun x3 ex3 => ?_)
  have hf := fm_let_at ex3 hf
  refine lv_istore_n (lv' := [(3, .int x3), (2, .int x1), (0, .int a0), (1, .int a1)]) hx hb d_X6_valuesSo_3 rfl hl (by decide) rfl (fun ls hl => ?_)
  exact (hL fm_LF).1 a0 a1 x1 x3 _ _ _ F (lv_sub hl [2, 3, 1, 0] rfl) hf
theorem d_X6_test_0 : decode prog_8_method_8_code 0 = .ok (.aload_n 0, 1) := by decide +kernel
theorem d_X6_test_1 : decode prog_8_method_8_code 1 = .ok (.getfield 9, 3) := by decide +kernel
theorem d_X6_test_4 : decode prog_8_method_8_code 4 = .ok (.aload_n 0, 1) := by decide +kernel
theorem d_X6_test_5 : decode prog_8_method_8_code 5 = .ok (.getfield 22, 3) := by decide +kernel
theorem d_X6_test_8 : decode prog_8_method_8_code 8 = .ok (.iaload, 1) := by decide +kernel
theorem d_X6_test_9 : decode prog_8_method_8_code 9 = .ok (.istore_n 1, 1) := by decide +kernel
theorem d_X6_test_10 : decode prog_8_method_8_code 10 = .ok (.iload_n 1, 1) := by decide +kernel
theorem d_X6_test_11 : decode prog_8_method_8_code 11 = .ok (.bipush 112, 2) := by decide +kernel
theorem d_X6_test_13 : decode prog_8_method_8_code 13 = .ok (.if_icmp .eq 35, 3) := by decide +kernel
theorem d_X6_test_16 : decode prog_8_method_8_code 16 = .ok (.iload_n 1, 1) := by decide +kernel
theorem d_X6_test_17 : decode prog_8_method_8_code 17 = .ok (.bipush 107, 2) := by decide +kernel
theorem d_X6_test_19 : decode prog_8_method_8_code 19 = .ok (.if_icmp .eq 29, 3) := by decide +kernel
theorem d_X6_test_22 : decode prog_8_method_8_code 22 = .ok (.iload_n 1, 1) := by decide +kernel
theorem d_X6_test_23 : decode prog_8_method_8_code 23 = .ok (.bipush 99, 2) := by decide +kernel
theorem d_X6_test_25 : decode prog_8_method_8_code 25 = .ok (.if_icmp .eq 23, 3) := by decide +kernel
theorem d_X6_test_28 : decode prog_8_method_8_code 28 = .ok (.iload_n 1, 1) := by decide +kernel
theorem d_X6_test_29 : decode prog_8_method_8_code 29 = .ok (.bipush 110, 2) := by decide +kernel
theorem d_X6_test_31 : decode prog_8_method_8_code 31 = .ok (.if_icmp .eq 17, 3) := by decide +kernel
theorem d_X6_test_34 : decode prog_8_method_8_code 34 = .ok (.iload_n 1, 1) := by decide +kernel
theorem d_X6_test_35 : decode prog_8_method_8_code 35 = .ok (.bipush 119, 2) := by decide +kernel
theorem d_X6_test_37 : decode prog_8_method_8_code 37 = .ok (.if_icmp .eq 11, 3) := by decide +kernel
theorem d_X6_test_40 : decode prog_8_method_8_code 40 = .ok (.iload_n 1, 1) := by decide +kernel
theorem d_X6_test_41 : decode prog_8_method_8_code 41 = .ok (.bipush 104, 2) := by decide +kernel
theorem d_X6_test_43 : decode prog_8_method_8_code 43 = .ok (.if_icmp .eq 5, 3) := by decide +kernel
theorem d_X6_test_46 : decode prog_8_method_8_code 46 = .ok (.iconst 0, 1) := by decide +kernel
theorem d_X6_test_47 : decode prog_8_method_8_code 47 = .ok (.ireturn, 1) := by decide +kernel
theorem d_X6_test_48 : decode prog_8_method_8_code 48 = .ok (.aload_n 0, 1) := by decide +kernel
theorem d_X6_test_49 : decode prog_8_method_8_code 49 = .ok (.dup, 1) := by decide +kernel
theorem d_X6_test_50 : decode prog_8_method_8_code 50 = .ok (.getfield 22, 3) := by decide +kernel
theorem d_X6_test_53 : decode prog_8_method_8_code 53 = .ok (.iconst 1, 1) := by decide +kernel
theorem d_X6_test_54 : decode prog_8_method_8_code 54 = .ok (.iadd, 1) := by decide +kernel
theorem d_X6_test_55 : decode prog_8_method_8_code 55 = .ok (.putfield 22, 3) := by decide +kernel
theorem d_X6_test_58 : decode prog_8_method_8_code 58 = .ok (.aload_n 0, 1) := by decide +kernel
theorem d_X6_test_59 : decode prog_8_method_8_code 59 = .ok (.getfield 9, 3) := by decide +kernel
theorem d_X6_test_62 : decode prog_8_method_8_code 62 = .ok (.aload_n 0, 1) := by decide +kernel
theorem d_X6_test_63 : decode prog_8_method_8_code 63 = .ok (.getfield 22, 3) := by decide +kernel
theorem d_X6_test_66 : decode prog_8_method_8_code 66 = .ok (.iaload, 1) := by decide +kernel
theorem d_X6_test_67 : decode prog_8_method_8_code 67 = .ok (.istore_n 2, 1) := by decide +kernel
theorem d_X6_test_68 : decode prog_8_method_8_code 68 = .ok (.iload_n 2, 1) := by decide +kernel
theorem d_X6_test_69 : decode prog_8_method_8_code 69 = .ok (.bipush 60, 2) := by decide +kernel
theorem d_X6_test_71 : decode prog_8_method_8_code 71 = .ok (.if_icmp .eq 17, 3) := by decide +kernel
theorem d_X6_test_74 : decode prog_8_method_8_code 74 = .ok (.iload_n 2, 1) := by decide +kernel
theorem d_X6_test_75 : decode prog_8_method_8_code 75 = .ok (.bipush 61, 2) := by decide +kernel
theorem d_X6_test_77 : decode prog_8_method_8_code 77 = .ok (.if_icmp .eq 11, 3) := by decide +kernel
theorem d_X6_test_80 : decode prog_8_method_8_code 80 = .ok (.iload_n 2, 1) := by decide +kernel
theorem d_X6_test_81 : decode prog_8_method_8_code 81 = .ok (.bipush 62, 2) := by decide +kernel
theorem d_X6_test_83 : decode prog_8_method_8_code 83 = .ok (.if_icmp .eq 5, 3) := by decide +kernel
theorem d_X6_test_86 : decode prog_8_method_8_code 86 = .ok (.iconst 0, 1) := by decide +kernel
theorem d_X6_test_87 : decode prog_8_method_8_code 87 = .ok (.ireturn, 1) := by decide +kernel
theorem d_X6_test_88 : decode prog_8_method_8_code 88 = .ok (.aload_n 0, 1) := by decide +kernel
theorem d_X6_test_89 : decode prog_8_method_8_code 89 = .ok (.dup, 1) := by decide +kernel
theorem d_X6_test_90 : decode prog_8_method_8_code 90 = .ok (.getfield 22, 3) := by decide +kernel
theorem d_X6_test_93 : decode prog_8_method_8_code 93 = .ok (.iconst 1, 1) := by decide +kernel
theorem d_X6_test_94 : decode prog_8_method_8_code 94 = .ok (.iadd, 1) := by decide +kernel
theorem d_X6_test_95 : decode prog_8_method_8_code 95 = .ok (.putfield 22, 3) := by decide +kernel
theorem d_X6_test_98 : decode prog_8_method_8_code 98 = .ok (.aload_n 0, 1) := by decide +kernel
theorem d_X6_test_99 : decode prog_8_method_8_code 99 = .ok (.invokevirtual 63, 3) := by decide +kernel
theorem d_X6_test_102 : decode prog_8_method_8_code 102 = .ok (.istore_n 3, 1) := by decide +kernel
theorem d_X6_test_103 : decode prog_8_method_8_code 103 = .ok (.aload_n 0, 1) := by decide +kernel
theorem d_X6_test_104 : decode prog_8_method_8_code 104 = .ok (.getfield 18, 3) := by decide +kernel
theorem d_X6_test_107 : decode prog_8_method_8_code 107 = .ok (.iload_n 1, 1) := by decide +kernel
theorem d_X6_test_108 : decode prog_8_method_8_code 108 = .ok (.iload_n 2, 1) := by decide +kernel
theorem d_X6_test_109 : decode prog_8_method_8_code 109 = .ok (.aload_n 0, 1) := by decide +kernel
theorem d_X6_test_110 : decode prog_8_method_8_code 110 = .ok (.getfield 26, 3) := by decide +kernel
theorem d_X6_test_113 : decode prog_8_method_8_code 113 = .ok (.invokestatic 100, 3) := by decide +kernel
theorem d_X6_test_116 : decode prog_8_method_8_code 116 = .ok (.invokevirtual 90, 3) := by decide +kernel
theorem d_X6_test_119 : decode prog_8_method_8_code 119 = .ok (.iload_n 3, 1) := by decide +kernel
theorem d_X6_test_120 : decode prog_8_method_8_code 120 = .ok (.ireturn, 1) := by decide +kernel
def k_X6_test_48 (kap lam : Nat → Nat) (go48 : Nat → Int32 → fm_M → Option (Int32 × fm_M)) (r0 : Nat) (a1 : Int32)  (S : fm_M) : Option (Int32 × fm_M) :=
  fm_gi kap 6 r0 2 S fun x50 =>
  fm_pi kap 6 r0 2 S (x50 + 1) fun S55 =>
  fm_gr kap 6 r0 0 S55 fun q59 =>
  fm_gi kap 6 r0 2 S55 fun x63 =>
  fm_ld kap lam 13 q59 x63 S55 fun x66 =>
  if x66 = 60 then (
   fm_gi kap 6 r0 2 S55 fun x90 =>
   fm_pi kap 6 r0 2 S55 (x90 + 1) fun S95 =>
   fm_ck (kap r0 == 6) <|
   fm_bi (m_X6_number kap lam r0 S95) fun x99 S99 =>
   fm_gr kap 6 r0 1 S99 fun q104 =>
   fm_gi kap 6 r0 3 S99 fun x110 =>
   fm_b1 (m_X6_valuesSo kap lam x66 x110 S99) fun x113 =>
   fm_ck (kap q104 == 10) <|
   fm_b1 (m_X10_addSign kap lam q104 a1 x113 S99) fun S116 =>
   fm_z x99 (some (x99, S116))
  ) else (
   if x66 = 61 then (
    fm_gi kap 6 r0 2 S55 fun x90 =>
    fm_pi kap 6 r0 2 S55 (x90 + 1) fun S95 =>
    fm_ck (kap r0 == 6) <|
    fm_bi (m_X6_number kap lam r0 S95) fun x99 S99 =>
    fm_gr kap 6 r0 1 S99 fun q104 =>
    fm_gi kap 6 r0 3 S99 fun x110 =>
    fm_b1 (m_X6_valuesSo kap lam x66 x110 S99) fun x113 =>
    fm_ck (kap q104 == 10) <|
    fm_b1 (m_X10_addSign kap lam q104 a1 x113 S99) fun S116 =>
    fm_z x99 (some (x99, S116))
   ) else (
    if x66 = 62 then (
     fm_gi kap 6 r0 2 S55 fun x90 =>
     fm_pi kap 6 r0 2 S55 (x90 + 1) fun S95 =>
     fm_ck (kap r0 == 6) <|
     fm_bi (m_X6_number kap lam r0 S95) fun x99 S99 =>
     fm_gr kap 6 r0 1 S99 fun q104 =>
     fm_gi kap 6 r0 3 S99 fun x110 =>
     fm_b1 (m_X6_valuesSo kap lam x66 x110 S99) fun x113 =>
     fm_ck (kap q104 == 10) <|
     fm_b1 (m_X10_addSign kap lam q104 a1 x113 S99) fun S116 =>
     fm_z x99 (some (x99, S116))
    ) else (
     fm_z 0 (some (0, S55))
    )
   )
  )
def b_X6_test_48 (kap lam : Nat → Nat) : Nat → Nat → Int32 → fm_M → Option (Int32 × fm_M)
  | 0 => fun _ _ _ => none
  | n + 1 => k_X6_test_48 kap lam (b_X6_test_48 kap lam n)
def m_X6_test (kap lam : Nat → Nat) (r0 : Nat) (S : fm_M) : Option (Int32 × fm_M) :=
  fm_gr kap 6 r0 0 S fun q1 =>
  fm_gi kap 6 r0 2 S fun x5 =>
  fm_ld kap lam 13 q1 x5 S fun x8 =>
  if x8 = 112 then (
   b_X6_test_48 kap lam fm_LF r0 x8 S
  ) else (
   if x8 = 107 then (
    b_X6_test_48 kap lam fm_LF r0 x8 S
   ) else (
    if x8 = 99 then (
     b_X6_test_48 kap lam fm_LF r0 x8 S
    ) else (
     if x8 = 110 then (
      b_X6_test_48 kap lam fm_LF r0 x8 S
     ) else (
      if x8 = 119 then (
       b_X6_test_48 kap lam fm_LF r0 x8 S
      ) else (
       if x8 = 104 then (
        b_X6_test_48 kap lam fm_LF r0 x8 S
       ) else (
        fm_z 0 (some (0, S))
       )
      )
     )
    )
   )
  )
set_option maxHeartbeats 4000000 in
set_option maxRecDepth 100000 in
theorem c_X6_test {l : Launch} {D : va_G} {ids kap lam : Nat → Nat} {RL : List Nat} {ad sk sv : Nat → Nat} {S : fm_M} {r0 : Nat} {r : Int32} {u : fm_M} (hE : fm_E kap RL ad) (hf : m_X6_test kap lam r0 S = some (r, u)) (sz : Nat) : fm_MI l y_X6_test prog_8_method_8_code 4 (Option.some Jvm.ClassFile.FieldType.boolean) 1 D ids kap lam RL ad sk sv S [.ref (ad r0)] sz r u := by
  refine fm_open rfl hE (Nat.le_of_ble_eq_true rfl) (fun p e s m args below meth c ls Z hr hlk G F N hl hsz => ?_)
  subst hsz
  obtain ⟨hx, hb, hml, hown, hts⟩ := id Z
  have hl : lv_has ls 4 [(0, .ref (ad r0))] := hl
  generalize hQ : MQ below _ args s 0 0 (fm_A RL ad s.heap.size) = Qf
  have hL : ∀ n : Nat, (∀ (r0 : Nat) (a1 : Int32)  (S : fm_M) (H : Heap) (locs : List Loc) (ls : Array Slot), fm_F D ids kap lam RL ad S (fm_A RL ad s.heap.size) s.heap H locs → lv_has ls 4 [(0, .ref (ad r0)), (1, .int a1)] → b_X6_test_48 kap lam n r0 a1 S = some (r, u) → W p l e (fm_rm 1) s m args below meth c H locs 0 0 Qf (F0 m 48 ls [])) := by
    intro n
    induction n with
    | zero => exact fun _ _ _ _ _ _ _ _ hf => absurd hf (by intro h; cases h)
    | succ n ih =>
      intro r0 a1 S H locs ls F hl hf
      have hf : k_X6_test_48 kap lam (b_X6_test_48 kap lam n) r0 a1 S = some (r, u) := hf
      unfold k_X6_test_48 at hf
      refine lv_aload_n hx hb d_X6_test_48 rfl (lv_at hl 0 rfl) ?_
      refine lv_dup hx hb d_X6_test_49 rfl ?_
      refine fm_rgi Z G F hf fr_X6_22 d_X6_test_50 (fun x50 _ hf => ?_)
      refine lv_iconst (v := 1) hx hb d_X6_test_53 (by decide) ?_
      refine lv_iadd hx hb d_X6_test_54 ?_
      refine fm_rpi Z G F hf fs_X6_22 d_X6_test_55 (fun c h => by have h := eq_of_beq (show (c == 6) = true from h); subst h; rfl) (fun S55 H locs _ F hf => ?_)
      refine lv_aload_n hx hb d_X6_test_58 rfl (lv_at hl 0 rfl) ?_
      refine fm_rgr Z G F hf fr_X6_9 d_X6_test_59 (fun q59 _ hf => ?_)
      refine lv_aload_n hx hb d_X6_test_62 rfl (lv_at hl 0 rfl) ?_
      refine fm_rgi Z G F hf fr_X6_22 d_X6_test_63 (fun x63 _ hf => ?_)
      refine fm_rld Z G F hf d_X6_test_66 (fun x66 _ hf => ?_)
      refine lv_istore_n (lv' := [(2, .int x66), (0, .ref (ad r0)), (1, .int a1)]) hx hb d_X6_test_67 rfl hl (by decide) rfl (fun ls hl => ?_)
      refine lv_iload_n hx hb d_X6_test_68 rfl (lv_at hl 0 rfl) ?_
      refine lv_bipush (v := 60) hx hb d_X6_test_69 (by decide) ?_
      refine lv_icmp_eq (tgt := 88) hx hb d_X6_test_71 (by decide) (fun c71 => ?_) (fun c71 => ?_)
      · have hf := fm_ip c71 hf
        refine lv_aload_n hx hb d_X6_test_88 rfl (lv_at hl 1 rfl) ?_
        refine lv_dup hx hb d_X6_test_89 rfl ?_
        refine fm_rgi Z G F hf fr_X6_22 d_X6_test_90 (fun x90 _ hf => ?_)
        refine lv_iconst (v := 1) hx hb d_X6_test_93 (by decide) ?_
        refine lv_iadd hx hb d_X6_test_94 ?_
        refine fm_rpi Z G F hf fs_X6_22 d_X6_test_95 (fun c h => by have h := eq_of_beq (show (c == 6) = true from h); subst h; rfl) (fun S95 H locs _ F hf => ?_)
        refine lv_aload_n hx hb d_X6_test_98 rfl (lv_at hl 1 rfl) ?_
        obtain ⟨hk99, hf⟩ := fm_some hf
        refine fm_rci G F hf (fun r u ho => fm_runV (k := 0) Z G F N (As := []) (rest := []) (c_X6_number hE ho _) (by rw [eq_of_beq hk99]; decide) (by rw [eq_of_beq hk99]; rfl) kw_284 kw_286 kp_3 kw_5 kw_287 yd_X6_number rfl (by decide) (by decide) hl.1 (Nat.le_of_ble_eq_true rfl) d_X6_test_99 (Nat.le_refl 0) (Nat.le_refl 0)) (fun x99 S99 H locs _ F hf => ?_)
        refine lv_istore_n (lv' := [(3, .int x99), (2, .int x66), (0, .ref (ad r0)), (1, .int a1)]) hx hb d_X6_test_102 rfl hl (by decide) rfl (fun ls hl => ?_)
        refine lv_aload_n hx hb d_X6_test_103 rfl (lv_at hl 2 rfl) ?_
        refine fm_rgr Z G F hf fr_X6_18 d_X6_test_104 (fun q104 _ hf => ?_)
        refine lv_iload_n hx hb d_X6_test_107 rfl (lv_at hl 3 rfl) ?_
        refine lv_iload_n hx hb d_X6_test_108 rfl (lv_at hl 1 rfl) ?_
        refine lv_aload_n hx hb d_X6_test_109 rfl (lv_at hl 2 rfl) ?_
        refine fm_rgi Z G F hf fr_X6_26 d_X6_test_110 (fun x110 _ hf => ?_)
        refine fm_rcr G F hf (fun r ho => fm_runS (k := 2) Z G F N (As := [.int x66, .int x110]) (rest := [.int a1, .ref (ad q104)]) (c_X6_valuesSo hE ho _) kw_304 kw_305 kw_5 kw_306 yd_X6_valuesSo rfl (by decide) (by decide) hl.1 (Nat.le_of_ble_eq_true rfl) d_X6_test_113 (Nat.le_refl 0) (Nat.le_refl 0)) (fun x113 H locs _ F hf => ?_)
        obtain ⟨hk116, hf⟩ := fm_some hf
        refine fm_rcv G F hf (fun u ho => fm_runV (k := 2) Z G F N (As := [.int a1, .int x113]) (rest := []) (c_X10_addSign hE ho _) (by rw [eq_of_beq hk116]; decide) (by rw [eq_of_beq hk116]; rfl) kw_307 kw_308 kw_309 kw_2 kw_310 yd_X10_addSign rfl (by decide) (by decide) hl.1 (Nat.le_of_ble_eq_true rfl) d_X6_test_116 (Nat.le_refl 0) (Nat.le_refl 0)) (fun S116 H locs _ F hf => ?_)
        refine lv_iload_n hx hb d_X6_test_119 rfl (lv_at hl 0 rfl) ?_
        obtain ⟨hz, hf⟩ := fm_some hf
        rw [← hQ]; exact fm_retz Z hr hlk F d_X6_test_120 hz (Prod.mk.inj (Option.some.inj hf)).1 (Prod.mk.inj (Option.some.inj hf)).2
      · have hf := fm_ig c71 hf
        refine lv_iload_n hx hb d_X6_test_74 rfl (lv_at hl 0 rfl) ?_
        refine lv_bipush (v := 61) hx hb d_X6_test_75 (by decide) ?_
        refine lv_icmp_eq (tgt := 88) hx hb d_X6_test_77 (by decide) (fun c77 => ?_) (fun c77 => ?_)
        · have hf := fm_ip c77 hf
          refine lv_aload_n hx hb d_X6_test_88 rfl (lv_at hl 1 rfl) ?_
          refine lv_dup hx hb d_X6_test_89 rfl ?_
          refine fm_rgi Z G F hf fr_X6_22 d_X6_test_90 (fun x90 _ hf => ?_)
          refine lv_iconst (v := 1) hx hb d_X6_test_93 (by decide) ?_
          refine lv_iadd hx hb d_X6_test_94 ?_
          refine fm_rpi Z G F hf fs_X6_22 d_X6_test_95 (fun c h => by have h := eq_of_beq (show (c == 6) = true from h); subst h; rfl) (fun S95 H locs _ F hf => ?_)
          refine lv_aload_n hx hb d_X6_test_98 rfl (lv_at hl 1 rfl) ?_
          obtain ⟨hk99, hf⟩ := fm_some hf
          refine fm_rci G F hf (fun r u ho => fm_runV (k := 0) Z G F N (As := []) (rest := []) (c_X6_number hE ho _) (by rw [eq_of_beq hk99]; decide) (by rw [eq_of_beq hk99]; rfl) kw_284 kw_286 kp_3 kw_5 kw_287 yd_X6_number rfl (by decide) (by decide) hl.1 (Nat.le_of_ble_eq_true rfl) d_X6_test_99 (Nat.le_refl 0) (Nat.le_refl 0)) (fun x99 S99 H locs _ F hf => ?_)
          refine lv_istore_n (lv' := [(3, .int x99), (2, .int x66), (0, .ref (ad r0)), (1, .int a1)]) hx hb d_X6_test_102 rfl hl (by decide) rfl (fun ls hl => ?_)
          refine lv_aload_n hx hb d_X6_test_103 rfl (lv_at hl 2 rfl) ?_
          refine fm_rgr Z G F hf fr_X6_18 d_X6_test_104 (fun q104 _ hf => ?_)
          refine lv_iload_n hx hb d_X6_test_107 rfl (lv_at hl 3 rfl) ?_
          refine lv_iload_n hx hb d_X6_test_108 rfl (lv_at hl 1 rfl) ?_
          refine lv_aload_n hx hb d_X6_test_109 rfl (lv_at hl 2 rfl) ?_
          refine fm_rgi Z G F hf fr_X6_26 d_X6_test_110 (fun x110 _ hf => ?_)
          refine fm_rcr G F hf (fun r ho => fm_runS (k := 2) Z G F N (As := [.int x66, .int x110]) (rest := [.int a1, .ref (ad q104)]) (c_X6_valuesSo hE ho _) kw_304 kw_305 kw_5 kw_306 yd_X6_valuesSo rfl (by decide) (by decide) hl.1 (Nat.le_of_ble_eq_true rfl) d_X6_test_113 (Nat.le_refl 0) (Nat.le_refl 0)) (fun x113 H locs _ F hf => ?_)
          obtain ⟨hk116, hf⟩ := fm_some hf
          refine fm_rcv G F hf (fun u ho => fm_runV (k := 2) Z G F N (As := [.int a1, .int x113]) (rest := []) (c_X10_addSign hE ho _) (by rw [eq_of_beq hk116]; decide) (by rw [eq_of_beq hk116]; rfl) kw_307 kw_308 kw_309 kw_2 kw_310 yd_X10_addSign rfl (by decide) (by decide) hl.1 (Nat.le_of_ble_eq_true rfl) d_X6_test_116 (Nat.le_refl 0) (Nat.le_refl 0)) (fun S116 H locs _ F hf => ?_)
          refine lv_iload_n hx hb d_X6_test_119 rfl (lv_at hl 0 rfl) ?_
          obtain ⟨hz, hf⟩ := fm_some hf
          rw [← hQ]; exact fm_retz Z hr hlk F d_X6_test_120 hz (Prod.mk.inj (Option.some.inj hf)).1 (Prod.mk.inj (Option.some.inj hf)).2
        · have hf := fm_ig c77 hf
          refine lv_iload_n hx hb d_X6_test_80 rfl (lv_at hl 0 rfl) ?_
          refine lv_bipush (v := 62) hx hb d_X6_test_81 (by decide) ?_
          refine lv_icmp_eq (tgt := 88) hx hb d_X6_test_83 (by decide) (fun c83 => ?_) (fun c83 => ?_)
          · have hf := fm_ip c83 hf
            refine lv_aload_n hx hb d_X6_test_88 rfl (lv_at hl 1 rfl) ?_
            refine lv_dup hx hb d_X6_test_89 rfl ?_
            refine fm_rgi Z G F hf fr_X6_22 d_X6_test_90 (fun x90 _ hf => ?_)
            refine lv_iconst (v := 1) hx hb d_X6_test_93 (by decide) ?_
            refine lv_iadd hx hb d_X6_test_94 ?_
            refine fm_rpi Z G F hf fs_X6_22 d_X6_test_95 (fun c h => by have h := eq_of_beq (show (c == 6) = true from h); subst h; rfl) (fun S95 H locs _ F hf => ?_)
            refine lv_aload_n hx hb d_X6_test_98 rfl (lv_at hl 1 rfl) ?_
            obtain ⟨hk99, hf⟩ := fm_some hf
            refine fm_rci G F hf (fun r u ho => fm_runV (k := 0) Z G F N (As := []) (rest := []) (c_X6_number hE ho _) (by rw [eq_of_beq hk99]; decide) (by rw [eq_of_beq hk99]; rfl) kw_284 kw_286 kp_3 kw_5 kw_287 yd_X6_number rfl (by decide) (by decide) hl.1 (Nat.le_of_ble_eq_true rfl) d_X6_test_99 (Nat.le_refl 0) (Nat.le_refl 0)) (fun x99 S99 H locs _ F hf => ?_)
            refine lv_istore_n (lv' := [(3, .int x99), (2, .int x66), (0, .ref (ad r0)), (1, .int a1)]) hx hb d_X6_test_102 rfl hl (by decide) rfl (fun ls hl => ?_)
            refine lv_aload_n hx hb d_X6_test_103 rfl (lv_at hl 2 rfl) ?_
            refine fm_rgr Z G F hf fr_X6_18 d_X6_test_104 (fun q104 _ hf => ?_)
            refine lv_iload_n hx hb d_X6_test_107 rfl (lv_at hl 3 rfl) ?_
            refine lv_iload_n hx hb d_X6_test_108 rfl (lv_at hl 1 rfl) ?_
            refine lv_aload_n hx hb d_X6_test_109 rfl (lv_at hl 2 rfl) ?_
            refine fm_rgi Z G F hf fr_X6_26 d_X6_test_110 (fun x110 _ hf => ?_)
            refine fm_rcr G F hf (fun r ho => fm_runS (k := 2) Z G F N (As := [.int x66, .int x110]) (rest := [.int a1, .ref (ad q104)]) (c_X6_valuesSo hE ho _) kw_304 kw_305 kw_5 kw_306 yd_X6_valuesSo rfl (by decide) (by decide) hl.1 (Nat.le_of_ble_eq_true rfl) d_X6_test_113 (Nat.le_refl 0) (Nat.le_refl 0)) (fun x113 H locs _ F hf => ?_)
            obtain ⟨hk116, hf⟩ := fm_some hf
            refine fm_rcv G F hf (fun u ho => fm_runV (k := 2) Z G F N (As := [.int a1, .int x113]) (rest := []) (c_X10_addSign hE ho _) (by rw [eq_of_beq hk116]; decide) (by rw [eq_of_beq hk116]; rfl) kw_307 kw_308 kw_309 kw_2 kw_310 yd_X10_addSign rfl (by decide) (by decide) hl.1 (Nat.le_of_ble_eq_true rfl) d_X6_test_116 (Nat.le_refl 0) (Nat.le_refl 0)) (fun S116 H locs _ F hf => ?_)
            refine lv_iload_n hx hb d_X6_test_119 rfl (lv_at hl 0 rfl) ?_
            obtain ⟨hz, hf⟩ := fm_some hf
            rw [← hQ]; exact fm_retz Z hr hlk F d_X6_test_120 hz (Prod.mk.inj (Option.some.inj hf)).1 (Prod.mk.inj (Option.some.inj hf)).2
          · have hf := fm_ig c83 hf
            refine lv_iconst (v := 0) hx hb d_X6_test_86 (by decide) ?_
            obtain ⟨hz, hf⟩ := fm_some hf
            rw [← hQ]; exact fm_retz Z hr hlk F d_X6_test_87 hz (Prod.mk.inj (Option.some.inj hf)).1 (Prod.mk.inj (Option.some.inj hf)).2
  unfold m_X6_test at hf
  refine lv_aload_n hx hb d_X6_test_0 rfl (lv_at hl 0 rfl) ?_
  refine fm_rgr Z G F hf fr_X6_9 d_X6_test_1 (fun q1 _ hf => ?_)
  refine lv_aload_n hx hb d_X6_test_4 rfl (lv_at hl 0 rfl) ?_
  refine fm_rgi Z G F hf fr_X6_22 d_X6_test_5 (fun x5 _ hf => ?_)
  refine fm_rld Z G F hf d_X6_test_8 (fun x8 _ hf => ?_)
  refine lv_istore_n (lv' := [(1, .int x8), (0, .ref (ad r0))]) hx hb d_X6_test_9 rfl hl (by decide) rfl (fun ls hl => ?_)
  refine lv_iload_n hx hb d_X6_test_10 rfl (lv_at hl 0 rfl) ?_
  refine lv_bipush (v := 112) hx hb d_X6_test_11 (by decide) ?_
  refine lv_icmp_eq (tgt := 48) hx hb d_X6_test_13 (by decide) (fun c13 => ?_) (fun c13 => ?_)
  · have hf := fm_ip c13 hf
    exact (hL fm_LF) r0 x8 S _ _ _ F (lv_sub hl [1, 0] rfl) hf
  · have hf := fm_ig c13 hf
    refine lv_iload_n hx hb d_X6_test_16 rfl (lv_at hl 0 rfl) ?_
    refine lv_bipush (v := 107) hx hb d_X6_test_17 (by decide) ?_
    refine lv_icmp_eq (tgt := 48) hx hb d_X6_test_19 (by decide) (fun c19 => ?_) (fun c19 => ?_)
    · have hf := fm_ip c19 hf
      exact (hL fm_LF) r0 x8 S _ _ _ F (lv_sub hl [1, 0] rfl) hf
    · have hf := fm_ig c19 hf
      refine lv_iload_n hx hb d_X6_test_22 rfl (lv_at hl 0 rfl) ?_
      refine lv_bipush (v := 99) hx hb d_X6_test_23 (by decide) ?_
      refine lv_icmp_eq (tgt := 48) hx hb d_X6_test_25 (by decide) (fun c25 => ?_) (fun c25 => ?_)
      · have hf := fm_ip c25 hf
        exact (hL fm_LF) r0 x8 S _ _ _ F (lv_sub hl [1, 0] rfl) hf
      · have hf := fm_ig c25 hf
        refine lv_iload_n hx hb d_X6_test_28 rfl (lv_at hl 0 rfl) ?_
        refine lv_bipush (v := 110) hx hb d_X6_test_29 (by decide) ?_
        refine lv_icmp_eq (tgt := 48) hx hb d_X6_test_31 (by decide) (fun c31 => ?_) (fun c31 => ?_)
        · have hf := fm_ip c31 hf
          exact (hL fm_LF) r0 x8 S _ _ _ F (lv_sub hl [1, 0] rfl) hf
        · have hf := fm_ig c31 hf
          refine lv_iload_n hx hb d_X6_test_34 rfl (lv_at hl 0 rfl) ?_
          refine lv_bipush (v := 119) hx hb d_X6_test_35 (by decide) ?_
          refine lv_icmp_eq (tgt := 48) hx hb d_X6_test_37 (by decide) (fun c37 => ?_) (fun c37 => ?_)
          · have hf := fm_ip c37 hf
            exact (hL fm_LF) r0 x8 S _ _ _ F (lv_sub hl [1, 0] rfl) hf
          · have hf := fm_ig c37 hf
            refine lv_iload_n hx hb d_X6_test_40 rfl (lv_at hl 0 rfl) ?_
            refine lv_bipush (v := 104) hx hb d_X6_test_41 (by decide) ?_
            refine lv_icmp_eq (tgt := 48) hx hb d_X6_test_43 (by decide) (fun c43 => ?_) (fun c43 => ?_)
            · have hf := fm_ip c43 hf
              exact (hL fm_LF) r0 x8 S _ _ _ F (lv_sub hl [1, 0] rfl) hf
            · have hf := fm_ig c43 hf
              refine lv_iconst (v := 0) hx hb d_X6_test_46 (by decide) ?_
              obtain ⟨hz, hf⟩ := fm_some hf
              rw [← hQ]; exact fm_retz Z hr hlk F d_X6_test_47 hz (Prod.mk.inj (Option.some.inj hf)).1 (Prod.mk.inj (Option.some.inj hf)).2
theorem d_X6_either_0 : decode prog_8_method_5_code 0 = .ok (.aload_n 0, 1) := by decide +kernel
theorem d_X6_either_1 : decode prog_8_method_5_code 1 = .ok (.iload_n 1, 1) := by decide +kernel
theorem d_X6_either_2 : decode prog_8_method_5_code 2 = .ok (.invokevirtual 87, 3) := by decide +kernel
theorem d_X6_either_5 : decode prog_8_method_5_code 5 = .ok (.istore_n 2, 1) := by decide +kernel
theorem d_X6_either_6 : decode prog_8_method_5_code 6 = .ok (.iconst 0, 1) := by decide +kernel
theorem d_X6_either_7 : decode prog_8_method_5_code 7 = .ok (.istore_n 3, 1) := by decide +kernel
theorem d_X6_either_8 : decode prog_8_method_5_code 8 = .ok (.iload_n 3, 1) := by decide +kernel
theorem d_X6_either_9 : decode prog_8_method_5_code 9 = .ok (.bipush 100, 2) := by decide +kernel
theorem d_X6_either_11 : decode prog_8_method_5_code 11 = .ok (.if_icmp .ge 38, 3) := by decide +kernel
theorem d_X6_either_14 : decode prog_8_method_5_code 14 = .ok (.iload_n 2, 1) := by decide +kernel
theorem d_X6_either_15 : decode prog_8_method_5_code 15 = .ok (.ifCond .eq 34, 3) := by decide +kernel
theorem d_X6_either_18 : decode prog_8_method_5_code 18 = .ok (.aload_n 0, 1) := by decide +kernel
theorem d_X6_either_19 : decode prog_8_method_5_code 19 = .ok (.bipush 124, 2) := by decide +kernel
theorem d_X6_either_21 : decode prog_8_method_5_code 21 = .ok (.invokevirtual 47, 3) := by decide +kernel
theorem d_X6_either_24 : decode prog_8_method_5_code 24 = .ok (.ifCond .eq 25, 3) := by decide +kernel
theorem d_X6_either_27 : decode prog_8_method_5_code 27 = .ok (.aload_n 0, 1) := by decide +kernel
theorem d_X6_either_28 : decode prog_8_method_5_code 28 = .ok (.iload_n 1, 1) := by decide +kernel
theorem d_X6_either_29 : decode prog_8_method_5_code 29 = .ok (.invokevirtual 87, 3) := by decide +kernel
theorem d_X6_either_32 : decode prog_8_method_5_code 32 = .ok (.istore_n 2, 1) := by decide +kernel
theorem d_X6_either_33 : decode prog_8_method_5_code 33 = .ok (.aload_n 0, 1) := by decide +kernel
theorem d_X6_either_34 : decode prog_8_method_5_code 34 = .ok (.getfield 18, 3) := by decide +kernel
theorem d_X6_either_37 : decode prog_8_method_5_code 37 = .ok (.bipush 124, 2) := by decide +kernel
theorem d_X6_either_39 : decode prog_8_method_5_code 39 = .ok (.iconst 0, 1) := by decide +kernel
theorem d_X6_either_40 : decode prog_8_method_5_code 40 = .ok (.invokevirtual 90, 3) := by decide +kernel
theorem d_X6_either_43 : decode prog_8_method_5_code 43 = .ok (.iinc 3 1, 3) := by decide +kernel
theorem d_X6_either_46 : decode prog_8_method_5_code 46 = .ok (.goto (-38), 3) := by decide +kernel
theorem d_X6_either_49 : decode prog_8_method_5_code 49 = .ok (.iload_n 2, 1) := by decide +kernel
theorem d_X6_either_50 : decode prog_8_method_5_code 50 = .ok (.ireturn, 1) := by decide +kernel
def k_X6_either_8 (kap lam : Nat → Nat) (go_X6_either : Nat → Int32 → fm_M → Option (Int32 × fm_M)) (go_X6_both : Nat → Int32 → fm_M → Option (Int32 × fm_M)) (go_X6_part : Nat → Int32 → fm_M → Option (Int32 × fm_M)) (go8 : Nat → Int32 → Int32 → Int32 → fm_M → Option (Int32 × fm_M)) (r0 : Nat) (a1 : Int32) (a2 : Int32) (a3 : Int32)  (S : fm_M) : Option (Int32 × fm_M) :=
  if 100 ≤ a3 then (
   fm_z a2 (some (a2, S))
  ) else (
   if a2 = 0 then (
    fm_z a2 (some (a2, S))
   ) else (
    fm_ck (kap r0 == 6) <|
    fm_bi (m_X6_take kap lam r0 124 S) fun x21 S21 =>
    if x21 = 0 then (
     fm_z a2 (some (a2, S21))
    ) else (
     fm_ck (kap r0 == 6) <|
     fm_bi (go_X6_both r0 a1 S21) fun x29 S29 =>
     fm_gr kap 6 r0 1 S29 fun q34 =>
     fm_ck (kap q34 == 10) <|
     fm_b1 (m_X10_addSign kap lam q34 124 0 S29) fun S40 =>
     fm_let (a3 + 1 : Int32) fun x43 =>
     go8 r0 a1 x29 x43 S40
    )
   )
  )
def b_X6_either_8 (kap lam : Nat → Nat) (go_X6_either : Nat → Int32 → fm_M → Option (Int32 × fm_M)) (go_X6_both : Nat → Int32 → fm_M → Option (Int32 × fm_M)) (go_X6_part : Nat → Int32 → fm_M → Option (Int32 × fm_M)) : Nat → Nat → Int32 → Int32 → Int32 → fm_M → Option (Int32 × fm_M)
  | 0 => fun _ _ _ _ _ => none
  | n + 1 => k_X6_either_8 kap lam go_X6_either go_X6_both go_X6_part (b_X6_either_8 kap lam go_X6_either go_X6_both go_X6_part n)
def s_X6_either (kap lam : Nat → Nat) (go_X6_either : Nat → Int32 → fm_M → Option (Int32 × fm_M)) (go_X6_both : Nat → Int32 → fm_M → Option (Int32 × fm_M)) (go_X6_part : Nat → Int32 → fm_M → Option (Int32 × fm_M)) (r0 : Nat) (a1 : Int32) (S : fm_M) : Option (Int32 × fm_M) :=
  fm_ck (kap r0 == 6) <|
  fm_bi (go_X6_both r0 a1 S) fun x2 S2 =>
  fm_let (0 : Int32) fun x7 =>
  b_X6_either_8 kap lam go_X6_either go_X6_both go_X6_part fm_LF r0 a1 x2 x7 S2
theorem d_X6_both_0 : decode prog_8_method_6_code 0 = .ok (.aload_n 0, 1) := by decide +kernel
theorem d_X6_both_1 : decode prog_8_method_6_code 1 = .ok (.iload_n 1, 1) := by decide +kernel
theorem d_X6_both_2 : decode prog_8_method_6_code 2 = .ok (.invokevirtual 94, 3) := by decide +kernel
theorem d_X6_both_5 : decode prog_8_method_6_code 5 = .ok (.istore_n 2, 1) := by decide +kernel
theorem d_X6_both_6 : decode prog_8_method_6_code 6 = .ok (.iconst 0, 1) := by decide +kernel
theorem d_X6_both_7 : decode prog_8_method_6_code 7 = .ok (.istore_n 3, 1) := by decide +kernel
theorem d_X6_both_8 : decode prog_8_method_6_code 8 = .ok (.iload_n 3, 1) := by decide +kernel
theorem d_X6_both_9 : decode prog_8_method_6_code 9 = .ok (.bipush 100, 2) := by decide +kernel
theorem d_X6_both_11 : decode prog_8_method_6_code 11 = .ok (.if_icmp .ge 38, 3) := by decide +kernel
theorem d_X6_both_14 : decode prog_8_method_6_code 14 = .ok (.iload_n 2, 1) := by decide +kernel
theorem d_X6_both_15 : decode prog_8_method_6_code 15 = .ok (.ifCond .eq 34, 3) := by decide +kernel
theorem d_X6_both_18 : decode prog_8_method_6_code 18 = .ok (.aload_n 0, 1) := by decide +kernel
theorem d_X6_both_19 : decode prog_8_method_6_code 19 = .ok (.bipush 38, 2) := by decide +kernel
theorem d_X6_both_21 : decode prog_8_method_6_code 21 = .ok (.invokevirtual 47, 3) := by decide +kernel
theorem d_X6_both_24 : decode prog_8_method_6_code 24 = .ok (.ifCond .eq 25, 3) := by decide +kernel
theorem d_X6_both_27 : decode prog_8_method_6_code 27 = .ok (.aload_n 0, 1) := by decide +kernel
theorem d_X6_both_28 : decode prog_8_method_6_code 28 = .ok (.iload_n 1, 1) := by decide +kernel
theorem d_X6_both_29 : decode prog_8_method_6_code 29 = .ok (.invokevirtual 94, 3) := by decide +kernel
theorem d_X6_both_32 : decode prog_8_method_6_code 32 = .ok (.istore_n 2, 1) := by decide +kernel
theorem d_X6_both_33 : decode prog_8_method_6_code 33 = .ok (.aload_n 0, 1) := by decide +kernel
theorem d_X6_both_34 : decode prog_8_method_6_code 34 = .ok (.getfield 18, 3) := by decide +kernel
theorem d_X6_both_37 : decode prog_8_method_6_code 37 = .ok (.bipush 38, 2) := by decide +kernel
theorem d_X6_both_39 : decode prog_8_method_6_code 39 = .ok (.iconst 0, 1) := by decide +kernel
theorem d_X6_both_40 : decode prog_8_method_6_code 40 = .ok (.invokevirtual 90, 3) := by decide +kernel
theorem d_X6_both_43 : decode prog_8_method_6_code 43 = .ok (.iinc 3 1, 3) := by decide +kernel
theorem d_X6_both_46 : decode prog_8_method_6_code 46 = .ok (.goto (-38), 3) := by decide +kernel
theorem d_X6_both_49 : decode prog_8_method_6_code 49 = .ok (.iload_n 2, 1) := by decide +kernel
theorem d_X6_both_50 : decode prog_8_method_6_code 50 = .ok (.ireturn, 1) := by decide +kernel
def k_X6_both_8 (kap lam : Nat → Nat) (go_X6_either : Nat → Int32 → fm_M → Option (Int32 × fm_M)) (go_X6_both : Nat → Int32 → fm_M → Option (Int32 × fm_M)) (go_X6_part : Nat → Int32 → fm_M → Option (Int32 × fm_M)) (go8 : Nat → Int32 → Int32 → Int32 → fm_M → Option (Int32 × fm_M)) (r0 : Nat) (a1 : Int32) (a2 : Int32) (a3 : Int32)  (S : fm_M) : Option (Int32 × fm_M) :=
  if 100 ≤ a3 then (
   fm_z a2 (some (a2, S))
  ) else (
   if a2 = 0 then (
    fm_z a2 (some (a2, S))
   ) else (
    fm_ck (kap r0 == 6) <|
    fm_bi (m_X6_take kap lam r0 38 S) fun x21 S21 =>
    if x21 = 0 then (
     fm_z a2 (some (a2, S21))
    ) else (
     fm_ck (kap r0 == 6) <|
     fm_bi (go_X6_part r0 a1 S21) fun x29 S29 =>
     fm_gr kap 6 r0 1 S29 fun q34 =>
     fm_ck (kap q34 == 10) <|
     fm_b1 (m_X10_addSign kap lam q34 38 0 S29) fun S40 =>
     fm_let (a3 + 1 : Int32) fun x43 =>
     go8 r0 a1 x29 x43 S40
    )
   )
  )
def b_X6_both_8 (kap lam : Nat → Nat) (go_X6_either : Nat → Int32 → fm_M → Option (Int32 × fm_M)) (go_X6_both : Nat → Int32 → fm_M → Option (Int32 × fm_M)) (go_X6_part : Nat → Int32 → fm_M → Option (Int32 × fm_M)) : Nat → Nat → Int32 → Int32 → Int32 → fm_M → Option (Int32 × fm_M)
  | 0 => fun _ _ _ _ _ => none
  | n + 1 => k_X6_both_8 kap lam go_X6_either go_X6_both go_X6_part (b_X6_both_8 kap lam go_X6_either go_X6_both go_X6_part n)
def s_X6_both (kap lam : Nat → Nat) (go_X6_either : Nat → Int32 → fm_M → Option (Int32 × fm_M)) (go_X6_both : Nat → Int32 → fm_M → Option (Int32 × fm_M)) (go_X6_part : Nat → Int32 → fm_M → Option (Int32 × fm_M)) (r0 : Nat) (a1 : Int32) (S : fm_M) : Option (Int32 × fm_M) :=
  fm_ck (kap r0 == 6) <|
  fm_bi (go_X6_part r0 a1 S) fun x2 S2 =>
  fm_let (0 : Int32) fun x7 =>
  b_X6_both_8 kap lam go_X6_either go_X6_both go_X6_part fm_LF r0 a1 x2 x7 S2
theorem d_X6_part_0 : decode prog_8_method_7_code 0 = .ok (.aload_n 0, 1) := by decide +kernel
theorem d_X6_part_1 : decode prog_8_method_7_code 1 = .ok (.getfield 9, 3) := by decide +kernel
theorem d_X6_part_4 : decode prog_8_method_7_code 4 = .ok (.aload_n 0, 1) := by decide +kernel
theorem d_X6_part_5 : decode prog_8_method_7_code 5 = .ok (.getfield 22, 3) := by decide +kernel
theorem d_X6_part_8 : decode prog_8_method_7_code 8 = .ok (.iaload, 1) := by decide +kernel
theorem d_X6_part_9 : decode prog_8_method_7_code 9 = .ok (.bipush 33, 2) := by decide +kernel
theorem d_X6_part_11 : decode prog_8_method_7_code 11 = .ok (.if_icmp .ne 7, 3) := by decide +kernel
theorem d_X6_part_14 : decode prog_8_method_7_code 14 = .ok (.iconst 1, 1) := by decide +kernel
theorem d_X6_part_15 : decode prog_8_method_7_code 15 = .ok (.goto 4, 3) := by decide +kernel
theorem d_X6_part_18 : decode prog_8_method_7_code 18 = .ok (.iconst 0, 1) := by decide +kernel
theorem d_X6_part_19 : decode prog_8_method_7_code 19 = .ok (.istore_n 2, 1) := by decide +kernel
theorem d_X6_part_20 : decode prog_8_method_7_code 20 = .ok (.iload_n 2, 1) := by decide +kernel
theorem d_X6_part_21 : decode prog_8_method_7_code 21 = .ok (.ifCond .ne 22, 3) := by decide +kernel
theorem d_X6_part_24 : decode prog_8_method_7_code 24 = .ok (.aload_n 0, 1) := by decide +kernel
theorem d_X6_part_25 : decode prog_8_method_7_code 25 = .ok (.getfield 9, 3) := by decide +kernel
theorem d_X6_part_28 : decode prog_8_method_7_code 28 = .ok (.aload_n 0, 1) := by decide +kernel
theorem d_X6_part_29 : decode prog_8_method_7_code 29 = .ok (.getfield 22, 3) := by decide +kernel
theorem d_X6_part_32 : decode prog_8_method_7_code 32 = .ok (.iaload, 1) := by decide +kernel
theorem d_X6_part_33 : decode prog_8_method_7_code 33 = .ok (.bipush 40, 2) := by decide +kernel
theorem d_X6_part_35 : decode prog_8_method_7_code 35 = .ok (.if_icmp .eq 8, 3) := by decide +kernel
theorem d_X6_part_38 : decode prog_8_method_7_code 38 = .ok (.aload_n 0, 1) := by decide +kernel
theorem d_X6_part_39 : decode prog_8_method_7_code 39 = .ok (.invokevirtual 97, 3) := by decide +kernel
theorem d_X6_part_42 : decode prog_8_method_7_code 42 = .ok (.ireturn, 1) := by decide +kernel
theorem d_X6_part_43 : decode prog_8_method_7_code 43 = .ok (.iload_n 1, 1) := by decide +kernel
theorem d_X6_part_44 : decode prog_8_method_7_code 44 = .ok (.iconst 5, 1) := by decide +kernel
theorem d_X6_part_45 : decode prog_8_method_7_code 45 = .ok (.if_icmp .lt 5, 3) := by decide +kernel
theorem d_X6_part_48 : decode prog_8_method_7_code 48 = .ok (.iconst 0, 1) := by decide +kernel
theorem d_X6_part_49 : decode prog_8_method_7_code 49 = .ok (.ireturn, 1) := by decide +kernel
theorem d_X6_part_50 : decode prog_8_method_7_code 50 = .ok (.aload_n 0, 1) := by decide +kernel
theorem d_X6_part_51 : decode prog_8_method_7_code 51 = .ok (.dup, 1) := by decide +kernel
theorem d_X6_part_52 : decode prog_8_method_7_code 52 = .ok (.getfield 22, 3) := by decide +kernel
theorem d_X6_part_55 : decode prog_8_method_7_code 55 = .ok (.iconst 1, 1) := by decide +kernel
theorem d_X6_part_56 : decode prog_8_method_7_code 56 = .ok (.iadd, 1) := by decide +kernel
theorem d_X6_part_57 : decode prog_8_method_7_code 57 = .ok (.putfield 22, 3) := by decide +kernel
theorem d_X6_part_60 : decode prog_8_method_7_code 60 = .ok (.iload_n 2, 1) := by decide +kernel
theorem d_X6_part_61 : decode prog_8_method_7_code 61 = .ok (.ifCond .ne 28, 3) := by decide +kernel
theorem d_X6_part_64 : decode prog_8_method_7_code 64 = .ok (.aload_n 0, 1) := by decide +kernel
theorem d_X6_part_65 : decode prog_8_method_7_code 65 = .ok (.iload_n 1, 1) := by decide +kernel
theorem d_X6_part_66 : decode prog_8_method_7_code 66 = .ok (.iconst 1, 1) := by decide +kernel
theorem d_X6_part_67 : decode prog_8_method_7_code 67 = .ok (.iadd, 1) := by decide +kernel
theorem d_X6_part_68 : decode prog_8_method_7_code 68 = .ok (.invokevirtual 71, 3) := by decide +kernel
theorem d_X6_part_71 : decode prog_8_method_7_code 71 = .ok (.ifCond .eq 16, 3) := by decide +kernel
theorem d_X6_part_74 : decode prog_8_method_7_code 74 = .ok (.aload_n 0, 1) := by decide +kernel
theorem d_X6_part_75 : decode prog_8_method_7_code 75 = .ok (.bipush 41, 2) := by decide +kernel
theorem d_X6_part_77 : decode prog_8_method_7_code 77 = .ok (.invokevirtual 47, 3) := by decide +kernel
theorem d_X6_part_80 : decode prog_8_method_7_code 80 = .ok (.ifCond .eq 7, 3) := by decide +kernel
theorem d_X6_part_83 : decode prog_8_method_7_code 83 = .ok (.iconst 1, 1) := by decide +kernel
theorem d_X6_part_84 : decode prog_8_method_7_code 84 = .ok (.goto 4, 3) := by decide +kernel
theorem d_X6_part_87 : decode prog_8_method_7_code 87 = .ok (.iconst 0, 1) := by decide +kernel
theorem d_X6_part_88 : decode prog_8_method_7_code 88 = .ok (.ireturn, 1) := by decide +kernel
theorem d_X6_part_89 : decode prog_8_method_7_code 89 = .ok (.aload_n 0, 1) := by decide +kernel
theorem d_X6_part_90 : decode prog_8_method_7_code 90 = .ok (.iload_n 1, 1) := by decide +kernel
theorem d_X6_part_91 : decode prog_8_method_7_code 91 = .ok (.iconst 1, 1) := by decide +kernel
theorem d_X6_part_92 : decode prog_8_method_7_code 92 = .ok (.iadd, 1) := by decide +kernel
theorem d_X6_part_93 : decode prog_8_method_7_code 93 = .ok (.invokevirtual 94, 3) := by decide +kernel
theorem d_X6_part_96 : decode prog_8_method_7_code 96 = .ok (.istore_n 3, 1) := by decide +kernel
theorem d_X6_part_97 : decode prog_8_method_7_code 97 = .ok (.aload_n 0, 1) := by decide +kernel
theorem d_X6_part_98 : decode prog_8_method_7_code 98 = .ok (.getfield 18, 3) := by decide +kernel
theorem d_X6_part_101 : decode prog_8_method_7_code 101 = .ok (.bipush 33, 2) := by decide +kernel
theorem d_X6_part_103 : decode prog_8_method_7_code 103 = .ok (.iconst 0, 1) := by decide +kernel
theorem d_X6_part_104 : decode prog_8_method_7_code 104 = .ok (.invokevirtual 90, 3) := by decide +kernel
theorem d_X6_part_107 : decode prog_8_method_7_code 107 = .ok (.iload_n 3, 1) := by decide +kernel
theorem d_X6_part_108 : decode prog_8_method_7_code 108 = .ok (.ireturn, 1) := by decide +kernel
def k_X6_part_19 (kap lam : Nat → Nat) (go_X6_either : Nat → Int32 → fm_M → Option (Int32 × fm_M)) (go_X6_both : Nat → Int32 → fm_M → Option (Int32 × fm_M)) (go_X6_part : Nat → Int32 → fm_M → Option (Int32 × fm_M)) (go19 : Nat → Int32 → Int32 → fm_M → Option (Int32 × fm_M)) (r0 : Nat) (a1 : Int32) (ak0 : Int32) (S : fm_M) : Option (Int32 × fm_M) :=
  if ak0 = 0 then (
   fm_gr kap 6 r0 0 S fun q25 =>
   fm_gi kap 6 r0 2 S fun x29 =>
   fm_ld kap lam 13 q25 x29 S fun x32 =>
   if x32 = 40 then (
    if a1 < 5 then (
     fm_gi kap 6 r0 2 S fun x52 =>
     fm_pi kap 6 r0 2 S (x52 + 1) fun S57 =>
     if ak0 = 0 then (
      fm_ck (kap r0 == 6) <|
      fm_bi (go_X6_either r0 (a1 + 1) S57) fun x68 S68 =>
      if x68 = 0 then (
       fm_z 0 (some (0, S68))
      ) else (
       fm_ck (kap r0 == 6) <|
       fm_bi (m_X6_take kap lam r0 41 S68) fun x77 S77 =>
       if x77 = 0 then (
        fm_z 0 (some (0, S77))
       ) else (
        fm_z 1 (some (1, S77))
       )
      )
     ) else (
      fm_ck (kap r0 == 6) <|
      fm_bi (go_X6_part r0 (a1 + 1) S57) fun x93 S93 =>
      fm_gr kap 6 r0 1 S93 fun q98 =>
      fm_ck (kap q98 == 10) <|
      fm_b1 (m_X10_addSign kap lam q98 33 0 S93) fun S104 =>
      fm_z x93 (some (x93, S104))
     )
    ) else (
     fm_z 0 (some (0, S))
    )
   ) else (
    fm_ck (kap r0 == 6) <|
    fm_bi (m_X6_test kap lam r0 S) fun x39 S39 =>
    fm_z x39 (some (x39, S39))
   )
  ) else (
   if a1 < 5 then (
    fm_gi kap 6 r0 2 S fun x52 =>
    fm_pi kap 6 r0 2 S (x52 + 1) fun S57 =>
    if ak0 = 0 then (
     fm_ck (kap r0 == 6) <|
     fm_bi (go_X6_either r0 (a1 + 1) S57) fun x68 S68 =>
     if x68 = 0 then (
      fm_z 0 (some (0, S68))
     ) else (
      fm_ck (kap r0 == 6) <|
      fm_bi (m_X6_take kap lam r0 41 S68) fun x77 S77 =>
      if x77 = 0 then (
       fm_z 0 (some (0, S77))
      ) else (
       fm_z 1 (some (1, S77))
      )
     )
    ) else (
     fm_ck (kap r0 == 6) <|
     fm_bi (go_X6_part r0 (a1 + 1) S57) fun x93 S93 =>
     fm_gr kap 6 r0 1 S93 fun q98 =>
     fm_ck (kap q98 == 10) <|
     fm_b1 (m_X10_addSign kap lam q98 33 0 S93) fun S104 =>
     fm_z x93 (some (x93, S104))
    )
   ) else (
    fm_z 0 (some (0, S))
   )
  )
def b_X6_part_19 (kap lam : Nat → Nat) (go_X6_either : Nat → Int32 → fm_M → Option (Int32 × fm_M)) (go_X6_both : Nat → Int32 → fm_M → Option (Int32 × fm_M)) (go_X6_part : Nat → Int32 → fm_M → Option (Int32 × fm_M)) : Nat → Nat → Int32 → Int32 → fm_M → Option (Int32 × fm_M)
  | 0 => fun _ _ _ _ => none
  | n + 1 => k_X6_part_19 kap lam go_X6_either go_X6_both go_X6_part (b_X6_part_19 kap lam go_X6_either go_X6_both go_X6_part n)
def s_X6_part (kap lam : Nat → Nat) (go_X6_either : Nat → Int32 → fm_M → Option (Int32 × fm_M)) (go_X6_both : Nat → Int32 → fm_M → Option (Int32 × fm_M)) (go_X6_part : Nat → Int32 → fm_M → Option (Int32 × fm_M)) (r0 : Nat) (a1 : Int32) (S : fm_M) : Option (Int32 × fm_M) :=
  fm_gr kap 6 r0 0 S fun q1 =>
  fm_gi kap 6 r0 2 S fun x5 =>
  fm_ld kap lam 13 q1 x5 S fun x8 =>
  if x8 = 33 then (
   b_X6_part_19 kap lam go_X6_either go_X6_both go_X6_part fm_LF r0 a1 1 S
  ) else (
   b_X6_part_19 kap lam go_X6_either go_X6_both go_X6_part fm_LF r0 a1 0 S
  )
def grp_rd (kap lam : Nat → Nat) : Nat → (Nat → Int32 → fm_M → Option (Int32 × fm_M)) × (Nat → Int32 → fm_M → Option (Int32 × fm_M)) × (Nat → Int32 → fm_M → Option (Int32 × fm_M))
  | 0 => ((fun _ _ _ => none), (fun _ _ _ => none), (fun _ _ _ => none))
  | n + 1 => (s_X6_either kap lam (grp_rd kap lam n).1 (grp_rd kap lam n).2.1 (grp_rd kap lam n).2.2, s_X6_both kap lam (grp_rd kap lam n).1 (grp_rd kap lam n).2.1 (grp_rd kap lam n).2.2, s_X6_part kap lam (grp_rd kap lam n).1 (grp_rd kap lam n).2.1 (grp_rd kap lam n).2.2)
def m_X6_either (n : Nat) (kap lam : Nat → Nat) (r0 : Nat) (a1 : Int32) (S : fm_M) : Option (Int32 × fm_M) := (grp_rd kap lam n).1 r0 a1 S
def m_X6_both (n : Nat) (kap lam : Nat → Nat) (r0 : Nat) (a1 : Int32) (S : fm_M) : Option (Int32 × fm_M) := (grp_rd kap lam n).2.1 r0 a1 S
def m_X6_part (n : Nat) (kap lam : Nat → Nat) (r0 : Nat) (a1 : Int32) (S : fm_M) : Option (Int32 × fm_M) := (grp_rd kap lam n).2.2 r0 a1 S
set_option maxHeartbeats 4000000 in
set_option maxRecDepth 100000 in
theorem cg_rd {l : Launch} {D : va_G} {ids kap lam : Nat → Nat} {RL : List Nat} {ad sk sv : Nat → Nat} (hE : fm_E kap RL ad) : ∀ nn : Nat, (∀ {S : fm_M} {r0 : Nat} {a1 : Int32} {r : Int32} {u : fm_M} , m_X6_either nn kap lam r0 a1 S = some (r, u) → ∀ sz, fm_MI l y_X6_either prog_8_method_5_code 4 (Option.some Jvm.ClassFile.FieldType.boolean) (2 + nn) D ids kap lam RL ad sk sv S [.ref (ad r0), .int a1] sz r u) ∧ (∀ {S : fm_M} {r0 : Nat} {a1 : Int32} {r : Int32} {u : fm_M} , m_X6_both nn kap lam r0 a1 S = some (r, u) → ∀ sz, fm_MI l y_X6_both prog_8_method_6_code 4 (Option.some Jvm.ClassFile.FieldType.boolean) (2 + nn) D ids kap lam RL ad sk sv S [.ref (ad r0), .int a1] sz r u) ∧ (∀ {S : fm_M} {r0 : Nat} {a1 : Int32} {r : Int32} {u : fm_M} , m_X6_part nn kap lam r0 a1 S = some (r, u) → ∀ sz, fm_MI l y_X6_part prog_8_method_7_code 4 (Option.some Jvm.ClassFile.FieldType.boolean) (2 + nn) D ids kap lam RL ad sk sv S [.ref (ad r0), .int a1] sz r u) := by
  intro nn
  induction nn with
  | zero => exact ⟨fun hf => absurd hf (by intro h; cases h), fun hf => absurd hf (by intro h; cases h), fun hf => absurd hf (by intro h; cases h)⟩
  | succ nn ih =>
    obtain ⟨ih_X6_either, ih_X6_both, ih_X6_part⟩ := ih
    refine ⟨?_, ?_, ?_⟩
    · intro S r0 a1 r u hf sz
      have hf : s_X6_either kap lam (m_X6_either nn kap lam) (m_X6_both nn kap lam) (m_X6_part nn kap lam) r0 a1 S = some (r, u) := hf
      refine fm_open rfl hE (Nat.le_of_ble_eq_true rfl) (fun p e s m args below meth c ls Z hr hlk G F N hl hsz => ?_)
      subst hsz
      obtain ⟨hx, hb, hml, hown, hts⟩ := id Z
      have hl : lv_has ls 4 [(0, .ref (ad r0)), (1, .int a1)] := hl
      generalize hQ : MQ below _ args s 0 0 (fm_A RL ad s.heap.size) = Qf
      have hL : ∀ n : Nat, (∀ (r0 : Nat) (a1 : Int32) (a2 : Int32) (a3 : Int32)  (S : fm_M) (H : Heap) (locs : List Loc) (ls : Array Slot), fm_F D ids kap lam RL ad S (fm_A RL ad s.heap.size) s.heap H locs → lv_has ls 4 [(0, .ref (ad r0)), (1, .int a1), (2, .int a2), (3, .int a3)] → b_X6_either_8 kap lam (m_X6_either nn kap lam) (m_X6_both nn kap lam) (m_X6_part nn kap lam) n r0 a1 a2 a3 S = some (r, u) → W p l e (fm_rm (2 + (nn + 1))) s m args below meth c H locs 0 0 Qf (F0 m 8 ls [])) := by
        intro n
        induction n with
        | zero => exact fun _ _ _ _ _ _ _ _ _ _ hf => absurd hf (by intro h; cases h)
        | succ n ih =>
          intro r0 a1 a2 a3 S H locs ls F hl hf
          have hf : k_X6_either_8 kap lam (m_X6_either nn kap lam) (m_X6_both nn kap lam) (m_X6_part nn kap lam) (b_X6_either_8 kap lam (m_X6_either nn kap lam) (m_X6_both nn kap lam) (m_X6_part nn kap lam) n) r0 a1 a2 a3 S = some (r, u) := hf
          unfold k_X6_either_8 at hf
          refine lv_iload_n hx hb d_X6_either_8 rfl (lv_at hl 3 rfl) ?_
          refine lv_bipush (v := 100) hx hb d_X6_either_9 (by decide) ?_
          refine lv_icmp_ge (tgt := 49) hx hb d_X6_either_11 (by decide) (fun c11 => ?_) (fun c11 => ?_)
          · have hf := fm_ip c11 hf
            refine lv_iload_n hx hb d_X6_either_49 rfl (lv_at hl 2 rfl) ?_
            obtain ⟨hz, hf⟩ := fm_some hf
            rw [← hQ]; exact fm_retz Z hr hlk F d_X6_either_50 hz (Prod.mk.inj (Option.some.inj hf)).1 (Prod.mk.inj (Option.some.inj hf)).2
          · have hf := fm_ig c11 hf
            refine lv_iload_n hx hb d_X6_either_14 rfl (lv_at hl 2 rfl) ?_
            refine lv_if_eq (tgt := 49) hx hb d_X6_either_15 (by decide) (fun c15 => ?_) (fun c15 => ?_)
            · have hf := fm_ip c15 hf
              refine lv_iload_n hx hb d_X6_either_49 rfl (lv_at hl 2 rfl) ?_
              obtain ⟨hz, hf⟩ := fm_some hf
              rw [← hQ]; exact fm_retz Z hr hlk F d_X6_either_50 hz (Prod.mk.inj (Option.some.inj hf)).1 (Prod.mk.inj (Option.some.inj hf)).2
            · have hf := fm_ig c15 hf
              refine lv_aload_n hx hb d_X6_either_18 rfl (lv_at hl 0 rfl) ?_
              refine lv_bipush (v := 124) hx hb d_X6_either_19 (by decide) ?_
              obtain ⟨hk21, hf⟩ := fm_some hf
              refine fm_rci G F hf (fun r u ho => fm_runV (k := 1) Z G F N (As := [.int 124]) (rest := []) (c_X6_take hE ho _) (by rw [eq_of_beq hk21]; decide) (by rw [eq_of_beq hk21]; rfl) kw_217 kw_219 kp_0 kw_5 kw_220 yd_X6_take rfl (by decide) (by first | omega | decide) hl.1 (Nat.le_of_ble_eq_true rfl) d_X6_either_21 (Nat.le_refl 0) (Nat.le_refl 0)) (fun x21 S21 H locs _ F hf => ?_)
              refine lv_if_eq (tgt := 49) hx hb d_X6_either_24 (by decide) (fun c24 => ?_) (fun c24 => ?_)
              · have hf := fm_ip c24 hf
                refine lv_iload_n hx hb d_X6_either_49 rfl (lv_at hl 2 rfl) ?_
                obtain ⟨hz, hf⟩ := fm_some hf
                rw [← hQ]; exact fm_retz Z hr hlk F d_X6_either_50 hz (Prod.mk.inj (Option.some.inj hf)).1 (Prod.mk.inj (Option.some.inj hf)).2
              · have hf := fm_ig c24 hf
                refine lv_aload_n hx hb d_X6_either_27 rfl (lv_at hl 0 rfl) ?_
                refine lv_iload_n hx hb d_X6_either_28 rfl (lv_at hl 1 rfl) ?_
                obtain ⟨hk29, hf⟩ := fm_some hf
                refine fm_rci G F hf (fun r u ho => fm_runV (k := 1) Z G F N (As := [.int a1]) (rest := []) (ih_X6_both ho _) (by rw [eq_of_beq hk29]; decide) (by rw [eq_of_beq hk29]; rfl) kw_292 kw_294 kp_5 kw_5 kw_295 yd_X6_both rfl (by decide) (by first | omega | decide) hl.1 (Nat.le_of_ble_eq_true rfl) d_X6_either_29 (Nat.le_refl 0) (Nat.le_refl 0)) (fun x29 S29 H locs _ F hf => ?_)
                refine lv_istore_n (lv' := [(2, .int x29), (0, .ref (ad r0)), (1, .int a1), (3, .int a3)]) hx hb d_X6_either_32 rfl hl (by decide) rfl (fun ls hl => ?_)
                refine lv_aload_n hx hb d_X6_either_33 rfl (lv_at hl 1 rfl) ?_
                refine fm_rgr Z G F hf fr_X6_18 d_X6_either_34 (fun q34 _ hf => ?_)
                refine lv_bipush (v := 124) hx hb d_X6_either_37 (by decide) ?_
                refine lv_iconst (v := 0) hx hb d_X6_either_39 (by decide) ?_
                obtain ⟨hk40, hf⟩ := fm_some hf
                refine fm_rcv G F hf (fun u ho => fm_runV (k := 2) Z G F N (As := [.int 124, .int 0]) (rest := []) (c_X10_addSign hE ho _) (by rw [eq_of_beq hk40]; decide) (by rw [eq_of_beq hk40]; rfl) kw_307 kw_308 kw_309 kw_2 kw_310 yd_X10_addSign rfl (by decide) (by first | omega | decide) hl.1 (Nat.le_of_ble_eq_true rfl) d_X6_either_40 (Nat.le_refl 0) (Nat.le_refl 0)) (fun S40 H locs _ F hf => ?_)
                obtain ⟨x43, ex43⟩ : ∃ y : Int32, y = a3 + 1 := ⟨_, rfl⟩
                have hf := fm_let_at ex43 hf
                refine lv_iinc (v := x43) (lv' := [(3, .int x43), (2, .int x29), (0, .ref (ad r0)), (1, .int a1)]) hx hb d_X6_either_43 hl (k := 3) rfl (by rw [ex43]; rfl) (by decide) rfl (fun ls hl => ?_)
                refine lv_goto (tgt := 8) hx hb d_X6_either_46 (by decide) ?_
                exact ih r0 a1 x29 x43 S40 _ _ _ F (lv_sub hl [2, 3, 1, 0] rfl) hf
      unfold s_X6_either at hf
      refine lv_aload_n hx hb d_X6_either_0 rfl (lv_at hl 0 rfl) ?_
      refine lv_iload_n hx hb d_X6_either_1 rfl (lv_at hl 1 rfl) ?_
      obtain ⟨hk2, hf⟩ := fm_some hf
      refine fm_rci G F hf (fun r u ho => fm_runV (k := 1) Z G F N (As := [.int a1]) (rest := []) (ih_X6_both ho _) (by rw [eq_of_beq hk2]; decide) (by rw [eq_of_beq hk2]; rfl) kw_292 kw_294 kp_5 kw_5 kw_295 yd_X6_both rfl (by decide) (by first | omega | decide) hl.1 (Nat.le_of_ble_eq_true rfl) d_X6_either_2 (Nat.le_refl 0) (Nat.le_refl 0)) (fun x2 S2 H locs _ F hf => ?_)
      refine lv_istore_n (lv' := [(2, .int x2), (0, .ref (ad r0)), (1, .int a1)]) hx hb d_X6_either_5 rfl hl (by decide) rfl (fun ls hl => ?_)
      refine lv_iconst (v := 0) hx hb d_X6_either_6 (by decide) ?_
      refine lv_topi (fun x7 ex7 => ?_)
      have hf := fm_let_at ex7 hf
      refine lv_istore_n (lv' := [(3, .int x7), (2, .int x2), (0, .ref (ad r0)), (1, .int a1)]) hx hb d_X6_either_7 rfl hl (by decide) rfl (fun ls hl => ?_)
      exact (hL fm_LF) r0 a1 x2 x7 S2 _ _ _ F (lv_sub hl [2, 3, 1, 0] rfl) hf
    · intro S r0 a1 r u hf sz
      have hf : s_X6_both kap lam (m_X6_either nn kap lam) (m_X6_both nn kap lam) (m_X6_part nn kap lam) r0 a1 S = some (r, u) := hf
      refine fm_open rfl hE (Nat.le_of_ble_eq_true rfl) (fun p e s m args below meth c ls Z hr hlk G F N hl hsz => ?_)
      subst hsz
      obtain ⟨hx, hb, hml, hown, hts⟩ := id Z
      have hl : lv_has ls 4 [(0, .ref (ad r0)), (1, .int a1)] := hl
      generalize hQ : MQ below _ args s 0 0 (fm_A RL ad s.heap.size) = Qf
      have hL : ∀ n : Nat, (∀ (r0 : Nat) (a1 : Int32) (a2 : Int32) (a3 : Int32)  (S : fm_M) (H : Heap) (locs : List Loc) (ls : Array Slot), fm_F D ids kap lam RL ad S (fm_A RL ad s.heap.size) s.heap H locs → lv_has ls 4 [(0, .ref (ad r0)), (1, .int a1), (2, .int a2), (3, .int a3)] → b_X6_both_8 kap lam (m_X6_either nn kap lam) (m_X6_both nn kap lam) (m_X6_part nn kap lam) n r0 a1 a2 a3 S = some (r, u) → W p l e (fm_rm (2 + (nn + 1))) s m args below meth c H locs 0 0 Qf (F0 m 8 ls [])) := by
        intro n
        induction n with
        | zero => exact fun _ _ _ _ _ _ _ _ _ _ hf => absurd hf (by intro h; cases h)
        | succ n ih =>
          intro r0 a1 a2 a3 S H locs ls F hl hf
          have hf : k_X6_both_8 kap lam (m_X6_either nn kap lam) (m_X6_both nn kap lam) (m_X6_part nn kap lam) (b_X6_both_8 kap lam (m_X6_either nn kap lam) (m_X6_both nn kap lam) (m_X6_part nn kap lam) n) r0 a1 a2 a3 S = some (r, u) := hf
          unfold k_X6_both_8 at hf
          refine lv_iload_n hx hb d_X6_both_8 rfl (lv_at hl 3 rfl) ?_
          refine lv_bipush (v := 100) hx hb d_X6_both_9 (by decide) ?_
          refine lv_icmp_ge (tgt := 49) hx hb d_X6_both_11 (by decide) (fun c11 => ?_) (fun c11 => ?_)
          · have hf := fm_ip c11 hf
            refine lv_iload_n hx hb d_X6_both_49 rfl (lv_at hl 2 rfl) ?_
            obtain ⟨hz, hf⟩ := fm_some hf
            rw [← hQ]; exact fm_retz Z hr hlk F d_X6_both_50 hz (Prod.mk.inj (Option.some.inj hf)).1 (Prod.mk.inj (Option.some.inj hf)).2
          · have hf := fm_ig c11 hf
            refine lv_iload_n hx hb d_X6_both_14 rfl (lv_at hl 2 rfl) ?_
            refine lv_if_eq (tgt := 49) hx hb d_X6_both_15 (by decide) (fun c15 => ?_) (fun c15 => ?_)
            · have hf := fm_ip c15 hf
              refine lv_iload_n hx hb d_X6_both_49 rfl (lv_at hl 2 rfl) ?_
              obtain ⟨hz, hf⟩ := fm_some hf
              rw [← hQ]; exact fm_retz Z hr hlk F d_X6_both_50 hz (Prod.mk.inj (Option.some.inj hf)).1 (Prod.mk.inj (Option.some.inj hf)).2
            · have hf := fm_ig c15 hf
              refine lv_aload_n hx hb d_X6_both_18 rfl (lv_at hl 0 rfl) ?_
              refine lv_bipush (v := 38) hx hb d_X6_both_19 (by decide) ?_
              obtain ⟨hk21, hf⟩ := fm_some hf
              refine fm_rci G F hf (fun r u ho => fm_runV (k := 1) Z G F N (As := [.int 38]) (rest := []) (c_X6_take hE ho _) (by rw [eq_of_beq hk21]; decide) (by rw [eq_of_beq hk21]; rfl) kw_217 kw_219 kp_0 kw_5 kw_220 yd_X6_take rfl (by decide) (by first | omega | decide) hl.1 (Nat.le_of_ble_eq_true rfl) d_X6_both_21 (Nat.le_refl 0) (Nat.le_refl 0)) (fun x21 S21 H locs _ F hf => ?_)
              refine lv_if_eq (tgt := 49) hx hb d_X6_both_24 (by decide) (fun c24 => ?_) (fun c24 => ?_)
              · have hf := fm_ip c24 hf
                refine lv_iload_n hx hb d_X6_both_49 rfl (lv_at hl 2 rfl) ?_
                obtain ⟨hz, hf⟩ := fm_some hf
                rw [← hQ]; exact fm_retz Z hr hlk F d_X6_both_50 hz (Prod.mk.inj (Option.some.inj hf)).1 (Prod.mk.inj (Option.some.inj hf)).2
              · have hf := fm_ig c24 hf
                refine lv_aload_n hx hb d_X6_both_27 rfl (lv_at hl 0 rfl) ?_
                refine lv_iload_n hx hb d_X6_both_28 rfl (lv_at hl 1 rfl) ?_
                obtain ⟨hk29, hf⟩ := fm_some hf
                refine fm_rci G F hf (fun r u ho => fm_runV (k := 1) Z G F N (As := [.int a1]) (rest := []) (ih_X6_part ho _) (by rw [eq_of_beq hk29]; decide) (by rw [eq_of_beq hk29]; rfl) kw_296 kw_298 kp_6 kw_5 kw_299 yd_X6_part rfl (by decide) (by first | omega | decide) hl.1 (Nat.le_of_ble_eq_true rfl) d_X6_both_29 (Nat.le_refl 0) (Nat.le_refl 0)) (fun x29 S29 H locs _ F hf => ?_)
                refine lv_istore_n (lv' := [(2, .int x29), (0, .ref (ad r0)), (1, .int a1), (3, .int a3)]) hx hb d_X6_both_32 rfl hl (by decide) rfl (fun ls hl => ?_)
                refine lv_aload_n hx hb d_X6_both_33 rfl (lv_at hl 1 rfl) ?_
                refine fm_rgr Z G F hf fr_X6_18 d_X6_both_34 (fun q34 _ hf => ?_)
                refine lv_bipush (v := 38) hx hb d_X6_both_37 (by decide) ?_
                refine lv_iconst (v := 0) hx hb d_X6_both_39 (by decide) ?_
                obtain ⟨hk40, hf⟩ := fm_some hf
                refine fm_rcv G F hf (fun u ho => fm_runV (k := 2) Z G F N (As := [.int 38, .int 0]) (rest := []) (c_X10_addSign hE ho _) (by rw [eq_of_beq hk40]; decide) (by rw [eq_of_beq hk40]; rfl) kw_307 kw_308 kw_309 kw_2 kw_310 yd_X10_addSign rfl (by decide) (by first | omega | decide) hl.1 (Nat.le_of_ble_eq_true rfl) d_X6_both_40 (Nat.le_refl 0) (Nat.le_refl 0)) (fun S40 H locs _ F hf => ?_)
                obtain ⟨x43, ex43⟩ : ∃ y : Int32, y = a3 + 1 := ⟨_, rfl⟩
                have hf := fm_let_at ex43 hf
                refine lv_iinc (v := x43) (lv' := [(3, .int x43), (2, .int x29), (0, .ref (ad r0)), (1, .int a1)]) hx hb d_X6_both_43 hl (k := 3) rfl (by rw [ex43]; rfl) (by decide) rfl (fun ls hl => ?_)
                refine lv_goto (tgt := 8) hx hb d_X6_both_46 (by decide) ?_
                exact ih r0 a1 x29 x43 S40 _ _ _ F (lv_sub hl [2, 3, 1, 0] rfl) hf
      unfold s_X6_both at hf
      refine lv_aload_n hx hb d_X6_both_0 rfl (lv_at hl 0 rfl) ?_
      refine lv_iload_n hx hb d_X6_both_1 rfl (lv_at hl 1 rfl) ?_
      obtain ⟨hk2, hf⟩ := fm_some hf
      refine fm_rci G F hf (fun r u ho => fm_runV (k := 1) Z G F N (As := [.int a1]) (rest := []) (ih_X6_part ho _) (by rw [eq_of_beq hk2]; decide) (by rw [eq_of_beq hk2]; rfl) kw_296 kw_298 kp_6 kw_5 kw_299 yd_X6_part rfl (by decide) (by first | omega | decide) hl.1 (Nat.le_of_ble_eq_true rfl) d_X6_both_2 (Nat.le_refl 0) (Nat.le_refl 0)) (fun x2 S2 H locs _ F hf => ?_)
      refine lv_istore_n (lv' := [(2, .int x2), (0, .ref (ad r0)), (1, .int a1)]) hx hb d_X6_both_5 rfl hl (by decide) rfl (fun ls hl => ?_)
      refine lv_iconst (v := 0) hx hb d_X6_both_6 (by decide) ?_
      refine lv_topi (fun x7 ex7 => ?_)
      have hf := fm_let_at ex7 hf
      refine lv_istore_n (lv' := [(3, .int x7), (2, .int x2), (0, .ref (ad r0)), (1, .int a1)]) hx hb d_X6_both_7 rfl hl (by decide) rfl (fun ls hl => ?_)
      exact (hL fm_LF) r0 a1 x2 x7 S2 _ _ _ F (lv_sub hl [2, 3, 1, 0] rfl) hf
    · intro S r0 a1 r u hf sz
      have hf : s_X6_part kap lam (m_X6_either nn kap lam) (m_X6_both nn kap lam) (m_X6_part nn kap lam) r0 a1 S = some (r, u) := hf
      refine fm_open rfl hE (Nat.le_of_ble_eq_true rfl) (fun p e s m args below meth c ls Z hr hlk G F N hl hsz => ?_)
      subst hsz
      obtain ⟨hx, hb, hml, hown, hts⟩ := id Z
      have hl : lv_has ls 4 [(0, .ref (ad r0)), (1, .int a1)] := hl
      generalize hQ : MQ below _ args s 0 0 (fm_A RL ad s.heap.size) = Qf
      have hL : ∀ n : Nat, (∀ (r0 : Nat) (a1 : Int32) (ak0 : Int32) (S : fm_M) (H : Heap) (locs : List Loc) (ls : Array Slot), fm_F D ids kap lam RL ad S (fm_A RL ad s.heap.size) s.heap H locs → lv_has ls 4 [(0, .ref (ad r0)), (1, .int a1)] → b_X6_part_19 kap lam (m_X6_either nn kap lam) (m_X6_both nn kap lam) (m_X6_part nn kap lam) n r0 a1 ak0 S = some (r, u) → W p l e (fm_rm (2 + (nn + 1))) s m args below meth c H locs 0 0 Qf (F0 m 19 ls [.int ak0])) := by
        intro n
        induction n with
        | zero => exact fun _ _ _ _ _ _ _ _ _ hf => absurd hf (by intro h; cases h)
        | succ n ih =>
          intro r0 a1 ak0 S H locs ls F hl hf
          have hf : k_X6_part_19 kap lam (m_X6_either nn kap lam) (m_X6_both nn kap lam) (m_X6_part nn kap lam) (b_X6_part_19 kap lam (m_X6_either nn kap lam) (m_X6_both nn kap lam) (m_X6_part nn kap lam) n) r0 a1 ak0 S = some (r, u) := hf
          unfold k_X6_part_19 at hf
          refine lv_istore_n (lv' := [(2, .int ak0), (0, .ref (ad r0)), (1, .int a1)]) hx hb d_X6_part_19 rfl hl (by decide) rfl (fun ls hl => ?_)
          refine lv_iload_n hx hb d_X6_part_20 rfl (lv_at hl 0 rfl) ?_
          refine lv_if_ne (tgt := 43) hx hb d_X6_part_21 (by decide) (fun c21 => ?_) (fun c21 => ?_)
          · have hf := fm_ig c21 hf
            refine lv_iload_n hx hb d_X6_part_43 rfl (lv_at hl 2 rfl) ?_
            refine lv_iconst (v := 5) hx hb d_X6_part_44 (by decide) ?_
            refine lv_icmp_lt (tgt := 50) hx hb d_X6_part_45 (by decide) (fun c45 => ?_) (fun c45 => ?_)
            · have hf := fm_ip c45 hf
              refine lv_aload_n hx hb d_X6_part_50 rfl (lv_at hl 1 rfl) ?_
              refine lv_dup hx hb d_X6_part_51 rfl ?_
              refine fm_rgi Z G F hf fr_X6_22 d_X6_part_52 (fun x52 _ hf => ?_)
              refine lv_iconst (v := 1) hx hb d_X6_part_55 (by decide) ?_
              refine lv_iadd hx hb d_X6_part_56 ?_
              refine fm_rpi Z G F hf fs_X6_22 d_X6_part_57 (fun c h => by have h := eq_of_beq (show (c == 6) = true from h); subst h; rfl) (fun S57 H locs _ F hf => ?_)
              refine lv_iload_n hx hb d_X6_part_60 rfl (lv_at hl 0 rfl) ?_
              refine lv_if_ne (tgt := 89) hx hb d_X6_part_61 (by decide) (fun c61 => ?_) (fun c61 => ?_)
              · have hf := fm_ig c61 hf
                refine lv_aload_n hx hb d_X6_part_89 rfl (lv_at hl 1 rfl) ?_
                refine lv_iload_n hx hb d_X6_part_90 rfl (lv_at hl 2 rfl) ?_
                refine lv_iconst (v := 1) hx hb d_X6_part_91 (by decide) ?_
                refine lv_iadd hx hb d_X6_part_92 ?_
                obtain ⟨hk93, hf⟩ := fm_some hf
                refine fm_rci G F hf (fun r u ho => fm_runV (k := 1) Z G F N (As := [.int (a1 + 1)]) (rest := []) (ih_X6_part ho _) (by rw [eq_of_beq hk93]; decide) (by rw [eq_of_beq hk93]; rfl) kw_296 kw_298 kp_6 kw_5 kw_299 yd_X6_part rfl (by decide) (by first | omega | decide) hl.1 (Nat.le_of_ble_eq_true rfl) d_X6_part_93 (Nat.le_refl 0) (Nat.le_refl 0)) (fun x93 S93 H locs _ F hf => ?_)
                refine lv_istore_n (lv' := [(3, .int x93), (2, .int ak0), (0, .ref (ad r0)), (1, .int a1)]) hx hb d_X6_part_96 rfl hl (by decide) rfl (fun ls hl => ?_)
                refine lv_aload_n hx hb d_X6_part_97 rfl (lv_at hl 2 rfl) ?_
                refine fm_rgr Z G F hf fr_X6_18 d_X6_part_98 (fun q98 _ hf => ?_)
                refine lv_bipush (v := 33) hx hb d_X6_part_101 (by decide) ?_
                refine lv_iconst (v := 0) hx hb d_X6_part_103 (by decide) ?_
                obtain ⟨hk104, hf⟩ := fm_some hf
                refine fm_rcv G F hf (fun u ho => fm_runV (k := 2) Z G F N (As := [.int 33, .int 0]) (rest := []) (c_X10_addSign hE ho _) (by rw [eq_of_beq hk104]; decide) (by rw [eq_of_beq hk104]; rfl) kw_307 kw_308 kw_309 kw_2 kw_310 yd_X10_addSign rfl (by decide) (by first | omega | decide) hl.1 (Nat.le_of_ble_eq_true rfl) d_X6_part_104 (Nat.le_refl 0) (Nat.le_refl 0)) (fun S104 H locs _ F hf => ?_)
                refine lv_iload_n hx hb d_X6_part_107 rfl (lv_at hl 0 rfl) ?_
                obtain ⟨hz, hf⟩ := fm_some hf
                rw [← hQ]; exact fm_retz Z hr hlk F d_X6_part_108 hz (Prod.mk.inj (Option.some.inj hf)).1 (Prod.mk.inj (Option.some.inj hf)).2
              · have hf := fm_ip c61 hf
                refine lv_aload_n hx hb d_X6_part_64 rfl (lv_at hl 1 rfl) ?_
                refine lv_iload_n hx hb d_X6_part_65 rfl (lv_at hl 2 rfl) ?_
                refine lv_iconst (v := 1) hx hb d_X6_part_66 (by decide) ?_
                refine lv_iadd hx hb d_X6_part_67 ?_
                obtain ⟨hk68, hf⟩ := fm_some hf
                refine fm_rci G F hf (fun r u ho => fm_runV (k := 1) Z G F N (As := [.int (a1 + 1)]) (rest := []) (ih_X6_either ho _) (by rw [eq_of_beq hk68]; decide) (by rw [eq_of_beq hk68]; rfl) kw_288 kw_290 kp_4 kw_5 kw_291 yd_X6_either rfl (by decide) (by first | omega | decide) hl.1 (Nat.le_of_ble_eq_true rfl) d_X6_part_68 (Nat.le_refl 0) (Nat.le_refl 0)) (fun x68 S68 H locs _ F hf => ?_)
                refine lv_if_eq (tgt := 87) hx hb d_X6_part_71 (by decide) (fun c71 => ?_) (fun c71 => ?_)
                · have hf := fm_ip c71 hf
                  refine lv_iconst (v := 0) hx hb d_X6_part_87 (by decide) ?_
                  obtain ⟨hz, hf⟩ := fm_some hf
                  rw [← hQ]; exact fm_retz Z hr hlk F d_X6_part_88 hz (Prod.mk.inj (Option.some.inj hf)).1 (Prod.mk.inj (Option.some.inj hf)).2
                · have hf := fm_ig c71 hf
                  refine lv_aload_n hx hb d_X6_part_74 rfl (lv_at hl 1 rfl) ?_
                  refine lv_bipush (v := 41) hx hb d_X6_part_75 (by decide) ?_
                  obtain ⟨hk77, hf⟩ := fm_some hf
                  refine fm_rci G F hf (fun r u ho => fm_runV (k := 1) Z G F N (As := [.int 41]) (rest := []) (c_X6_take hE ho _) (by rw [eq_of_beq hk77]; decide) (by rw [eq_of_beq hk77]; rfl) kw_217 kw_219 kp_0 kw_5 kw_220 yd_X6_take rfl (by decide) (by first | omega | decide) hl.1 (Nat.le_of_ble_eq_true rfl) d_X6_part_77 (Nat.le_refl 0) (Nat.le_refl 0)) (fun x77 S77 H locs _ F hf => ?_)
                  refine lv_if_eq (tgt := 87) hx hb d_X6_part_80 (by decide) (fun c80 => ?_) (fun c80 => ?_)
                  · have hf := fm_ip c80 hf
                    refine lv_iconst (v := 0) hx hb d_X6_part_87 (by decide) ?_
                    obtain ⟨hz, hf⟩ := fm_some hf
                    rw [← hQ]; exact fm_retz Z hr hlk F d_X6_part_88 hz (Prod.mk.inj (Option.some.inj hf)).1 (Prod.mk.inj (Option.some.inj hf)).2
                  · have hf := fm_ig c80 hf
                    refine lv_iconst (v := 1) hx hb d_X6_part_83 (by decide) ?_
                    refine lv_goto (tgt := 88) hx hb d_X6_part_84 (by decide) ?_
                    obtain ⟨hz, hf⟩ := fm_some hf
                    rw [← hQ]; exact fm_retz Z hr hlk F d_X6_part_88 hz (Prod.mk.inj (Option.some.inj hf)).1 (Prod.mk.inj (Option.some.inj hf)).2
            · have hf := fm_ig c45 hf
              refine lv_iconst (v := 0) hx hb d_X6_part_48 (by decide) ?_
              obtain ⟨hz, hf⟩ := fm_some hf
              rw [← hQ]; exact fm_retz Z hr hlk F d_X6_part_49 hz (Prod.mk.inj (Option.some.inj hf)).1 (Prod.mk.inj (Option.some.inj hf)).2
          · have hf := fm_ip c21 hf
            refine lv_aload_n hx hb d_X6_part_24 rfl (lv_at hl 1 rfl) ?_
            refine fm_rgr Z G F hf fr_X6_9 d_X6_part_25 (fun q25 _ hf => ?_)
            refine lv_aload_n hx hb d_X6_part_28 rfl (lv_at hl 1 rfl) ?_
            refine fm_rgi Z G F hf fr_X6_22 d_X6_part_29 (fun x29 _ hf => ?_)
            refine fm_rld Z G F hf d_X6_part_32 (fun x32 _ hf => ?_)
            refine lv_bipush (v := 40) hx hb d_X6_part_33 (by decide) ?_
            refine lv_icmp_eq (tgt := 43) hx hb d_X6_part_35 (by decide) (fun c35 => ?_) (fun c35 => ?_)
            · have hf := fm_ip c35 hf
              refine lv_iload_n hx hb d_X6_part_43 rfl (lv_at hl 2 rfl) ?_
              refine lv_iconst (v := 5) hx hb d_X6_part_44 (by decide) ?_
              refine lv_icmp_lt (tgt := 50) hx hb d_X6_part_45 (by decide) (fun c45 => ?_) (fun c45 => ?_)
              · have hf := fm_ip c45 hf
                refine lv_aload_n hx hb d_X6_part_50 rfl (lv_at hl 1 rfl) ?_
                refine lv_dup hx hb d_X6_part_51 rfl ?_
                refine fm_rgi Z G F hf fr_X6_22 d_X6_part_52 (fun x52 _ hf => ?_)
                refine lv_iconst (v := 1) hx hb d_X6_part_55 (by decide) ?_
                refine lv_iadd hx hb d_X6_part_56 ?_
                refine fm_rpi Z G F hf fs_X6_22 d_X6_part_57 (fun c h => by have h := eq_of_beq (show (c == 6) = true from h); subst h; rfl) (fun S57 H locs _ F hf => ?_)
                refine lv_iload_n hx hb d_X6_part_60 rfl (lv_at hl 0 rfl) ?_
                refine lv_if_ne (tgt := 89) hx hb d_X6_part_61 (by decide) (fun c61 => ?_) (fun c61 => ?_)
                · have hf := fm_ig c61 hf
                  refine lv_aload_n hx hb d_X6_part_89 rfl (lv_at hl 1 rfl) ?_
                  refine lv_iload_n hx hb d_X6_part_90 rfl (lv_at hl 2 rfl) ?_
                  refine lv_iconst (v := 1) hx hb d_X6_part_91 (by decide) ?_
                  refine lv_iadd hx hb d_X6_part_92 ?_
                  obtain ⟨hk93, hf⟩ := fm_some hf
                  refine fm_rci G F hf (fun r u ho => fm_runV (k := 1) Z G F N (As := [.int (a1 + 1)]) (rest := []) (ih_X6_part ho _) (by rw [eq_of_beq hk93]; decide) (by rw [eq_of_beq hk93]; rfl) kw_296 kw_298 kp_6 kw_5 kw_299 yd_X6_part rfl (by decide) (by first | omega | decide) hl.1 (Nat.le_of_ble_eq_true rfl) d_X6_part_93 (Nat.le_refl 0) (Nat.le_refl 0)) (fun x93 S93 H locs _ F hf => ?_)
                  refine lv_istore_n (lv' := [(3, .int x93), (2, .int ak0), (0, .ref (ad r0)), (1, .int a1)]) hx hb d_X6_part_96 rfl hl (by decide) rfl (fun ls hl => ?_)
                  refine lv_aload_n hx hb d_X6_part_97 rfl (lv_at hl 2 rfl) ?_
                  refine fm_rgr Z G F hf fr_X6_18 d_X6_part_98 (fun q98 _ hf => ?_)
                  refine lv_bipush (v := 33) hx hb d_X6_part_101 (by decide) ?_
                  refine lv_iconst (v := 0) hx hb d_X6_part_103 (by decide) ?_
                  obtain ⟨hk104, hf⟩ := fm_some hf
                  refine fm_rcv G F hf (fun u ho => fm_runV (k := 2) Z G F N (As := [.int 33, .int 0]) (rest := []) (c_X10_addSign hE ho _) (by rw [eq_of_beq hk104]; decide) (by rw [eq_of_beq hk104]; rfl) kw_307 kw_308 kw_309 kw_2 kw_310 yd_X10_addSign rfl (by decide) (by first | omega | decide) hl.1 (Nat.le_of_ble_eq_true rfl) d_X6_part_104 (Nat.le_refl 0) (Nat.le_refl 0)) (fun S104 H locs _ F hf => ?_)
                  refine lv_iload_n hx hb d_X6_part_107 rfl (lv_at hl 0 rfl) ?_
                  obtain ⟨hz, hf⟩ := fm_some hf
                  rw [← hQ]; exact fm_retz Z hr hlk F d_X6_part_108 hz (Prod.mk.inj (Option.some.inj hf)).1 (Prod.mk.inj (Option.some.inj hf)).2
                · have hf := fm_ip c61 hf
                  refine lv_aload_n hx hb d_X6_part_64 rfl (lv_at hl 1 rfl) ?_
                  refine lv_iload_n hx hb d_X6_part_65 rfl (lv_at hl 2 rfl) ?_
                  refine lv_iconst (v := 1) hx hb d_X6_part_66 (by decide) ?_
                  refine lv_iadd hx hb d_X6_part_67 ?_
                  obtain ⟨hk68, hf⟩ := fm_some hf
                  refine fm_rci G F hf (fun r u ho => fm_runV (k := 1) Z G F N (As := [.int (a1 + 1)]) (rest := []) (ih_X6_either ho _) (by rw [eq_of_beq hk68]; decide) (by rw [eq_of_beq hk68]; rfl) kw_288 kw_290 kp_4 kw_5 kw_291 yd_X6_either rfl (by decide) (by first | omega | decide) hl.1 (Nat.le_of_ble_eq_true rfl) d_X6_part_68 (Nat.le_refl 0) (Nat.le_refl 0)) (fun x68 S68 H locs _ F hf => ?_)
                  refine lv_if_eq (tgt := 87) hx hb d_X6_part_71 (by decide) (fun c71 => ?_) (fun c71 => ?_)
                  · have hf := fm_ip c71 hf
                    refine lv_iconst (v := 0) hx hb d_X6_part_87 (by decide) ?_
                    obtain ⟨hz, hf⟩ := fm_some hf
                    rw [← hQ]; exact fm_retz Z hr hlk F d_X6_part_88 hz (Prod.mk.inj (Option.some.inj hf)).1 (Prod.mk.inj (Option.some.inj hf)).2
                  · have hf := fm_ig c71 hf
                    refine lv_aload_n hx hb d_X6_part_74 rfl (lv_at hl 1 rfl) ?_
                    refine lv_bipush (v := 41) hx hb d_X6_part_75 (by decide) ?_
                    obtain ⟨hk77, hf⟩ := fm_some hf
                    refine fm_rci G F hf (fun r u ho => fm_runV (k := 1) Z G F N (As := [.int 41]) (rest := []) (c_X6_take hE ho _) (by rw [eq_of_beq hk77]; decide) (by rw [eq_of_beq hk77]; rfl) kw_217 kw_219 kp_0 kw_5 kw_220 yd_X6_take rfl (by decide) (by first | omega | decide) hl.1 (Nat.le_of_ble_eq_true rfl) d_X6_part_77 (Nat.le_refl 0) (Nat.le_refl 0)) (fun x77 S77 H locs _ F hf => ?_)
                    refine lv_if_eq (tgt := 87) hx hb d_X6_part_80 (by decide) (fun c80 => ?_) (fun c80 => ?_)
                    · have hf := fm_ip c80 hf
                      refine lv_iconst (v := 0) hx hb d_X6_part_87 (by decide) ?_
                      obtain ⟨hz, hf⟩ := fm_some hf
                      rw [← hQ]; exact fm_retz Z hr hlk F d_X6_part_88 hz (Prod.mk.inj (Option.some.inj hf)).1 (Prod.mk.inj (Option.some.inj hf)).2
                    · have hf := fm_ig c80 hf
                      refine lv_iconst (v := 1) hx hb d_X6_part_83 (by decide) ?_
                      refine lv_goto (tgt := 88) hx hb d_X6_part_84 (by decide) ?_
                      obtain ⟨hz, hf⟩ := fm_some hf
                      rw [← hQ]; exact fm_retz Z hr hlk F d_X6_part_88 hz (Prod.mk.inj (Option.some.inj hf)).1 (Prod.mk.inj (Option.some.inj hf)).2
              · have hf := fm_ig c45 hf
                refine lv_iconst (v := 0) hx hb d_X6_part_48 (by decide) ?_
                obtain ⟨hz, hf⟩ := fm_some hf
                rw [← hQ]; exact fm_retz Z hr hlk F d_X6_part_49 hz (Prod.mk.inj (Option.some.inj hf)).1 (Prod.mk.inj (Option.some.inj hf)).2
            · have hf := fm_ig c35 hf
              refine lv_aload_n hx hb d_X6_part_38 rfl (lv_at hl 1 rfl) ?_
              obtain ⟨hk39, hf⟩ := fm_some hf
              refine fm_rci G F hf (fun r u ho => fm_runV (k := 0) Z G F N (As := []) (rest := []) (c_X6_test hE ho _) (by rw [eq_of_beq hk39]; decide) (by rw [eq_of_beq hk39]; rfl) kw_300 kw_302 kp_7 kw_5 kw_303 yd_X6_test rfl (by decide) (by first | omega | decide) hl.1 (Nat.le_of_ble_eq_true rfl) d_X6_part_39 (Nat.le_refl 0) (Nat.le_refl 0)) (fun x39 S39 H locs _ F hf => ?_)
              obtain ⟨hz, hf⟩ := fm_some hf
              rw [← hQ]; exact fm_retz Z hr hlk F d_X6_part_42 hz (Prod.mk.inj (Option.some.inj hf)).1 (Prod.mk.inj (Option.some.inj hf)).2
      unfold s_X6_part at hf
      refine lv_aload_n hx hb d_X6_part_0 rfl (lv_at hl 0 rfl) ?_
      refine fm_rgr Z G F hf fr_X6_9 d_X6_part_1 (fun q1 _ hf => ?_)
      refine lv_aload_n hx hb d_X6_part_4 rfl (lv_at hl 0 rfl) ?_
      refine fm_rgi Z G F hf fr_X6_22 d_X6_part_5 (fun x5 _ hf => ?_)
      refine fm_rld Z G F hf d_X6_part_8 (fun x8 _ hf => ?_)
      refine lv_bipush (v := 33) hx hb d_X6_part_9 (by decide) ?_
      refine lv_icmp_ne (tgt := 18) hx hb d_X6_part_11 (by decide) (fun c11 => ?_) (fun c11 => ?_)
      · have hf := fm_ig c11 hf
        refine lv_iconst (v := 0) hx hb d_X6_part_18 (by decide) ?_
        exact (hL fm_LF) r0 a1 0 S _ _ _ F (lv_sub hl [0, 1] rfl) hf
      · have hf := fm_ip c11 hf
        refine lv_iconst (v := 1) hx hb d_X6_part_14 (by decide) ?_
        refine lv_goto (tgt := 19) hx hb d_X6_part_15 (by decide) ?_
        exact (hL fm_LF) r0 a1 1 S _ _ _ F (lv_sub hl [0, 1] rfl) hf
theorem c_X6_either (n : Nat) {l : Launch} {D : va_G} {ids kap lam : Nat → Nat} {RL : List Nat} {ad sk sv : Nat → Nat} {S : fm_M} {r0 : Nat} {a1 : Int32} {r : Int32} {u : fm_M} (hE : fm_E kap RL ad) (hf : m_X6_either n kap lam r0 a1 S = some (r, u)) (sz : Nat) : fm_MI l y_X6_either prog_8_method_5_code 4 (Option.some Jvm.ClassFile.FieldType.boolean) (2 + n) D ids kap lam RL ad sk sv S [.ref (ad r0), .int a1] sz r u := (cg_rd hE n).1 hf sz
theorem c_X6_both (n : Nat) {l : Launch} {D : va_G} {ids kap lam : Nat → Nat} {RL : List Nat} {ad sk sv : Nat → Nat} {S : fm_M} {r0 : Nat} {a1 : Int32} {r : Int32} {u : fm_M} (hE : fm_E kap RL ad) (hf : m_X6_both n kap lam r0 a1 S = some (r, u)) (sz : Nat) : fm_MI l y_X6_both prog_8_method_6_code 4 (Option.some Jvm.ClassFile.FieldType.boolean) (2 + n) D ids kap lam RL ad sk sv S [.ref (ad r0), .int a1] sz r u := (cg_rd hE n).2.1 hf sz
theorem c_X6_part (n : Nat) {l : Launch} {D : va_G} {ids kap lam : Nat → Nat} {RL : List Nat} {ad sk sv : Nat → Nat} {S : fm_M} {r0 : Nat} {a1 : Int32} {r : Int32} {u : fm_M} (hE : fm_E kap RL ad) (hf : m_X6_part n kap lam r0 a1 S = some (r, u)) (sz : Nat) : fm_MI l y_X6_part prog_8_method_7_code 4 (Option.some Jvm.ClassFile.FieldType.boolean) (2 + n) D ids kap lam RL ad sk sv S [.ref (ad r0), .int a1] sz r u := (cg_rd hE n).2.2 hf sz
theorem d_X6_word_0 : decode prog_8_method_10_code 0 = .ok (.iconst 0, 1) := by decide +kernel
theorem d_X6_word_1 : decode prog_8_method_10_code 1 = .ok (.istore_n 2, 1) := by decide +kernel
theorem d_X6_word_2 : decode prog_8_method_10_code 2 = .ok (.iload_n 2, 1) := by decide +kernel
theorem d_X6_word_3 : decode prog_8_method_10_code 3 = .ok (.aload_n 1, 1) := by decide +kernel
theorem d_X6_word_4 : decode prog_8_method_10_code 4 = .ok (.invokevirtual 103, 3) := by decide +kernel
theorem d_X6_word_7 : decode prog_8_method_10_code 7 = .ok (.if_icmp .ge 23, 3) := by decide +kernel
theorem d_X6_word_10 : decode prog_8_method_10_code 10 = .ok (.aload_n 0, 1) := by decide +kernel
theorem d_X6_word_11 : decode prog_8_method_10_code 11 = .ok (.aload_n 1, 1) := by decide +kernel
theorem d_X6_word_12 : decode prog_8_method_10_code 12 = .ok (.iload_n 2, 1) := by decide +kernel
theorem d_X6_word_13 : decode prog_8_method_10_code 13 = .ok (.invokevirtual 108, 3) := by decide +kernel
theorem d_X6_word_16 : decode prog_8_method_10_code 16 = .ok (.invokevirtual 47, 3) := by decide +kernel
theorem d_X6_word_19 : decode prog_8_method_10_code 19 = .ok (.ifCond .ne 5, 3) := by decide +kernel
theorem d_X6_word_22 : decode prog_8_method_10_code 22 = .ok (.iconst 0, 1) := by decide +kernel
theorem d_X6_word_23 : decode prog_8_method_10_code 23 = .ok (.ireturn, 1) := by decide +kernel
theorem d_X6_word_24 : decode prog_8_method_10_code 24 = .ok (.iinc 2 1, 3) := by decide +kernel
theorem d_X6_word_27 : decode prog_8_method_10_code 27 = .ok (.goto (-25), 3) := by decide +kernel
theorem d_X6_word_30 : decode prog_8_method_10_code 30 = .ok (.iconst 1, 1) := by decide +kernel
theorem d_X6_word_31 : decode prog_8_method_10_code 31 = .ok (.ireturn, 1) := by decide +kernel
def k_X6_word_2 (kap lam : Nat → Nat) (go2 : Nat → Nat → Int32 → fm_M → Option (Int32 × fm_M)) (r0 : Nat) (t1 : Nat) (a2 : Int32)  (S : fm_M) : Option (Int32 × fm_M) :=
  fm_slen_ t1 fun x4 =>
  if x4 ≤ a2 then (
   fm_z 1 (some (1, S))
  ) else (
   fm_sat_ t1 a2 fun x13 =>
   fm_ck (kap r0 == 6) <|
   fm_bi (m_X6_take kap lam r0 x13 S) fun x16 S16 =>
   if x16 = 0 then (
    fm_z 0 (some (0, S16))
   ) else (
    fm_let (a2 + 1 : Int32) fun x24 =>
    go2 r0 t1 x24 S16
   )
  )
def b_X6_word_2 (kap lam : Nat → Nat) : Nat → Nat → Nat → Int32 → fm_M → Option (Int32 × fm_M)
  | 0 => fun _ _ _ _ => none
  | n + 1 => k_X6_word_2 kap lam (b_X6_word_2 kap lam n)
def m_X6_word (kap lam : Nat → Nat) (r0 : Nat) (t1 : Nat) (S : fm_M) : Option (Int32 × fm_M) :=
  fm_let (0 : Int32) fun x1 =>
  b_X6_word_2 kap lam fm_LF r0 t1 x1 S
set_option maxHeartbeats 4000000 in
set_option maxRecDepth 100000 in
theorem c_X6_word {l : Launch} {D : va_G} {ids kap lam : Nat → Nat} {RL : List Nat} {ad sk sv : Nat → Nat} {S : fm_M} {r0 : Nat} {t1 : Nat} {r : Int32} {u : fm_M} (hE : fm_E kap RL ad) (hf : m_X6_word kap lam r0 t1 S = some (r, u)) (sz : Nat) : fm_MI l y_X6_word prog_8_method_10_code 3 (Option.some Jvm.ClassFile.FieldType.boolean) 6 D ids kap lam RL ad sk sv S [.ref (ad r0), .ref (sk t1)] sz r u := by
  refine fm_open rfl hE (Nat.le_of_ble_eq_true rfl) (fun p e s m args below meth c ls Z hr hlk G F N hl hsz => ?_)
  subst hsz
  obtain ⟨hx, hb, hml, hown, hts⟩ := id Z
  have hl : lv_has ls 3 [(0, .ref (ad r0)), (1, .ref (sk t1))] := hl
  generalize hQ : MQ below _ args s 0 0 (fm_A RL ad s.heap.size) = Qf
  have hL : ∀ n : Nat, (∀ (r0 : Nat) (t1 : Nat) (a2 : Int32)  (S : fm_M) (H : Heap) (locs : List Loc) (ls : Array Slot), fm_F D ids kap lam RL ad S (fm_A RL ad s.heap.size) s.heap H locs → lv_has ls 3 [(0, .ref (ad r0)), (1, .ref (sk t1)), (2, .int a2)] → b_X6_word_2 kap lam n r0 t1 a2 S = some (r, u) → W p l e (fm_rm 6) s m args below meth c H locs 0 0 Qf (F0 m 2 ls [])) := by
    intro n
    induction n with
    | zero => exact fun _ _ _ _ _ _ _ _ _ hf => absurd hf (by intro h; cases h)
    | succ n ih =>
      intro r0 t1 a2 S H locs ls F hl hf
      have hf : k_X6_word_2 kap lam (b_X6_word_2 kap lam n) r0 t1 a2 S = some (r, u) := hf
      unfold k_X6_word_2 at hf
      refine lv_iload_n hx hb d_X6_word_2 rfl (lv_at hl 2 rfl) ?_
      refine lv_aload_n hx hb d_X6_word_3 rfl (lv_at hl 1 rfl) ?_
      refine fm_rslen hE Z G F N hl.1 hf kw_236 d_X6_word_4 (by decide) (Nat.le_of_ble_eq_true rfl) (fun x4 H locs _ F hf => ?_)
      refine lv_icmp_ge (tgt := 30) hx hb d_X6_word_7 (by decide) (fun c7 => ?_) (fun c7 => ?_)
      · have hf := fm_ip c7 hf
        refine lv_iconst (v := 1) hx hb d_X6_word_30 (by decide) ?_
        obtain ⟨hz, hf⟩ := fm_some hf
        rw [← hQ]; exact fm_retz Z hr hlk F d_X6_word_31 hz (Prod.mk.inj (Option.some.inj hf)).1 (Prod.mk.inj (Option.some.inj hf)).2
      · have hf := fm_ig c7 hf
        refine lv_aload_n hx hb d_X6_word_10 rfl (lv_at hl 0 rfl) ?_
        refine lv_aload_n hx hb d_X6_word_11 rfl (lv_at hl 1 rfl) ?_
        refine lv_iload_n hx hb d_X6_word_12 rfl (lv_at hl 2 rfl) ?_
        refine fm_rsat hE Z G F N hl.1 hf kw_246 d_X6_word_13 (by decide) (Nat.le_of_ble_eq_true rfl) (fun x13 H locs _ F hf => ?_)
        obtain ⟨hk16, hf⟩ := fm_some hf
        refine fm_rci G F hf (fun r u ho => fm_runV (k := 1) Z G F N (As := [.int x13]) (rest := []) (c_X6_take hE ho _) (by rw [eq_of_beq hk16]; decide) (by rw [eq_of_beq hk16]; rfl) kw_217 kw_219 kp_0 kw_5 kw_220 yd_X6_take rfl (by decide) (by decide) hl.1 (Nat.le_of_ble_eq_true rfl) d_X6_word_16 (Nat.le_refl 0) (Nat.le_refl 0)) (fun x16 S16 H locs _ F hf => ?_)
        refine lv_if_ne (tgt := 24) hx hb d_X6_word_19 (by decide) (fun c19 => ?_) (fun c19 => ?_)
        · have hf := fm_ig c19 hf
          obtain ⟨x24, ex24⟩ : ∃ y : Int32, y = a2 + 1 := ⟨_, rfl⟩
          have hf := fm_let_at ex24 hf
          refine lv_iinc (v := x24) (lv' := [(2, .int x24), (0, .ref (ad r0)), (1, .ref (sk t1))]) hx hb d_X6_word_24 hl (k := 2) rfl (by rw [ex24]; rfl) (by decide) rfl (fun ls hl => ?_)
          refine lv_goto (tgt := 2) hx hb d_X6_word_27 (by decide) ?_
          exact ih r0 t1 x24 S16 _ _ _ F (lv_sub hl [1, 2, 0] rfl) hf
        · have hf := fm_ip c19 hf
          refine lv_iconst (v := 0) hx hb d_X6_word_22 (by decide) ?_
          obtain ⟨hz, hf⟩ := fm_some hf
          rw [← hQ]; exact fm_retz Z hr hlk F d_X6_word_23 hz (Prod.mk.inj (Option.some.inj hf)).1 (Prod.mk.inj (Option.some.inj hf)).2
  unfold m_X6_word at hf
  refine lv_iconst (v := 0) hx hb d_X6_word_0 (by decide) ?_
  refine lv_topi (fun x1 ex1 => ?_)
  have hf := fm_let_at ex1 hf
  refine lv_istore_n (lv' := [(2, .int x1), (0, .ref (ad r0)), (1, .ref (sk t1))]) hx hb d_X6_word_1 rfl hl (by decide) rfl (fun ls hl => ?_)
  exact (hL fm_LF) r0 t1 x1 S _ _ _ F (lv_sub hl [1, 2, 0] rfl) hf
theorem d_X6_wordFrom_0 : decode prog_8_method_4_code 0 = .ok (.iload_n 0, 1) := by decide +kernel
theorem d_X6_wordFrom_1 : decode prog_8_method_4_code 1 = .ok (.lookupswitch 44 #[(99, 41), (102, 35), (116, 38)], 35) := by decide +kernel
theorem d_X6_wordFrom_36 : decode prog_8_method_4_code 36 = .ok (.ldc 79, 2) := by decide +kernel
theorem d_X6_wordFrom_38 : decode prog_8_method_4_code 38 = .ok (.areturn, 1) := by decide +kernel
theorem d_X6_wordFrom_39 : decode prog_8_method_4_code 39 = .ok (.ldc 81, 2) := by decide +kernel
theorem d_X6_wordFrom_41 : decode prog_8_method_4_code 41 = .ok (.areturn, 1) := by decide +kernel
theorem d_X6_wordFrom_42 : decode prog_8_method_4_code 42 = .ok (.ldc 83, 2) := by decide +kernel
theorem d_X6_wordFrom_44 : decode prog_8_method_4_code 44 = .ok (.areturn, 1) := by decide +kernel
theorem d_X6_wordFrom_45 : decode prog_8_method_4_code 45 = .ok (.ldc 85, 2) := by decide +kernel
theorem d_X6_wordFrom_47 : decode prog_8_method_4_code 47 = .ok (.areturn, 1) := by decide +kernel
def m_X6_wordFrom (kap lam : Nat → Nat) (a0 : Int32) (S : fm_M) : Option Nat :=
  if a0 = 99 then (
   some 2
  ) else (
   if a0 = 102 then (
    some 0
   ) else (
    if a0 = 116 then (
     some 1
    ) else (
     some 3
    )
   )
  )
set_option maxHeartbeats 4000000 in
set_option maxRecDepth 100000 in
theorem c_X6_wordFrom {l : Launch} {D : va_G} {ids kap lam : Nat → Nat} {RL : List Nat} {ad sk sv : Nat → Nat} {S : fm_M} {a0 : Int32} {r : Nat} (hE : fm_E kap RL ad) (hf : m_X6_wordFrom kap lam a0 S = some r) (sz : Nat) : fm_MS l y_X6_wordFrom prog_8_method_4_code 1 (Option.some (Jvm.ClassFile.FieldType.object "java/lang/String")) 0 D ids kap lam RL ad sk sv S [.int a0] sz r S := by
  refine fm_open rfl hE (Nat.le_of_ble_eq_true rfl) (fun p e s m args below meth c ls Z hr hlk G F N hl hsz => ?_)
  subst hsz
  obtain ⟨hx, hb, hml, hown, hts⟩ := id Z
  have hl : lv_has ls 1 [(0, .int a0)] := hl
  unfold m_X6_wordFrom at hf
  refine lv_iload_n hx hb d_X6_wordFrom_0 rfl (lv_at hl 0 rfl) ?_
  by_cases w1_99 : a0 = 99
  · have hf := fm_ip w1_99 hf
    refine lv_lookup (off := 41) (tgt := 42) hx hb d_X6_wordFrom_1 (by decide) (by rw [w1_99]; decide) (by decide) ?_
    refine va_ldcS (q := sk 2) hx hb hown (N.2.2.1 ("FrostBids$Reader", 83, "chill ", 2) (by decide)) d_X6_wordFrom_42 ?_
    exact fm_rets Z hr hlk F d_X6_wordFrom_44 (Option.some.inj hf) rfl
  have hf := fm_ig w1_99 hf
  by_cases w1_102 : a0 = 102
  · have hf := fm_ip w1_102 hf
    refine lv_lookup (off := 35) (tgt := 36) hx hb d_X6_wordFrom_1 (by decide) (by rw [w1_102]; decide) (by decide) ?_
    refine va_ldcS (q := sk 0) hx hb hown (N.2.2.1 ("FrostBids$Reader", 79, "fern ", 0) (by decide)) d_X6_wordFrom_36 ?_
    exact fm_rets Z hr hlk F d_X6_wordFrom_38 (Option.some.inj hf) rfl
  have hf := fm_ig w1_102 hf
  by_cases w1_116 : a0 = 116
  · have hf := fm_ip w1_116 hf
    refine lv_lookup (off := 38) (tgt := 39) hx hb d_X6_wordFrom_1 (by decide) (by rw [w1_116]; decide) (by decide) ?_
    refine va_ldcS (q := sk 1) hx hb hown (N.2.2.1 ("FrostBids$Reader", 81, "tower ", 1) (by decide)) d_X6_wordFrom_39 ?_
    exact fm_rets Z hr hlk F d_X6_wordFrom_41 (Option.some.inj hf) rfl
  have hf := fm_ig w1_116 hf
  refine lv_lookup (off := 44) (tgt := 45) hx hb d_X6_wordFrom_1 (by decide) ((lv_osw w1_99 (by decide)).trans ((lv_osw w1_102 (by decide)).trans ((lv_osw w1_116 (by decide)).trans rfl))) (by decide) ?_
  refine va_ldcS (q := sk 3) hx hb hown (N.2.2.1 ("FrostBids$Reader", 85, "glow ", 3) (by decide)) d_X6_wordFrom_45 ?_
  exact fm_rets Z hr hlk F d_X6_wordFrom_47 (Option.some.inj hf) rfl
theorem d_X6_clause_0 : decode prog_8_method_3_code 0 = .ok (.aload_n 0, 1) := by decide +kernel
theorem d_X6_clause_1 : decode prog_8_method_3_code 1 = .ok (.getfield 9, 3) := by decide +kernel
theorem d_X6_clause_4 : decode prog_8_method_3_code 4 = .ok (.aload_n 0, 1) := by decide +kernel
theorem d_X6_clause_5 : decode prog_8_method_3_code 5 = .ok (.getfield 22, 3) := by decide +kernel
theorem d_X6_clause_8 : decode prog_8_method_3_code 8 = .ok (.iaload, 1) := by decide +kernel
theorem d_X6_clause_9 : decode prog_8_method_3_code 9 = .ok (.istore_n 1, 1) := by decide +kernel
theorem d_X6_clause_10 : decode prog_8_method_3_code 10 = .ok (.aload_n 0, 1) := by decide +kernel
theorem d_X6_clause_11 : decode prog_8_method_3_code 11 = .ok (.iload_n 1, 1) := by decide +kernel
theorem d_X6_clause_12 : decode prog_8_method_3_code 12 = .ok (.invokestatic 55, 3) := by decide +kernel
theorem d_X6_clause_15 : decode prog_8_method_3_code 15 = .ok (.invokevirtual 59, 3) := by decide +kernel
theorem d_X6_clause_18 : decode prog_8_method_3_code 18 = .ok (.ifCond .eq 10, 3) := by decide +kernel
theorem d_X6_clause_21 : decode prog_8_method_3_code 21 = .ok (.aload_n 0, 1) := by decide +kernel
theorem d_X6_clause_22 : decode prog_8_method_3_code 22 = .ok (.invokevirtual 63, 3) := by decide +kernel
theorem d_X6_clause_25 : decode prog_8_method_3_code 25 = .ok (.ifCond .ne 5, 3) := by decide +kernel
theorem d_X6_clause_28 : decode prog_8_method_3_code 28 = .ok (.iconst 0, 1) := by decide +kernel
theorem d_X6_clause_29 : decode prog_8_method_3_code 29 = .ok (.ireturn, 1) := by decide +kernel
theorem d_X6_clause_30 : decode prog_8_method_3_code 30 = .ok (.aload_n 0, 1) := by decide +kernel
theorem d_X6_clause_31 : decode prog_8_method_3_code 31 = .ok (.getfield 26, 3) := by decide +kernel
theorem d_X6_clause_34 : decode prog_8_method_3_code 34 = .ok (.istore_n 2, 1) := by decide +kernel
theorem d_X6_clause_35 : decode prog_8_method_3_code 35 = .ok (.iload_n 1, 1) := by decide +kernel
theorem d_X6_clause_36 : decode prog_8_method_3_code 36 = .ok (.bipush 102, 2) := by decide +kernel
theorem d_X6_clause_38 : decode prog_8_method_3_code 38 = .ok (.if_icmp .ne 13, 3) := by decide +kernel
theorem d_X6_clause_41 : decode prog_8_method_3_code 41 = .ok (.aload_n 0, 1) := by decide +kernel
theorem d_X6_clause_42 : decode prog_8_method_3_code 42 = .ok (.getfield 18, 3) := by decide +kernel
theorem d_X6_clause_45 : decode prog_8_method_3_code 45 = .ok (.iload_n 2, 1) := by decide +kernel
theorem d_X6_clause_46 : decode prog_8_method_3_code 46 = .ok (.putfield 65, 3) := by decide +kernel
theorem d_X6_clause_49 : decode prog_8_method_3_code 49 = .ok (.iconst 1, 1) := by decide +kernel
theorem d_X6_clause_50 : decode prog_8_method_3_code 50 = .ok (.ireturn, 1) := by decide +kernel
theorem d_X6_clause_51 : decode prog_8_method_3_code 51 = .ok (.iload_n 1, 1) := by decide +kernel
theorem d_X6_clause_52 : decode prog_8_method_3_code 52 = .ok (.bipush 116, 2) := by decide +kernel
theorem d_X6_clause_54 : decode prog_8_method_3_code 54 = .ok (.if_icmp .ne 13, 3) := by decide +kernel
theorem d_X6_clause_57 : decode prog_8_method_3_code 57 = .ok (.aload_n 0, 1) := by decide +kernel
theorem d_X6_clause_58 : decode prog_8_method_3_code 58 = .ok (.getfield 18, 3) := by decide +kernel
theorem d_X6_clause_61 : decode prog_8_method_3_code 61 = .ok (.iload_n 2, 1) := by decide +kernel
theorem d_X6_clause_62 : decode prog_8_method_3_code 62 = .ok (.putfield 68, 3) := by decide +kernel
theorem d_X6_clause_65 : decode prog_8_method_3_code 65 = .ok (.iconst 1, 1) := by decide +kernel
theorem d_X6_clause_66 : decode prog_8_method_3_code 66 = .ok (.ireturn, 1) := by decide +kernel
theorem d_X6_clause_67 : decode prog_8_method_3_code 67 = .ok (.aload_n 0, 1) := by decide +kernel
theorem d_X6_clause_68 : decode prog_8_method_3_code 68 = .ok (.bipush 32, 2) := by decide +kernel
theorem d_X6_clause_70 : decode prog_8_method_3_code 70 = .ok (.invokevirtual 47, 3) := by decide +kernel
theorem d_X6_clause_73 : decode prog_8_method_3_code 73 = .ok (.ifCond .eq 15, 3) := by decide +kernel
theorem d_X6_clause_76 : decode prog_8_method_3_code 76 = .ok (.aload_n 0, 1) := by decide +kernel
theorem d_X6_clause_77 : decode prog_8_method_3_code 77 = .ok (.iconst 0, 1) := by decide +kernel
theorem d_X6_clause_78 : decode prog_8_method_3_code 78 = .ok (.invokevirtual 71, 3) := by decide +kernel
theorem d_X6_clause_81 : decode prog_8_method_3_code 81 = .ok (.ifCond .eq 7, 3) := by decide +kernel
theorem d_X6_clause_84 : decode prog_8_method_3_code 84 = .ok (.iconst 1, 1) := by decide +kernel
theorem d_X6_clause_85 : decode prog_8_method_3_code 85 = .ok (.goto 4, 3) := by decide +kernel
theorem d_X6_clause_88 : decode prog_8_method_3_code 88 = .ok (.iconst 0, 1) := by decide +kernel
theorem d_X6_clause_89 : decode prog_8_method_3_code 89 = .ok (.istore_n 3, 1) := by decide +kernel
theorem d_X6_clause_90 : decode prog_8_method_3_code 90 = .ok (.aload_n 0, 1) := by decide +kernel
theorem d_X6_clause_91 : decode prog_8_method_3_code 91 = .ok (.getfield 18, 3) := by decide +kernel
theorem d_X6_clause_94 : decode prog_8_method_3_code 94 = .ok (.iload_n 1, 1) := by decide +kernel
theorem d_X6_clause_95 : decode prog_8_method_3_code 95 = .ok (.bipush 99, 2) := by decide +kernel
theorem d_X6_clause_97 : decode prog_8_method_3_code 97 = .ok (.if_icmp .ne 7, 3) := by decide +kernel
theorem d_X6_clause_100 : decode prog_8_method_3_code 100 = .ok (.iload_n 2, 1) := by decide +kernel
theorem d_X6_clause_101 : decode prog_8_method_3_code 101 = .ok (.goto 5, 3) := by decide +kernel
theorem d_X6_clause_104 : decode prog_8_method_3_code 104 = .ok (.iload_n 2, 1) := by decide +kernel
theorem d_X6_clause_105 : decode prog_8_method_3_code 105 = .ok (.ineg, 1) := by decide +kernel
theorem d_X6_clause_106 : decode prog_8_method_3_code 106 = .ok (.invokevirtual 75, 3) := by decide +kernel
theorem d_X6_clause_109 : decode prog_8_method_3_code 109 = .ok (.iload_n 3, 1) := by decide +kernel
theorem d_X6_clause_110 : decode prog_8_method_3_code 110 = .ok (.ireturn, 1) := by decide +kernel
def m_X6_clause (kap lam : Nat → Nat) (r0 : Nat) (S : fm_M) : Option (Int32 × fm_M) :=
  fm_gr kap 6 r0 0 S fun q1 =>
  fm_gi kap 6 r0 2 S fun x5 =>
  fm_ld kap lam 13 q1 x5 S fun x8 =>
  fm_b1 (m_X6_wordFrom kap lam x8 S) fun q12 =>
  fm_ck (kap r0 == 6) <|
  fm_bi (m_X6_word kap lam r0 q12 S) fun x15 S15 =>
  if x15 = 0 then (
   fm_z 0 (some (0, S15))
  ) else (
   fm_ck (kap r0 == 6) <|
   fm_bi (m_X6_number kap lam r0 S15) fun x22 S22 =>
   if x22 = 0 then (
    fm_z 0 (some (0, S22))
   ) else (
    fm_gi kap 6 r0 3 S22 fun x31 =>
    if x8 = 102 then (
     fm_gr kap 6 r0 1 S22 fun q42 =>
     fm_pi kap 10 q42 0 S22 x31 fun S46 =>
     fm_z 1 (some (1, S46))
    ) else (
     if x8 = 116 then (
      fm_gr kap 6 r0 1 S22 fun q58 =>
      fm_pi kap 10 q58 1 S22 x31 fun S62 =>
      fm_z 1 (some (1, S62))
     ) else (
      fm_ck (kap r0 == 6) <|
      fm_bi (m_X6_take kap lam r0 32 S22) fun x70 S70 =>
      if x70 = 0 then (
       fm_let (0 : Int32) fun x89 =>
       fm_gr kap 6 r0 1 S70 fun q91 =>
       if x8 = 99 then (
        fm_ck (kap q91 == 10) <|
        fm_b1 (m_X10_addClause kap lam q91 x31 S70) fun S106 =>
        fm_z x89 (some (x89, S106))
       ) else (
        fm_ck (kap q91 == 10) <|
        fm_b1 (m_X10_addClause kap lam q91 (-x31) S70) fun S106 =>
        fm_z x89 (some (x89, S106))
       )
      ) else (
       fm_ck (kap r0 == 6) <|
       fm_bi (m_X6_either fm_RF kap lam r0 0 S70) fun x78 S78 =>
       if x78 = 0 then (
        fm_let (0 : Int32) fun x89 =>
        fm_gr kap 6 r0 1 S78 fun q91 =>
        if x8 = 99 then (
         fm_ck (kap q91 == 10) <|
         fm_b1 (m_X10_addClause kap lam q91 x31 S78) fun S106 =>
         fm_z x89 (some (x89, S106))
        ) else (
         fm_ck (kap q91 == 10) <|
         fm_b1 (m_X10_addClause kap lam q91 (-x31) S78) fun S106 =>
         fm_z x89 (some (x89, S106))
        )
       ) else (
        fm_let (1 : Int32) fun x89 =>
        fm_gr kap 6 r0 1 S78 fun q91 =>
        if x8 = 99 then (
         fm_ck (kap q91 == 10) <|
         fm_b1 (m_X10_addClause kap lam q91 x31 S78) fun S106 =>
         fm_z x89 (some (x89, S106))
        ) else (
         fm_ck (kap q91 == 10) <|
         fm_b1 (m_X10_addClause kap lam q91 (-x31) S78) fun S106 =>
         fm_z x89 (some (x89, S106))
        )
       )
      )
     )
    )
   )
  )
set_option maxHeartbeats 4000000 in
set_option maxRecDepth 100000 in
theorem c_X6_clause {l : Launch} {D : va_G} {ids kap lam : Nat → Nat} {RL : List Nat} {ad sk sv : Nat → Nat} {S : fm_M} {r0 : Nat} {r : Int32} {u : fm_M} (hE : fm_E kap RL ad) (hf : m_X6_clause kap lam r0 S = some (r, u)) (sz : Nat) : fm_MI l y_X6_clause prog_8_method_3_code 4 (Option.some Jvm.ClassFile.FieldType.boolean) 63 D ids kap lam RL ad sk sv S [.ref (ad r0)] sz r u := by
  refine fm_open rfl hE (Nat.le_of_ble_eq_true rfl) (fun p e s m args below meth c ls Z hr hlk G F N hl hsz => ?_)
  subst hsz
  obtain ⟨hx, hb, hml, hown, hts⟩ := id Z
  have hl : lv_has ls 4 [(0, .ref (ad r0))] := hl
  unfold m_X6_clause at hf
  refine lv_aload_n hx hb d_X6_clause_0 rfl (lv_at hl 0 rfl) ?_
  refine fm_rgr Z G F hf fr_X6_9 d_X6_clause_1 (fun q1 _ hf => ?_)
  refine lv_aload_n hx hb d_X6_clause_4 rfl (lv_at hl 0 rfl) ?_
  refine fm_rgi Z G F hf fr_X6_22 d_X6_clause_5 (fun x5 _ hf => ?_)
  refine fm_rld Z G F hf d_X6_clause_8 (fun x8 _ hf => ?_)
  refine lv_istore_n (lv' := [(1, .int x8), (0, .ref (ad r0))]) hx hb d_X6_clause_9 rfl hl (by decide) rfl (fun ls hl => ?_)
  refine lv_aload_n hx hb d_X6_clause_10 rfl (lv_at hl 1 rfl) ?_
  refine lv_iload_n hx hb d_X6_clause_11 rfl (lv_at hl 0 rfl) ?_
  refine fm_rcs G F hf (fun r ho => fm_runS (k := 1) Z G F N (As := [.int x8]) (rest := [.ref (ad r0)]) (c_X6_wordFrom hE ho _) kw_225 kw_226 kw_5 kw_227 yd_X6_wordFrom rfl (by decide) (by decide) hl.1 (Nat.le_of_ble_eq_true rfl) d_X6_clause_12 (Nat.le_refl 0) (Nat.le_refl 0)) (fun q12 H locs _ F hf => ?_)
  obtain ⟨hk15, hf⟩ := fm_some hf
  refine fm_rci G F hf (fun r u ho => fm_runV (k := 1) Z G F N (As := [.ref (sk q12)]) (rest := []) (c_X6_word hE ho _) (by rw [eq_of_beq hk15]; decide) (by rw [eq_of_beq hk15]; rfl) kw_232 kw_234 kp_2 kw_5 kw_235 yd_X6_word rfl (by decide) (by decide) hl.1 (Nat.le_of_ble_eq_true rfl) d_X6_clause_15 (Nat.le_refl 0) (Nat.le_refl 0)) (fun x15 S15 H locs _ F hf => ?_)
  refine lv_if_eq (tgt := 28) hx hb d_X6_clause_18 (by decide) (fun c18 => ?_) (fun c18 => ?_)
  · have hf := fm_ip c18 hf
    refine lv_iconst (v := 0) hx hb d_X6_clause_28 (by decide) ?_
    obtain ⟨hz, hf⟩ := fm_some hf
    exact fm_retz Z hr hlk F d_X6_clause_29 hz (Prod.mk.inj (Option.some.inj hf)).1 (Prod.mk.inj (Option.some.inj hf)).2
  · have hf := fm_ig c18 hf
    refine lv_aload_n hx hb d_X6_clause_21 rfl (lv_at hl 1 rfl) ?_
    obtain ⟨hk22, hf⟩ := fm_some hf
    refine fm_rci G F hf (fun r u ho => fm_runV (k := 0) Z G F N (As := []) (rest := []) (c_X6_number hE ho _) (by rw [eq_of_beq hk22]; decide) (by rw [eq_of_beq hk22]; rfl) kw_284 kw_286 kp_3 kw_5 kw_287 yd_X6_number rfl (by decide) (by decide) hl.1 (Nat.le_of_ble_eq_true rfl) d_X6_clause_22 (Nat.le_refl 0) (Nat.le_refl 0)) (fun x22 S22 H locs _ F hf => ?_)
    refine lv_if_ne (tgt := 30) hx hb d_X6_clause_25 (by decide) (fun c25 => ?_) (fun c25 => ?_)
    · have hf := fm_ig c25 hf
      refine lv_aload_n hx hb d_X6_clause_30 rfl (lv_at hl 1 rfl) ?_
      refine fm_rgi Z G F hf fr_X6_26 d_X6_clause_31 (fun x31 _ hf => ?_)
      refine lv_istore_n (lv' := [(2, .int x31), (1, .int x8), (0, .ref (ad r0))]) hx hb d_X6_clause_34 rfl hl (by decide) rfl (fun ls hl => ?_)
      refine lv_iload_n hx hb d_X6_clause_35 rfl (lv_at hl 1 rfl) ?_
      refine lv_bipush (v := 102) hx hb d_X6_clause_36 (by decide) ?_
      refine lv_icmp_ne (tgt := 51) hx hb d_X6_clause_38 (by decide) (fun c38 => ?_) (fun c38 => ?_)
      · have hf := fm_ig c38 hf
        refine lv_iload_n hx hb d_X6_clause_51 rfl (lv_at hl 1 rfl) ?_
        refine lv_bipush (v := 116) hx hb d_X6_clause_52 (by decide) ?_
        refine lv_icmp_ne (tgt := 67) hx hb d_X6_clause_54 (by decide) (fun c54 => ?_) (fun c54 => ?_)
        · have hf := fm_ig c54 hf
          refine lv_aload_n hx hb d_X6_clause_67 rfl (lv_at hl 2 rfl) ?_
          refine lv_bipush (v := 32) hx hb d_X6_clause_68 (by decide) ?_
          obtain ⟨hk70, hf⟩ := fm_some hf
          refine fm_rci G F hf (fun r u ho => fm_runV (k := 1) Z G F N (As := [.int 32]) (rest := []) (c_X6_take hE ho _) (by rw [eq_of_beq hk70]; decide) (by rw [eq_of_beq hk70]; rfl) kw_217 kw_219 kp_0 kw_5 kw_220 yd_X6_take rfl (by decide) (by decide) hl.1 (Nat.le_of_ble_eq_true rfl) d_X6_clause_70 (Nat.le_refl 0) (Nat.le_refl 0)) (fun x70 S70 H locs _ F hf => ?_)
          refine lv_if_eq (tgt := 88) hx hb d_X6_clause_73 (by decide) (fun c73 => ?_) (fun c73 => ?_)
          · have hf := fm_ip c73 hf
            refine lv_iconst (v := 0) hx hb d_X6_clause_88 (by decide) ?_
            refine lv_topi (fun x89 ex89 => ?_)
            have hf := fm_let_at ex89 hf
            refine lv_istore_n (lv' := [(3, .int x89), (2, .int x31), (1, .int x8), (0, .ref (ad r0))]) hx hb d_X6_clause_89 rfl hl (by decide) rfl (fun ls hl => ?_)
            refine lv_aload_n hx hb d_X6_clause_90 rfl (lv_at hl 3 rfl) ?_
            refine fm_rgr Z G F hf fr_X6_18 d_X6_clause_91 (fun q91 _ hf => ?_)
            refine lv_iload_n hx hb d_X6_clause_94 rfl (lv_at hl 2 rfl) ?_
            refine lv_bipush (v := 99) hx hb d_X6_clause_95 (by decide) ?_
            refine lv_icmp_ne (tgt := 104) hx hb d_X6_clause_97 (by decide) (fun c97 => ?_) (fun c97 => ?_)
            · have hf := fm_ig c97 hf
              refine lv_iload_n hx hb d_X6_clause_104 rfl (lv_at hl 1 rfl) ?_
              refine lv_ineg hx hb d_X6_clause_105 ?_
              obtain ⟨hk106, hf⟩ := fm_some hf
              refine fm_rcv G F hf (fun u ho => fm_runV (k := 1) Z G F N (As := [.int (-x31)]) (rest := []) (c_X10_addClause hE ho _) (by rw [eq_of_beq hk106]; decide) (by rw [eq_of_beq hk106]; rfl) kw_311 kw_312 kw_313 kw_2 kw_314 yd_X10_addClause rfl (by decide) (by decide) hl.1 (Nat.le_of_ble_eq_true rfl) d_X6_clause_106 (Nat.le_refl 0) (Nat.le_refl 0)) (fun S106 H locs _ F hf => ?_)
              refine lv_iload_n hx hb d_X6_clause_109 rfl (lv_at hl 0 rfl) ?_
              obtain ⟨hz, hf⟩ := fm_some hf
              exact fm_retz Z hr hlk F d_X6_clause_110 hz (Prod.mk.inj (Option.some.inj hf)).1 (Prod.mk.inj (Option.some.inj hf)).2
            · have hf := fm_ip c97 hf
              refine lv_iload_n hx hb d_X6_clause_100 rfl (lv_at hl 1 rfl) ?_
              refine lv_goto (tgt := 106) hx hb d_X6_clause_101 (by decide) ?_
              obtain ⟨hk106, hf⟩ := fm_some hf
              refine fm_rcv G F hf (fun u ho => fm_runV (k := 1) Z G F N (As := [.int x31]) (rest := []) (c_X10_addClause hE ho _) (by rw [eq_of_beq hk106]; decide) (by rw [eq_of_beq hk106]; rfl) kw_311 kw_312 kw_313 kw_2 kw_314 yd_X10_addClause rfl (by decide) (by decide) hl.1 (Nat.le_of_ble_eq_true rfl) d_X6_clause_106 (Nat.le_refl 0) (Nat.le_refl 0)) (fun S106 H locs _ F hf => ?_)
              refine lv_iload_n hx hb d_X6_clause_109 rfl (lv_at hl 0 rfl) ?_
              obtain ⟨hz, hf⟩ := fm_some hf
              exact fm_retz Z hr hlk F d_X6_clause_110 hz (Prod.mk.inj (Option.some.inj hf)).1 (Prod.mk.inj (Option.some.inj hf)).2
          · have hf := fm_ig c73 hf
            refine lv_aload_n hx hb d_X6_clause_76 rfl (lv_at hl 2 rfl) ?_
            refine lv_iconst (v := 0) hx hb d_X6_clause_77 (by decide) ?_
            obtain ⟨hk78, hf⟩ := fm_some hf
            refine fm_rci G F hf (fun r u ho => fm_runV (k := 1) Z G F N (As := [.int 0]) (rest := []) (c_X6_either fm_RF hE ho _) (by rw [eq_of_beq hk78]; decide) (by rw [eq_of_beq hk78]; rfl) kw_288 kw_290 kp_4 kw_5 kw_291 yd_X6_either rfl (by decide) (by decide) hl.1 (Nat.le_of_ble_eq_true rfl) d_X6_clause_78 (Nat.le_refl 0) (Nat.le_refl 0)) (fun x78 S78 H locs _ F hf => ?_)
            refine lv_if_eq (tgt := 88) hx hb d_X6_clause_81 (by decide) (fun c81 => ?_) (fun c81 => ?_)
            · have hf := fm_ip c81 hf
              refine lv_iconst (v := 0) hx hb d_X6_clause_88 (by decide) ?_
              refine lv_topi (fun x89 ex89 => ?_)
              have hf := fm_let_at ex89 hf
              refine lv_istore_n (lv' := [(3, .int x89), (2, .int x31), (1, .int x8), (0, .ref (ad r0))]) hx hb d_X6_clause_89 rfl hl (by decide) rfl (fun ls hl => ?_)
              refine lv_aload_n hx hb d_X6_clause_90 rfl (lv_at hl 3 rfl) ?_
              refine fm_rgr Z G F hf fr_X6_18 d_X6_clause_91 (fun q91 _ hf => ?_)
              refine lv_iload_n hx hb d_X6_clause_94 rfl (lv_at hl 2 rfl) ?_
              refine lv_bipush (v := 99) hx hb d_X6_clause_95 (by decide) ?_
              refine lv_icmp_ne (tgt := 104) hx hb d_X6_clause_97 (by decide) (fun c97 => ?_) (fun c97 => ?_)
              · have hf := fm_ig c97 hf
                refine lv_iload_n hx hb d_X6_clause_104 rfl (lv_at hl 1 rfl) ?_
                refine lv_ineg hx hb d_X6_clause_105 ?_
                obtain ⟨hk106, hf⟩ := fm_some hf
                refine fm_rcv G F hf (fun u ho => fm_runV (k := 1) Z G F N (As := [.int (-x31)]) (rest := []) (c_X10_addClause hE ho _) (by rw [eq_of_beq hk106]; decide) (by rw [eq_of_beq hk106]; rfl) kw_311 kw_312 kw_313 kw_2 kw_314 yd_X10_addClause rfl (by decide) (by decide) hl.1 (Nat.le_of_ble_eq_true rfl) d_X6_clause_106 (Nat.le_refl 0) (Nat.le_refl 0)) (fun S106 H locs _ F hf => ?_)
                refine lv_iload_n hx hb d_X6_clause_109 rfl (lv_at hl 0 rfl) ?_
                obtain ⟨hz, hf⟩ := fm_some hf
                exact fm_retz Z hr hlk F d_X6_clause_110 hz (Prod.mk.inj (Option.some.inj hf)).1 (Prod.mk.inj (Option.some.inj hf)).2
              · have hf := fm_ip c97 hf
                refine lv_iload_n hx hb d_X6_clause_100 rfl (lv_at hl 1 rfl) ?_
                refine lv_goto (tgt := 106) hx hb d_X6_clause_101 (by decide) ?_
                obtain ⟨hk106, hf⟩ := fm_some hf
                refine fm_rcv G F hf (fun u ho => fm_runV (k := 1) Z G F N (As := [.int x31]) (rest := []) (c_X10_addClause hE ho _) (by rw [eq_of_beq hk106]; decide) (by rw [eq_of_beq hk106]; rfl) kw_311 kw_312 kw_313 kw_2 kw_314 yd_X10_addClause rfl (by decide) (by decide) hl.1 (Nat.le_of_ble_eq_true rfl) d_X6_clause_106 (Nat.le_refl 0) (Nat.le_refl 0)) (fun S106 H locs _ F hf => ?_)
                refine lv_iload_n hx hb d_X6_clause_109 rfl (lv_at hl 0 rfl) ?_
                obtain ⟨hz, hf⟩ := fm_some hf
                exact fm_retz Z hr hlk F d_X6_clause_110 hz (Prod.mk.inj (Option.some.inj hf)).1 (Prod.mk.inj (Option.some.inj hf)).2
            · have hf := fm_ig c81 hf
              refine lv_iconst (v := 1) hx hb d_X6_clause_84 (by decide) ?_
              refine lv_goto (tgt := 89) hx hb d_X6_clause_85 (by decide) ?_
              refine lv_topi (fun x89 ex89 => ?_)
              have hf := fm_let_at ex89 hf
              refine lv_istore_n (lv' := [(3, .int x89), (2, .int x31), (1, .int x8), (0, .ref (ad r0))]) hx hb d_X6_clause_89 rfl hl (by decide) rfl (fun ls hl => ?_)
              refine lv_aload_n hx hb d_X6_clause_90 rfl (lv_at hl 3 rfl) ?_
              refine fm_rgr Z G F hf fr_X6_18 d_X6_clause_91 (fun q91 _ hf => ?_)
              refine lv_iload_n hx hb d_X6_clause_94 rfl (lv_at hl 2 rfl) ?_
              refine lv_bipush (v := 99) hx hb d_X6_clause_95 (by decide) ?_
              refine lv_icmp_ne (tgt := 104) hx hb d_X6_clause_97 (by decide) (fun c97 => ?_) (fun c97 => ?_)
              · have hf := fm_ig c97 hf
                refine lv_iload_n hx hb d_X6_clause_104 rfl (lv_at hl 1 rfl) ?_
                refine lv_ineg hx hb d_X6_clause_105 ?_
                obtain ⟨hk106, hf⟩ := fm_some hf
                refine fm_rcv G F hf (fun u ho => fm_runV (k := 1) Z G F N (As := [.int (-x31)]) (rest := []) (c_X10_addClause hE ho _) (by rw [eq_of_beq hk106]; decide) (by rw [eq_of_beq hk106]; rfl) kw_311 kw_312 kw_313 kw_2 kw_314 yd_X10_addClause rfl (by decide) (by decide) hl.1 (Nat.le_of_ble_eq_true rfl) d_X6_clause_106 (Nat.le_refl 0) (Nat.le_refl 0)) (fun S106 H locs _ F hf => ?_)
                refine lv_iload_n hx hb d_X6_clause_109 rfl (lv_at hl 0 rfl) ?_
                obtain ⟨hz, hf⟩ := fm_some hf
                exact fm_retz Z hr hlk F d_X6_clause_110 hz (Prod.mk.inj (Option.some.inj hf)).1 (Prod.mk.inj (Option.some.inj hf)).2
              · have hf := fm_ip c97 hf
                refine lv_iload_n hx hb d_X6_clause_100 rfl (lv_at hl 1 rfl) ?_
                refine lv_goto (tgt := 106) hx hb d_X6_clause_101 (by decide) ?_
                obtain ⟨hk106, hf⟩ := fm_some hf
                refine fm_rcv G F hf (fun u ho => fm_runV (k := 1) Z G F N (As := [.int x31]) (rest := []) (c_X10_addClause hE ho _) (by rw [eq_of_beq hk106]; decide) (by rw [eq_of_beq hk106]; rfl) kw_311 kw_312 kw_313 kw_2 kw_314 yd_X10_addClause rfl (by decide) (by decide) hl.1 (Nat.le_of_ble_eq_true rfl) d_X6_clause_106 (Nat.le_refl 0) (Nat.le_refl 0)) (fun S106 H locs _ F hf => ?_)
                refine lv_iload_n hx hb d_X6_clause_109 rfl (lv_at hl 0 rfl) ?_
                obtain ⟨hz, hf⟩ := fm_some hf
                exact fm_retz Z hr hlk F d_X6_clause_110 hz (Prod.mk.inj (Option.some.inj hf)).1 (Prod.mk.inj (Option.some.inj hf)).2
        · have hf := fm_ip c54 hf
          refine lv_aload_n hx hb d_X6_clause_57 rfl (lv_at hl 2 rfl) ?_
          refine fm_rgr Z G F hf fr_X6_18 d_X6_clause_58 (fun q58 _ hf => ?_)
          refine lv_iload_n hx hb d_X6_clause_61 rfl (lv_at hl 0 rfl) ?_
          refine fm_rpi Z G F hf fs_X6_68 d_X6_clause_62 (fun c h => by have h := eq_of_beq (show (c == 10) = true from h); subst h; rfl) (fun S62 H locs _ F hf => ?_)
          refine lv_iconst (v := 1) hx hb d_X6_clause_65 (by decide) ?_
          obtain ⟨hz, hf⟩ := fm_some hf
          exact fm_retz Z hr hlk F d_X6_clause_66 hz (Prod.mk.inj (Option.some.inj hf)).1 (Prod.mk.inj (Option.some.inj hf)).2
      · have hf := fm_ip c38 hf
        refine lv_aload_n hx hb d_X6_clause_41 rfl (lv_at hl 2 rfl) ?_
        refine fm_rgr Z G F hf fr_X6_18 d_X6_clause_42 (fun q42 _ hf => ?_)
        refine lv_iload_n hx hb d_X6_clause_45 rfl (lv_at hl 0 rfl) ?_
        refine fm_rpi Z G F hf fs_X6_65 d_X6_clause_46 (fun c h => by have h := eq_of_beq (show (c == 10) = true from h); subst h; rfl) (fun S46 H locs _ F hf => ?_)
        refine lv_iconst (v := 1) hx hb d_X6_clause_49 (by decide) ?_
        obtain ⟨hz, hf⟩ := fm_some hf
        exact fm_retz Z hr hlk F d_X6_clause_50 hz (Prod.mk.inj (Option.some.inj hf)).1 (Prod.mk.inj (Option.some.inj hf)).2
    · have hf := fm_ip c25 hf
      refine lv_iconst (v := 0) hx hb d_X6_clause_28 (by decide) ?_
      obtain ⟨hz, hf⟩ := fm_some hf
      exact fm_retz Z hr hlk F d_X6_clause_29 hz (Prod.mk.inj (Option.some.inj hf)).1 (Prod.mk.inj (Option.some.inj hf)).2
theorem d_X6_readInto_0 : decode prog_8_method_2_code 0 = .ok (.aload_n 2, 1) := by decide +kernel
theorem d_X6_readInto_1 : decode prog_8_method_2_code 1 = .ok (.invokevirtual 29, 3) := by decide +kernel
theorem d_X6_readInto_4 : decode prog_8_method_2_code 4 = .ok (.bipush 100, 2) := by decide +kernel
theorem d_X6_readInto_6 : decode prog_8_method_2_code 6 = .ok (.invokestatic 35, 3) := by decide +kernel
theorem d_X6_readInto_9 : decode prog_8_method_2_code 9 = .ok (.istore_n 3, 1) := by decide +kernel
theorem d_X6_readInto_10 : decode prog_8_method_2_code 10 = .ok (.iconst 0, 1) := by decide +kernel
theorem d_X6_readInto_11 : decode prog_8_method_2_code 11 = .ok (.istore 4, 2) := by decide +kernel
theorem d_X6_readInto_13 : decode prog_8_method_2_code 13 = .ok (.iload 4, 2) := by decide +kernel
theorem d_X6_readInto_15 : decode prog_8_method_2_code 15 = .ok (.iload_n 3, 1) := by decide +kernel
theorem d_X6_readInto_16 : decode prog_8_method_2_code 16 = .ok (.if_icmp .ge 23, 3) := by decide +kernel
theorem d_X6_readInto_19 : decode prog_8_method_2_code 19 = .ok (.aload_n 0, 1) := by decide +kernel
theorem d_X6_readInto_20 : decode prog_8_method_2_code 20 = .ok (.getfield 9, 3) := by decide +kernel
theorem d_X6_readInto_23 : decode prog_8_method_2_code 23 = .ok (.iload 4, 2) := by decide +kernel
theorem d_X6_readInto_25 : decode prog_8_method_2_code 25 = .ok (.aload_n 2, 1) := by decide +kernel
theorem d_X6_readInto_26 : decode prog_8_method_2_code 26 = .ok (.iload 4, 2) := by decide +kernel
theorem d_X6_readInto_28 : decode prog_8_method_2_code 28 = .ok (.iconst 0, 1) := by decide +kernel
theorem d_X6_readInto_29 : decode prog_8_method_2_code 29 = .ok (.invokevirtual 41, 3) := by decide +kernel
theorem d_X6_readInto_32 : decode prog_8_method_2_code 32 = .ok (.iastore, 1) := by decide +kernel
theorem d_X6_readInto_33 : decode prog_8_method_2_code 33 = .ok (.iinc 4 1, 3) := by decide +kernel
theorem d_X6_readInto_36 : decode prog_8_method_2_code 36 = .ok (.goto (-23), 3) := by decide +kernel
theorem d_X6_readInto_39 : decode prog_8_method_2_code 39 = .ok (.aload_n 0, 1) := by decide +kernel
theorem d_X6_readInto_40 : decode prog_8_method_2_code 40 = .ok (.getfield 9, 3) := by decide +kernel
theorem d_X6_readInto_43 : decode prog_8_method_2_code 43 = .ok (.iload_n 3, 1) := by decide +kernel
theorem d_X6_readInto_44 : decode prog_8_method_2_code 44 = .ok (.iconst (-1), 1) := by decide +kernel
theorem d_X6_readInto_45 : decode prog_8_method_2_code 45 = .ok (.iastore, 1) := by decide +kernel
theorem d_X6_readInto_46 : decode prog_8_method_2_code 46 = .ok (.aload_n 0, 1) := by decide +kernel
theorem d_X6_readInto_47 : decode prog_8_method_2_code 47 = .ok (.aload_n 1, 1) := by decide +kernel
theorem d_X6_readInto_48 : decode prog_8_method_2_code 48 = .ok (.putfield 18, 3) := by decide +kernel
theorem d_X6_readInto_51 : decode prog_8_method_2_code 51 = .ok (.aload_n 0, 1) := by decide +kernel
theorem d_X6_readInto_52 : decode prog_8_method_2_code 52 = .ok (.getfield 18, 3) := by decide +kernel
theorem d_X6_readInto_55 : decode prog_8_method_2_code 55 = .ok (.invokevirtual 44, 3) := by decide +kernel
theorem d_X6_readInto_58 : decode prog_8_method_2_code 58 = .ok (.aload_n 0, 1) := by decide +kernel
theorem d_X6_readInto_59 : decode prog_8_method_2_code 59 = .ok (.iconst 0, 1) := by decide +kernel
theorem d_X6_readInto_60 : decode prog_8_method_2_code 60 = .ok (.putfield 22, 3) := by decide +kernel
theorem d_X6_readInto_63 : decode prog_8_method_2_code 63 = .ok (.iconst 0, 1) := by decide +kernel
theorem d_X6_readInto_64 : decode prog_8_method_2_code 64 = .ok (.istore 4, 2) := by decide +kernel
theorem d_X6_readInto_66 : decode prog_8_method_2_code 66 = .ok (.iload 4, 2) := by decide +kernel
theorem d_X6_readInto_68 : decode prog_8_method_2_code 68 = .ok (.bipush 10, 2) := by decide +kernel
theorem d_X6_readInto_70 : decode prog_8_method_2_code 70 = .ok (.if_icmp .ge 67, 3) := by decide +kernel
theorem d_X6_readInto_73 : decode prog_8_method_2_code 73 = .ok (.iload 4, 2) := by decide +kernel
theorem d_X6_readInto_75 : decode prog_8_method_2_code 75 = .ok (.ifCond .eq 12, 3) := by decide +kernel
theorem d_X6_readInto_78 : decode prog_8_method_2_code 78 = .ok (.aload_n 0, 1) := by decide +kernel
theorem d_X6_readInto_79 : decode prog_8_method_2_code 79 = .ok (.bipush 59, 2) := by decide +kernel
theorem d_X6_readInto_81 : decode prog_8_method_2_code 81 = .ok (.invokevirtual 47, 3) := by decide +kernel
theorem d_X6_readInto_84 : decode prog_8_method_2_code 84 = .ok (.ifCond .eq 14, 3) := by decide +kernel
theorem d_X6_readInto_87 : decode prog_8_method_2_code 87 = .ok (.aload_n 0, 1) := by decide +kernel
theorem d_X6_readInto_88 : decode prog_8_method_2_code 88 = .ok (.invokevirtual 51, 3) := by decide +kernel
theorem d_X6_readInto_91 : decode prog_8_method_2_code 91 = .ok (.ifCond .eq 7, 3) := by decide +kernel
theorem d_X6_readInto_94 : decode prog_8_method_2_code 94 = .ok (.iconst 1, 1) := by decide +kernel
theorem d_X6_readInto_95 : decode prog_8_method_2_code 95 = .ok (.goto 4, 3) := by decide +kernel
theorem d_X6_readInto_98 : decode prog_8_method_2_code 98 = .ok (.iconst 0, 1) := by decide +kernel
theorem d_X6_readInto_99 : decode prog_8_method_2_code 99 = .ok (.istore 5, 2) := by decide +kernel
theorem d_X6_readInto_101 : decode prog_8_method_2_code 101 = .ok (.iload 5, 2) := by decide +kernel
theorem d_X6_readInto_103 : decode prog_8_method_2_code 103 = .ok (.ifCond .eq 18, 3) := by decide +kernel
theorem d_X6_readInto_106 : decode prog_8_method_2_code 106 = .ok (.aload_n 0, 1) := by decide +kernel
theorem d_X6_readInto_107 : decode prog_8_method_2_code 107 = .ok (.getfield 9, 3) := by decide +kernel
theorem d_X6_readInto_110 : decode prog_8_method_2_code 110 = .ok (.aload_n 0, 1) := by decide +kernel
theorem d_X6_readInto_111 : decode prog_8_method_2_code 111 = .ok (.getfield 22, 3) := by decide +kernel
theorem d_X6_readInto_114 : decode prog_8_method_2_code 114 = .ok (.iaload, 1) := by decide +kernel
theorem d_X6_readInto_115 : decode prog_8_method_2_code 115 = .ok (.iconst (-1), 1) := by decide +kernel
theorem d_X6_readInto_116 : decode prog_8_method_2_code 116 = .ok (.if_icmp .ne 5, 3) := by decide +kernel
theorem d_X6_readInto_119 : decode prog_8_method_2_code 119 = .ok (.iconst (-1), 1) := by decide +kernel
theorem d_X6_readInto_120 : decode prog_8_method_2_code 120 = .ok (.ireturn, 1) := by decide +kernel
theorem d_X6_readInto_121 : decode prog_8_method_2_code 121 = .ok (.iload 5, 2) := by decide +kernel
theorem d_X6_readInto_123 : decode prog_8_method_2_code 123 = .ok (.ifCond .ne 8, 3) := by decide +kernel
theorem d_X6_readInto_126 : decode prog_8_method_2_code 126 = .ok (.aload_n 0, 1) := by decide +kernel
theorem d_X6_readInto_127 : decode prog_8_method_2_code 127 = .ok (.getfield 22, 3) := by decide +kernel
theorem d_X6_readInto_130 : decode prog_8_method_2_code 130 = .ok (.ireturn, 1) := by decide +kernel
theorem d_X6_readInto_131 : decode prog_8_method_2_code 131 = .ok (.iinc 4 1, 3) := by decide +kernel
theorem d_X6_readInto_134 : decode prog_8_method_2_code 134 = .ok (.goto (-68), 3) := by decide +kernel
theorem d_X6_readInto_137 : decode prog_8_method_2_code 137 = .ok (.aload_n 0, 1) := by decide +kernel
theorem d_X6_readInto_138 : decode prog_8_method_2_code 138 = .ok (.getfield 22, 3) := by decide +kernel
theorem d_X6_readInto_141 : decode prog_8_method_2_code 141 = .ok (.ireturn, 1) := by decide +kernel
def k_X6_readInto_13 (kap lam : Nat → Nat) (go13 : Nat → Nat → Nat → Int32 → Int32 → fm_M → Option (Int32 × fm_M)) (go66 : Nat → Int32 → fm_M → Option (Int32 × fm_M)) (r0 : Nat) (r1 : Nat) (r2 : Nat) (a3 : Int32) (a4 : Int32)  (S : fm_M) : Option (Int32 × fm_M) :=
  if a3 ≤ a4 then (
   fm_gr kap 6 r0 0 S fun q40 =>
   fm_st kap lam q40 a3 (-1) S fun S45 =>
   fm_pr kap 6 r0 1 S45 r1 fun S48 =>
   fm_gr kap 6 r0 1 S48 fun q52 =>
   fm_ck (kap q52 == 10) <|
   fm_b1 (m_X10_clear kap lam q52 S48) fun S55 =>
   fm_pi kap 6 r0 2 S55 0 fun S60 =>
   fm_let (0 : Int32) fun x64 =>
   go66 r0 x64 S60
  ) else (
   fm_gr kap 6 r0 0 S fun q20 =>
   fm_ck (kap r2 == 8) <|
   fm_b1 (m_X8_at kap lam r2 a4 0 S) fun x29 =>
   fm_st kap lam q20 a4 x29 S fun S32 =>
   fm_let (a4 + 1 : Int32) fun x33 =>
   go13 r0 r1 r2 a3 x33 S32
  )
def k_X6_readInto_66 (kap lam : Nat → Nat) (go13 : Nat → Nat → Nat → Int32 → Int32 → fm_M → Option (Int32 × fm_M)) (go66 : Nat → Int32 → fm_M → Option (Int32 × fm_M)) (r0 : Nat) (a4 : Int32)  (S : fm_M) : Option (Int32 × fm_M) :=
  if 10 ≤ a4 then (
   fm_gi kap 6 r0 2 S fun x138 =>
   some (x138, S)
  ) else (
   if a4 = 0 then (
    fm_ck (kap r0 == 6) <|
    fm_bi (m_X6_clause kap lam r0 S) fun x88 S88 =>
    if x88 = 0 then (
     fm_let (0 : Int32) fun x99 =>
     if x99 = 0 then (
      if x99 = 0 then (
       fm_gi kap 6 r0 2 S88 fun x127 =>
       some (x127, S88)
      ) else (
       fm_let (a4 + 1 : Int32) fun x131 =>
       go66 r0 x131 S88
      )
     ) else (
      fm_gr kap 6 r0 0 S88 fun q107 =>
      fm_gi kap 6 r0 2 S88 fun x111 =>
      fm_ld kap lam 13 q107 x111 S88 fun x114 =>
      if x114 = (-1) then (
       some ((-1), S88)
      ) else (
       if x99 = 0 then (
        fm_gi kap 6 r0 2 S88 fun x127 =>
        some (x127, S88)
       ) else (
        fm_let (a4 + 1 : Int32) fun x131 =>
        go66 r0 x131 S88
       )
      )
     )
    ) else (
     fm_let (1 : Int32) fun x99 =>
     if x99 = 0 then (
      if x99 = 0 then (
       fm_gi kap 6 r0 2 S88 fun x127 =>
       some (x127, S88)
      ) else (
       fm_let (a4 + 1 : Int32) fun x131 =>
       go66 r0 x131 S88
      )
     ) else (
      fm_gr kap 6 r0 0 S88 fun q107 =>
      fm_gi kap 6 r0 2 S88 fun x111 =>
      fm_ld kap lam 13 q107 x111 S88 fun x114 =>
      if x114 = (-1) then (
       some ((-1), S88)
      ) else (
       if x99 = 0 then (
        fm_gi kap 6 r0 2 S88 fun x127 =>
        some (x127, S88)
       ) else (
        fm_let (a4 + 1 : Int32) fun x131 =>
        go66 r0 x131 S88
       )
      )
     )
    )
   ) else (
    fm_ck (kap r0 == 6) <|
    fm_bi (m_X6_take kap lam r0 59 S) fun x81 S81 =>
    if x81 = 0 then (
     fm_let (0 : Int32) fun x99 =>
     if x99 = 0 then (
      if x99 = 0 then (
       fm_gi kap 6 r0 2 S81 fun x127 =>
       some (x127, S81)
      ) else (
       fm_let (a4 + 1 : Int32) fun x131 =>
       go66 r0 x131 S81
      )
     ) else (
      fm_gr kap 6 r0 0 S81 fun q107 =>
      fm_gi kap 6 r0 2 S81 fun x111 =>
      fm_ld kap lam 13 q107 x111 S81 fun x114 =>
      if x114 = (-1) then (
       some ((-1), S81)
      ) else (
       if x99 = 0 then (
        fm_gi kap 6 r0 2 S81 fun x127 =>
        some (x127, S81)
       ) else (
        fm_let (a4 + 1 : Int32) fun x131 =>
        go66 r0 x131 S81
       )
      )
     )
    ) else (
     fm_ck (kap r0 == 6) <|
     fm_bi (m_X6_clause kap lam r0 S81) fun x88 S88 =>
     if x88 = 0 then (
      fm_let (0 : Int32) fun x99 =>
      if x99 = 0 then (
       if x99 = 0 then (
        fm_gi kap 6 r0 2 S88 fun x127 =>
        some (x127, S88)
       ) else (
        fm_let (a4 + 1 : Int32) fun x131 =>
        go66 r0 x131 S88
       )
      ) else (
       fm_gr kap 6 r0 0 S88 fun q107 =>
       fm_gi kap 6 r0 2 S88 fun x111 =>
       fm_ld kap lam 13 q107 x111 S88 fun x114 =>
       if x114 = (-1) then (
        some ((-1), S88)
       ) else (
        if x99 = 0 then (
         fm_gi kap 6 r0 2 S88 fun x127 =>
         some (x127, S88)
        ) else (
         fm_let (a4 + 1 : Int32) fun x131 =>
         go66 r0 x131 S88
        )
       )
      )
     ) else (
      fm_let (1 : Int32) fun x99 =>
      if x99 = 0 then (
       if x99 = 0 then (
        fm_gi kap 6 r0 2 S88 fun x127 =>
        some (x127, S88)
       ) else (
        fm_let (a4 + 1 : Int32) fun x131 =>
        go66 r0 x131 S88
       )
      ) else (
       fm_gr kap 6 r0 0 S88 fun q107 =>
       fm_gi kap 6 r0 2 S88 fun x111 =>
       fm_ld kap lam 13 q107 x111 S88 fun x114 =>
       if x114 = (-1) then (
        some ((-1), S88)
       ) else (
        if x99 = 0 then (
         fm_gi kap 6 r0 2 S88 fun x127 =>
         some (x127, S88)
        ) else (
         fm_let (a4 + 1 : Int32) fun x131 =>
         go66 r0 x131 S88
        )
       )
      )
     )
    )
   )
  )
def bs_X6_readInto (kap lam : Nat → Nat) : Nat → (Nat → Nat → Nat → Int32 → Int32 → fm_M → Option (Int32 × fm_M)) × (Nat → Int32 → fm_M → Option (Int32 × fm_M))
  | 0 => ((fun _ _ _ _ _ _ => none), (fun _ _ _ => none))
  | n + 1 => (k_X6_readInto_13 kap lam (bs_X6_readInto kap lam n).1 (bs_X6_readInto kap lam n).2, k_X6_readInto_66 kap lam (bs_X6_readInto kap lam n).1 (bs_X6_readInto kap lam n).2)
def b_X6_readInto_13 (kap lam : Nat → Nat) (n : Nat) : Nat → Nat → Nat → Int32 → Int32 → fm_M → Option (Int32 × fm_M) := (bs_X6_readInto kap lam n).1
def b_X6_readInto_66 (kap lam : Nat → Nat) (n : Nat) : Nat → Int32 → fm_M → Option (Int32 × fm_M) := (bs_X6_readInto kap lam n).2
def m_X6_readInto (kap lam : Nat → Nat) (r0 : Nat) (r1 : Nat) (r2 : Nat) (S : fm_M) : Option (Int32 × fm_M) :=
  fm_ck (kap r2 == 8) <|
  fm_b1 (m_X8_size kap lam r2 S) fun x1 =>
  fm_let (if 100 < x1 then 100 else x1 : Int32) fun x6 =>
  fm_let (0 : Int32) fun x11 =>
  b_X6_readInto_13 kap lam fm_LF r0 r1 r2 x6 x11 S
set_option maxHeartbeats 4000000 in
set_option maxRecDepth 100000 in
theorem c_X6_readInto {l : Launch} {D : va_G} {ids kap lam : Nat → Nat} {RL : List Nat} {ad sk sv : Nat → Nat} {S : fm_M} {r0 : Nat} {r1 : Nat} {r2 : Nat} {r : Int32} {u : fm_M} (hE : fm_E kap RL ad) (hf : m_X6_readInto kap lam r0 r1 r2 S = some (r, u)) (sz : Nat) : fm_MI l y_X6_readInto prog_8_method_2_code 6 (Option.some Jvm.ClassFile.FieldType.int) 64 D ids kap lam RL ad sk sv S [.ref (ad r0), .ref (ad r1), .ref (ad r2)] sz r u := by
  refine fm_open rfl hE (Nat.le_of_ble_eq_true rfl) (fun p e s m args below meth c ls Z hr hlk G F N hl hsz => ?_)
  subst hsz
  obtain ⟨hx, hb, hml, hown, hts⟩ := id Z
  have hl : lv_has ls 6 [(0, .ref (ad r0)), (1, .ref (ad r1)), (2, .ref (ad r2))] := hl
  generalize hQ : MQ below _ args s 0 0 (fm_A RL ad s.heap.size) = Qf
  have hL : ∀ n : Nat, (∀ (r0 : Nat) (r1 : Nat) (r2 : Nat) (a3 : Int32) (a4 : Int32)  (S : fm_M) (H : Heap) (locs : List Loc) (ls : Array Slot), fm_F D ids kap lam RL ad S (fm_A RL ad s.heap.size) s.heap H locs → lv_has ls 6 [(0, .ref (ad r0)), (1, .ref (ad r1)), (2, .ref (ad r2)), (3, .int a3), (4, .int a4)] → b_X6_readInto_13 kap lam n r0 r1 r2 a3 a4 S = some (r, u) → W p l e (fm_rm 64) s m args below meth c H locs 0 0 Qf (F0 m 13 ls [])) ∧ (∀ (r0 : Nat) (a4 : Int32)  (S : fm_M) (H : Heap) (locs : List Loc) (ls : Array Slot), fm_F D ids kap lam RL ad S (fm_A RL ad s.heap.size) s.heap H locs → lv_has ls 6 [(0, .ref (ad r0)), (4, .int a4)] → b_X6_readInto_66 kap lam n r0 a4 S = some (r, u) → W p l e (fm_rm 64) s m args below meth c H locs 0 0 Qf (F0 m 66 ls [])) := by
    intro n
    induction n with
    | zero => exact ⟨fun _ _ _ _ _ _ _ _ _ _ _ hf => absurd hf (by intro h; cases h), fun _ _ _ _ _ _ _ _ hf => absurd hf (by intro h; cases h)⟩
    | succ n ih =>
      refine ⟨?_, ?_⟩
      · intro r0 r1 r2 a3 a4 S H locs ls F hl hf
        have hf : k_X6_readInto_13 kap lam (b_X6_readInto_13 kap lam n) (b_X6_readInto_66 kap lam n) r0 r1 r2 a3 a4 S = some (r, u) := hf
        unfold k_X6_readInto_13 at hf
        refine lv_iload hx hb d_X6_readInto_13 (lv_at hl 4 rfl) ?_
        refine lv_iload_n hx hb d_X6_readInto_15 rfl (lv_at hl 3 rfl) ?_
        refine lv_icmp_ge (tgt := 39) hx hb d_X6_readInto_16 (by decide) (fun c16 => ?_) (fun c16 => ?_)
        · have hf := fm_ip c16 hf
          refine lv_aload_n hx hb d_X6_readInto_39 rfl (lv_at hl 0 rfl) ?_
          refine fm_rgr Z G F hf fr_X6_9 d_X6_readInto_40 (fun q40 _ hf => ?_)
          refine lv_iload_n hx hb d_X6_readInto_43 rfl (lv_at hl 3 rfl) ?_
          refine lv_iconst (v := (-1)) hx hb d_X6_readInto_44 (by decide) ?_
          refine fm_rst Z G F hf d_X6_readInto_45 (fun S45 H locs _ F hf => ?_)
          refine lv_aload_n hx hb d_X6_readInto_46 rfl (lv_at hl 0 rfl) ?_
          refine lv_aload_n hx hb d_X6_readInto_47 rfl (lv_at hl 1 rfl) ?_
          refine fm_rpr Z G F hf fs_X6_18 d_X6_readInto_48 (fun S48 H locs _ F hf => ?_)
          refine lv_aload_n hx hb d_X6_readInto_51 rfl (lv_at hl 0 rfl) ?_
          refine fm_rgr Z G F hf fr_X6_18 d_X6_readInto_52 (fun q52 _ hf => ?_)
          obtain ⟨hk55, hf⟩ := fm_some hf
          refine fm_rcv G F hf (fun u ho => fm_runV (k := 0) Z G F N (As := []) (rest := []) (c_X10_clear hE ho _) (by rw [eq_of_beq hk55]; decide) (by rw [eq_of_beq hk55]; rfl) kw_216 kw_40 kw_41 kw_2 kw_42 yd_X10_clear rfl (by decide) (by decide) hl.1 (Nat.le_of_ble_eq_true rfl) d_X6_readInto_55 (Nat.le_refl 0) (Nat.le_refl 0)) (fun S55 H locs _ F hf => ?_)
          refine lv_aload_n hx hb d_X6_readInto_58 rfl (lv_at hl 0 rfl) ?_
          refine lv_iconst (v := 0) hx hb d_X6_readInto_59 (by decide) ?_
          refine fm_rpi Z G F hf fs_X6_22 d_X6_readInto_60 (fun c h => by have h := eq_of_beq (show (c == 6) = true from h); subst h; rfl) (fun S60 H locs _ F hf => ?_)
          refine lv_iconst (v := 0) hx hb d_X6_readInto_63 (by decide) ?_
          refine lv_topi (fun x64 ex64 => ?_)
          have hf := fm_let_at ex64 hf
          refine lv_istore (lv' := [(4, .int x64), (0, .ref (ad r0)), (1, .ref (ad r1)), (2, .ref (ad r2)), (3, .int a3)]) hx hb d_X6_readInto_64 hl (by decide) rfl (fun ls hl => ?_)
          exact (ih).2 r0 x64 S60 _ _ _ F (lv_sub hl [1, 0] rfl) hf
        · have hf := fm_ig c16 hf
          refine lv_aload_n hx hb d_X6_readInto_19 rfl (lv_at hl 0 rfl) ?_
          refine fm_rgr Z G F hf fr_X6_9 d_X6_readInto_20 (fun q20 _ hf => ?_)
          refine lv_iload hx hb d_X6_readInto_23 (lv_at hl 4 rfl) ?_
          refine lv_aload_n hx hb d_X6_readInto_25 rfl (lv_at hl 2 rfl) ?_
          refine lv_iload hx hb d_X6_readInto_26 (lv_at hl 4 rfl) ?_
          refine lv_iconst (v := 0) hx hb d_X6_readInto_28 (by decide) ?_
          obtain ⟨hk29, hf⟩ := fm_some hf
          refine fm_rcr G F hf (fun r ho => fm_runV (k := 2) Z G F N (As := [.int a4, .int 0]) (rest := [.int a4, .ref (ad q20)]) (c_X8_at hE ho _) (by rw [eq_of_beq hk29]; decide) (by rw [eq_of_beq hk29]; rfl) kw_210 kw_211 kw_212 kw_3 kw_213 yd_X8_at rfl (by decide) (by decide) hl.1 (Nat.le_of_ble_eq_true rfl) d_X6_readInto_29 (Nat.le_refl 0) (Nat.le_refl 0)) (fun x29 H locs _ F hf => ?_)
          refine fm_rst Z G F hf d_X6_readInto_32 (fun S32 H locs _ F hf => ?_)
          obtain ⟨x33, ex33⟩ : ∃ y : Int32, y = a4 + 1 := ⟨_, rfl⟩
          have hf := fm_let_at ex33 hf
          refine lv_iinc (v := x33) (lv' := [(4, .int x33), (0, .ref (ad r0)), (1, .ref (ad r1)), (2, .ref (ad r2)), (3, .int a3)]) hx hb d_X6_readInto_33 hl (k := 4) rfl (by rw [ex33]; rfl) (by decide) rfl (fun ls hl => ?_)
          refine lv_goto (tgt := 13) hx hb d_X6_readInto_36 (by decide) ?_
          exact (ih).1 r0 r1 r2 a3 x33 S32 _ _ _ F (lv_sub hl [1, 2, 3, 4, 0] rfl) hf
      · intro r0 a4 S H locs ls F hl hf
        have hf : k_X6_readInto_66 kap lam (b_X6_readInto_13 kap lam n) (b_X6_readInto_66 kap lam n) r0 a4 S = some (r, u) := hf
        unfold k_X6_readInto_66 at hf
        refine lv_iload hx hb d_X6_readInto_66 (lv_at hl 1 rfl) ?_
        refine lv_bipush (v := 10) hx hb d_X6_readInto_68 (by decide) ?_
        refine lv_icmp_ge (tgt := 137) hx hb d_X6_readInto_70 (by decide) (fun c70 => ?_) (fun c70 => ?_)
        · have hf := fm_ip c70 hf
          refine lv_aload_n hx hb d_X6_readInto_137 rfl (lv_at hl 0 rfl) ?_
          refine fm_rgi Z G F hf fr_X6_22 d_X6_readInto_138 (fun x138 _ hf => ?_)
          rw [← hQ]; exact fm_reti Z hr hlk F d_X6_readInto_141 (Prod.mk.inj (Option.some.inj hf)).1 (Prod.mk.inj (Option.some.inj hf)).2
        · have hf := fm_ig c70 hf
          refine lv_iload hx hb d_X6_readInto_73 (lv_at hl 1 rfl) ?_
          refine lv_if_eq (tgt := 87) hx hb d_X6_readInto_75 (by decide) (fun c75 => ?_) (fun c75 => ?_)
          · have hf := fm_ip c75 hf
            refine lv_aload_n hx hb d_X6_readInto_87 rfl (lv_at hl 0 rfl) ?_
            obtain ⟨hk88, hf⟩ := fm_some hf
            refine fm_rci G F hf (fun r u ho => fm_runV (k := 0) Z G F N (As := []) (rest := []) (c_X6_clause hE ho _) (by rw [eq_of_beq hk88]; decide) (by rw [eq_of_beq hk88]; rfl) kw_221 kw_223 kp_1 kw_5 kw_224 yd_X6_clause rfl (by decide) (by decide) hl.1 (Nat.le_of_ble_eq_true rfl) d_X6_readInto_88 (Nat.le_refl 0) (Nat.le_refl 0)) (fun x88 S88 H locs _ F hf => ?_)
            refine lv_if_eq (tgt := 98) hx hb d_X6_readInto_91 (by decide) (fun c91 => ?_) (fun c91 => ?_)
            · have hf := fm_ip c91 hf
              refine lv_iconst (v := 0) hx hb d_X6_readInto_98 (by decide) ?_
              refine lv_topi (fun x99 ex99 => ?_)
              have hf := fm_let_at ex99 hf
              refine lv_istore (lv' := [(5, .int x99), (0, .ref (ad r0)), (4, .int a4)]) hx hb d_X6_readInto_99 hl (by decide) rfl (fun ls hl => ?_)
              refine lv_iload hx hb d_X6_readInto_101 (lv_at hl 0 rfl) ?_
              refine lv_if_eq (tgt := 121) hx hb d_X6_readInto_103 (by decide) (fun c103 => ?_) (fun c103 => ?_)
              · have hf := fm_ip c103 hf
                refine lv_iload hx hb d_X6_readInto_121 (lv_at hl 0 rfl) ?_
                refine lv_if_ne (tgt := 131) hx hb d_X6_readInto_123 (by decide) (fun c123 => ?_) (fun c123 => ?_)
                · have hf := fm_ig c123 hf
                  obtain ⟨x131, ex131⟩ : ∃ y : Int32, y = a4 + 1 := ⟨_, rfl⟩
                  have hf := fm_let_at ex131 hf
                  refine lv_iinc (v := x131) (lv' := [(4, .int x131), (5, .int x99), (0, .ref (ad r0))]) hx hb d_X6_readInto_131 hl (k := 2) rfl (by rw [ex131]; rfl) (by decide) rfl (fun ls hl => ?_)
                  refine lv_goto (tgt := 66) hx hb d_X6_readInto_134 (by decide) ?_
                  exact (ih).2 r0 x131 S88 _ _ _ F (lv_sub hl [2, 0] rfl) hf
                · have hf := fm_ip c123 hf
                  refine lv_aload_n hx hb d_X6_readInto_126 rfl (lv_at hl 1 rfl) ?_
                  refine fm_rgi Z G F hf fr_X6_22 d_X6_readInto_127 (fun x127 _ hf => ?_)
                  rw [← hQ]; exact fm_reti Z hr hlk F d_X6_readInto_130 (Prod.mk.inj (Option.some.inj hf)).1 (Prod.mk.inj (Option.some.inj hf)).2
              · have hf := fm_ig c103 hf
                refine lv_aload_n hx hb d_X6_readInto_106 rfl (lv_at hl 1 rfl) ?_
                refine fm_rgr Z G F hf fr_X6_9 d_X6_readInto_107 (fun q107 _ hf => ?_)
                refine lv_aload_n hx hb d_X6_readInto_110 rfl (lv_at hl 1 rfl) ?_
                refine fm_rgi Z G F hf fr_X6_22 d_X6_readInto_111 (fun x111 _ hf => ?_)
                refine fm_rld Z G F hf d_X6_readInto_114 (fun x114 _ hf => ?_)
                refine lv_iconst (v := (-1)) hx hb d_X6_readInto_115 (by decide) ?_
                refine lv_icmp_ne (tgt := 121) hx hb d_X6_readInto_116 (by decide) (fun c116 => ?_) (fun c116 => ?_)
                · have hf := fm_ig c116 hf
                  refine lv_iload hx hb d_X6_readInto_121 (lv_at hl 0 rfl) ?_
                  refine lv_if_ne (tgt := 131) hx hb d_X6_readInto_123 (by decide) (fun c123 => ?_) (fun c123 => ?_)
                  · have hf := fm_ig c123 hf
                    obtain ⟨x131, ex131⟩ : ∃ y : Int32, y = a4 + 1 := ⟨_, rfl⟩
                    have hf := fm_let_at ex131 hf
                    refine lv_iinc (v := x131) (lv' := [(4, .int x131), (5, .int x99), (0, .ref (ad r0))]) hx hb d_X6_readInto_131 hl (k := 2) rfl (by rw [ex131]; rfl) (by decide) rfl (fun ls hl => ?_)
                    refine lv_goto (tgt := 66) hx hb d_X6_readInto_134 (by decide) ?_
                    exact (ih).2 r0 x131 S88 _ _ _ F (lv_sub hl [2, 0] rfl) hf
                  · have hf := fm_ip c123 hf
                    refine lv_aload_n hx hb d_X6_readInto_126 rfl (lv_at hl 1 rfl) ?_
                    refine fm_rgi Z G F hf fr_X6_22 d_X6_readInto_127 (fun x127 _ hf => ?_)
                    rw [← hQ]; exact fm_reti Z hr hlk F d_X6_readInto_130 (Prod.mk.inj (Option.some.inj hf)).1 (Prod.mk.inj (Option.some.inj hf)).2
                · have hf := fm_ip c116 hf
                  refine lv_iconst (v := (-1)) hx hb d_X6_readInto_119 (by decide) ?_
                  rw [← hQ]; exact fm_reti Z hr hlk F d_X6_readInto_120 (Prod.mk.inj (Option.some.inj hf)).1 (Prod.mk.inj (Option.some.inj hf)).2
            · have hf := fm_ig c91 hf
              refine lv_iconst (v := 1) hx hb d_X6_readInto_94 (by decide) ?_
              refine lv_goto (tgt := 99) hx hb d_X6_readInto_95 (by decide) ?_
              refine lv_topi (fun x99 ex99 => ?_)
              have hf := fm_let_at ex99 hf
              refine lv_istore (lv' := [(5, .int x99), (0, .ref (ad r0)), (4, .int a4)]) hx hb d_X6_readInto_99 hl (by decide) rfl (fun ls hl => ?_)
              refine lv_iload hx hb d_X6_readInto_101 (lv_at hl 0 rfl) ?_
              refine lv_if_eq (tgt := 121) hx hb d_X6_readInto_103 (by decide) (fun c103 => ?_) (fun c103 => ?_)
              · have hf := fm_ip c103 hf
                refine lv_iload hx hb d_X6_readInto_121 (lv_at hl 0 rfl) ?_
                refine lv_if_ne (tgt := 131) hx hb d_X6_readInto_123 (by decide) (fun c123 => ?_) (fun c123 => ?_)
                · have hf := fm_ig c123 hf
                  obtain ⟨x131, ex131⟩ : ∃ y : Int32, y = a4 + 1 := ⟨_, rfl⟩
                  have hf := fm_let_at ex131 hf
                  refine lv_iinc (v := x131) (lv' := [(4, .int x131), (5, .int x99), (0, .ref (ad r0))]) hx hb d_X6_readInto_131 hl (k := 2) rfl (by rw [ex131]; rfl) (by decide) rfl (fun ls hl => ?_)
                  refine lv_goto (tgt := 66) hx hb d_X6_readInto_134 (by decide) ?_
                  exact (ih).2 r0 x131 S88 _ _ _ F (lv_sub hl [2, 0] rfl) hf
                · have hf := fm_ip c123 hf
                  refine lv_aload_n hx hb d_X6_readInto_126 rfl (lv_at hl 1 rfl) ?_
                  refine fm_rgi Z G F hf fr_X6_22 d_X6_readInto_127 (fun x127 _ hf => ?_)
                  rw [← hQ]; exact fm_reti Z hr hlk F d_X6_readInto_130 (Prod.mk.inj (Option.some.inj hf)).1 (Prod.mk.inj (Option.some.inj hf)).2
              · have hf := fm_ig c103 hf
                refine lv_aload_n hx hb d_X6_readInto_106 rfl (lv_at hl 1 rfl) ?_
                refine fm_rgr Z G F hf fr_X6_9 d_X6_readInto_107 (fun q107 _ hf => ?_)
                refine lv_aload_n hx hb d_X6_readInto_110 rfl (lv_at hl 1 rfl) ?_
                refine fm_rgi Z G F hf fr_X6_22 d_X6_readInto_111 (fun x111 _ hf => ?_)
                refine fm_rld Z G F hf d_X6_readInto_114 (fun x114 _ hf => ?_)
                refine lv_iconst (v := (-1)) hx hb d_X6_readInto_115 (by decide) ?_
                refine lv_icmp_ne (tgt := 121) hx hb d_X6_readInto_116 (by decide) (fun c116 => ?_) (fun c116 => ?_)
                · have hf := fm_ig c116 hf
                  refine lv_iload hx hb d_X6_readInto_121 (lv_at hl 0 rfl) ?_
                  refine lv_if_ne (tgt := 131) hx hb d_X6_readInto_123 (by decide) (fun c123 => ?_) (fun c123 => ?_)
                  · have hf := fm_ig c123 hf
                    obtain ⟨x131, ex131⟩ : ∃ y : Int32, y = a4 + 1 := ⟨_, rfl⟩
                    have hf := fm_let_at ex131 hf
                    refine lv_iinc (v := x131) (lv' := [(4, .int x131), (5, .int x99), (0, .ref (ad r0))]) hx hb d_X6_readInto_131 hl (k := 2) rfl (by rw [ex131]; rfl) (by decide) rfl (fun ls hl => ?_)
                    refine lv_goto (tgt := 66) hx hb d_X6_readInto_134 (by decide) ?_
                    exact (ih).2 r0 x131 S88 _ _ _ F (lv_sub hl [2, 0] rfl) hf
                  · have hf := fm_ip c123 hf
                    refine lv_aload_n hx hb d_X6_readInto_126 rfl (lv_at hl 1 rfl) ?_
                    refine fm_rgi Z G F hf fr_X6_22 d_X6_readInto_127 (fun x127 _ hf => ?_)
                    rw [← hQ]; exact fm_reti Z hr hlk F d_X6_readInto_130 (Prod.mk.inj (Option.some.inj hf)).1 (Prod.mk.inj (Option.some.inj hf)).2
                · have hf := fm_ip c116 hf
                  refine lv_iconst (v := (-1)) hx hb d_X6_readInto_119 (by decide) ?_
                  rw [← hQ]; exact fm_reti Z hr hlk F d_X6_readInto_120 (Prod.mk.inj (Option.some.inj hf)).1 (Prod.mk.inj (Option.some.inj hf)).2
          · have hf := fm_ig c75 hf
            refine lv_aload_n hx hb d_X6_readInto_78 rfl (lv_at hl 0 rfl) ?_
            refine lv_bipush (v := 59) hx hb d_X6_readInto_79 (by decide) ?_
            obtain ⟨hk81, hf⟩ := fm_some hf
            refine fm_rci G F hf (fun r u ho => fm_runV (k := 1) Z G F N (As := [.int 59]) (rest := []) (c_X6_take hE ho _) (by rw [eq_of_beq hk81]; decide) (by rw [eq_of_beq hk81]; rfl) kw_217 kw_219 kp_0 kw_5 kw_220 yd_X6_take rfl (by decide) (by decide) hl.1 (Nat.le_of_ble_eq_true rfl) d_X6_readInto_81 (Nat.le_refl 0) (Nat.le_refl 0)) (fun x81 S81 H locs _ F hf => ?_)
            refine lv_if_eq (tgt := 98) hx hb d_X6_readInto_84 (by decide) (fun c84 => ?_) (fun c84 => ?_)
            · have hf := fm_ip c84 hf
              refine lv_iconst (v := 0) hx hb d_X6_readInto_98 (by decide) ?_
              refine lv_topi (fun x99 ex99 => ?_)
              have hf := fm_let_at ex99 hf
              refine lv_istore (lv' := [(5, .int x99), (0, .ref (ad r0)), (4, .int a4)]) hx hb d_X6_readInto_99 hl (by decide) rfl (fun ls hl => ?_)
              refine lv_iload hx hb d_X6_readInto_101 (lv_at hl 0 rfl) ?_
              refine lv_if_eq (tgt := 121) hx hb d_X6_readInto_103 (by decide) (fun c103 => ?_) (fun c103 => ?_)
              · have hf := fm_ip c103 hf
                refine lv_iload hx hb d_X6_readInto_121 (lv_at hl 0 rfl) ?_
                refine lv_if_ne (tgt := 131) hx hb d_X6_readInto_123 (by decide) (fun c123 => ?_) (fun c123 => ?_)
                · have hf := fm_ig c123 hf
                  obtain ⟨x131, ex131⟩ : ∃ y : Int32, y = a4 + 1 := ⟨_, rfl⟩
                  have hf := fm_let_at ex131 hf
                  refine lv_iinc (v := x131) (lv' := [(4, .int x131), (5, .int x99), (0, .ref (ad r0))]) hx hb d_X6_readInto_131 hl (k := 2) rfl (by rw [ex131]; rfl) (by decide) rfl (fun ls hl => ?_)
                  refine lv_goto (tgt := 66) hx hb d_X6_readInto_134 (by decide) ?_
                  exact (ih).2 r0 x131 S81 _ _ _ F (lv_sub hl [2, 0] rfl) hf
                · have hf := fm_ip c123 hf
                  refine lv_aload_n hx hb d_X6_readInto_126 rfl (lv_at hl 1 rfl) ?_
                  refine fm_rgi Z G F hf fr_X6_22 d_X6_readInto_127 (fun x127 _ hf => ?_)
                  rw [← hQ]; exact fm_reti Z hr hlk F d_X6_readInto_130 (Prod.mk.inj (Option.some.inj hf)).1 (Prod.mk.inj (Option.some.inj hf)).2
              · have hf := fm_ig c103 hf
                refine lv_aload_n hx hb d_X6_readInto_106 rfl (lv_at hl 1 rfl) ?_
                refine fm_rgr Z G F hf fr_X6_9 d_X6_readInto_107 (fun q107 _ hf => ?_)
                refine lv_aload_n hx hb d_X6_readInto_110 rfl (lv_at hl 1 rfl) ?_
                refine fm_rgi Z G F hf fr_X6_22 d_X6_readInto_111 (fun x111 _ hf => ?_)
                refine fm_rld Z G F hf d_X6_readInto_114 (fun x114 _ hf => ?_)
                refine lv_iconst (v := (-1)) hx hb d_X6_readInto_115 (by decide) ?_
                refine lv_icmp_ne (tgt := 121) hx hb d_X6_readInto_116 (by decide) (fun c116 => ?_) (fun c116 => ?_)
                · have hf := fm_ig c116 hf
                  refine lv_iload hx hb d_X6_readInto_121 (lv_at hl 0 rfl) ?_
                  refine lv_if_ne (tgt := 131) hx hb d_X6_readInto_123 (by decide) (fun c123 => ?_) (fun c123 => ?_)
                  · have hf := fm_ig c123 hf
                    obtain ⟨x131, ex131⟩ : ∃ y : Int32, y = a4 + 1 := ⟨_, rfl⟩
                    have hf := fm_let_at ex131 hf
                    refine lv_iinc (v := x131) (lv' := [(4, .int x131), (5, .int x99), (0, .ref (ad r0))]) hx hb d_X6_readInto_131 hl (k := 2) rfl (by rw [ex131]; rfl) (by decide) rfl (fun ls hl => ?_)
                    refine lv_goto (tgt := 66) hx hb d_X6_readInto_134 (by decide) ?_
                    exact (ih).2 r0 x131 S81 _ _ _ F (lv_sub hl [2, 0] rfl) hf
                  · have hf := fm_ip c123 hf
                    refine lv_aload_n hx hb d_X6_readInto_126 rfl (lv_at hl 1 rfl) ?_
                    refine fm_rgi Z G F hf fr_X6_22 d_X6_readInto_127 (fun x127 _ hf => ?_)
                    rw [← hQ]; exact fm_reti Z hr hlk F d_X6_readInto_130 (Prod.mk.inj (Option.some.inj hf)).1 (Prod.mk.inj (Option.some.inj hf)).2
                · have hf := fm_ip c116 hf
                  refine lv_iconst (v := (-1)) hx hb d_X6_readInto_119 (by decide) ?_
                  rw [← hQ]; exact fm_reti Z hr hlk F d_X6_readInto_120 (Prod.mk.inj (Option.some.inj hf)).1 (Prod.mk.inj (Option.some.inj hf)).2
            · have hf := fm_ig c84 hf
              refine lv_aload_n hx hb d_X6_readInto_87 rfl (lv_at hl 0 rfl) ?_
              obtain ⟨hk88, hf⟩ := fm_some hf
              refine fm_rci G F hf (fun r u ho => fm_runV (k := 0) Z G F N (As := []) (rest := []) (c_X6_clause hE ho _) (by rw [eq_of_beq hk88]; decide) (by rw [eq_of_beq hk88]; rfl) kw_221 kw_223 kp_1 kw_5 kw_224 yd_X6_clause rfl (by decide) (by decide) hl.1 (Nat.le_of_ble_eq_true rfl) d_X6_readInto_88 (Nat.le_refl 0) (Nat.le_refl 0)) (fun x88 S88 H locs _ F hf => ?_)
              refine lv_if_eq (tgt := 98) hx hb d_X6_readInto_91 (by decide) (fun c91 => ?_) (fun c91 => ?_)
              · have hf := fm_ip c91 hf
                refine lv_iconst (v := 0) hx hb d_X6_readInto_98 (by decide) ?_
                refine lv_topi (fun x99 ex99 => ?_)
                have hf := fm_let_at ex99 hf
                refine lv_istore (lv' := [(5, .int x99), (0, .ref (ad r0)), (4, .int a4)]) hx hb d_X6_readInto_99 hl (by decide) rfl (fun ls hl => ?_)
                refine lv_iload hx hb d_X6_readInto_101 (lv_at hl 0 rfl) ?_
                refine lv_if_eq (tgt := 121) hx hb d_X6_readInto_103 (by decide) (fun c103 => ?_) (fun c103 => ?_)
                · have hf := fm_ip c103 hf
                  refine lv_iload hx hb d_X6_readInto_121 (lv_at hl 0 rfl) ?_
                  refine lv_if_ne (tgt := 131) hx hb d_X6_readInto_123 (by decide) (fun c123 => ?_) (fun c123 => ?_)
                  · have hf := fm_ig c123 hf
                    obtain ⟨x131, ex131⟩ : ∃ y : Int32, y = a4 + 1 := ⟨_, rfl⟩
                    have hf := fm_let_at ex131 hf
                    refine lv_iinc (v := x131) (lv' := [(4, .int x131), (5, .int x99), (0, .ref (ad r0))]) hx hb d_X6_readInto_131 hl (k := 2) rfl (by rw [ex131]; rfl) (by decide) rfl (fun ls hl => ?_)
                    refine lv_goto (tgt := 66) hx hb d_X6_readInto_134 (by decide) ?_
                    exact (ih).2 r0 x131 S88 _ _ _ F (lv_sub hl [2, 0] rfl) hf
                  · have hf := fm_ip c123 hf
                    refine lv_aload_n hx hb d_X6_readInto_126 rfl (lv_at hl 1 rfl) ?_
                    refine fm_rgi Z G F hf fr_X6_22 d_X6_readInto_127 (fun x127 _ hf => ?_)
                    rw [← hQ]; exact fm_reti Z hr hlk F d_X6_readInto_130 (Prod.mk.inj (Option.some.inj hf)).1 (Prod.mk.inj (Option.some.inj hf)).2
                · have hf := fm_ig c103 hf
                  refine lv_aload_n hx hb d_X6_readInto_106 rfl (lv_at hl 1 rfl) ?_
                  refine fm_rgr Z G F hf fr_X6_9 d_X6_readInto_107 (fun q107 _ hf => ?_)
                  refine lv_aload_n hx hb d_X6_readInto_110 rfl (lv_at hl 1 rfl) ?_
                  refine fm_rgi Z G F hf fr_X6_22 d_X6_readInto_111 (fun x111 _ hf => ?_)
                  refine fm_rld Z G F hf d_X6_readInto_114 (fun x114 _ hf => ?_)
                  refine lv_iconst (v := (-1)) hx hb d_X6_readInto_115 (by decide) ?_
                  refine lv_icmp_ne (tgt := 121) hx hb d_X6_readInto_116 (by decide) (fun c116 => ?_) (fun c116 => ?_)
                  · have hf := fm_ig c116 hf
                    refine lv_iload hx hb d_X6_readInto_121 (lv_at hl 0 rfl) ?_
                    refine lv_if_ne (tgt := 131) hx hb d_X6_readInto_123 (by decide) (fun c123 => ?_) (fun c123 => ?_)
                    · have hf := fm_ig c123 hf
                      obtain ⟨x131, ex131⟩ : ∃ y : Int32, y = a4 + 1 := ⟨_, rfl⟩
                      have hf := fm_let_at ex131 hf
                      refine lv_iinc (v := x131) (lv' := [(4, .int x131), (5, .int x99), (0, .ref (ad r0))]) hx hb d_X6_readInto_131 hl (k := 2) rfl (by rw [ex131]; rfl) (by decide) rfl (fun ls hl => ?_)
                      refine lv_goto (tgt := 66) hx hb d_X6_readInto_134 (by decide) ?_
                      exact (ih).2 r0 x131 S88 _ _ _ F (lv_sub hl [2, 0] rfl) hf
                    · have hf := fm_ip c123 hf
                      refine lv_aload_n hx hb d_X6_readInto_126 rfl (lv_at hl 1 rfl) ?_
                      refine fm_rgi Z G F hf fr_X6_22 d_X6_readInto_127 (fun x127 _ hf => ?_)
                      rw [← hQ]; exact fm_reti Z hr hlk F d_X6_readInto_130 (Prod.mk.inj (Option.some.inj hf)).1 (Prod.mk.inj (Option.some.inj hf)).2
                  · have hf := fm_ip c116 hf
                    refine lv_iconst (v := (-1)) hx hb d_X6_readInto_119 (by decide) ?_
                    rw [← hQ]; exact fm_reti Z hr hlk F d_X6_readInto_120 (Prod.mk.inj (Option.some.inj hf)).1 (Prod.mk.inj (Option.some.inj hf)).2
              · have hf := fm_ig c91 hf
                refine lv_iconst (v := 1) hx hb d_X6_readInto_94 (by decide) ?_
                refine lv_goto (tgt := 99) hx hb d_X6_readInto_95 (by decide) ?_
                refine lv_topi (fun x99 ex99 => ?_)
                have hf := fm_let_at ex99 hf
                refine lv_istore (lv' := [(5, .int x99), (0, .ref (ad r0)), (4, .int a4)]) hx hb d_X6_readInto_99 hl (by decide) rfl (fun ls hl => ?_)
                refine lv_iload hx hb d_X6_readInto_101 (lv_at hl 0 rfl) ?_
                refine lv_if_eq (tgt := 121) hx hb d_X6_readInto_103 (by decide) (fun c103 => ?_) (fun c103 => ?_)
                · have hf := fm_ip c103 hf
                  refine lv_iload hx hb d_X6_readInto_121 (lv_at hl 0 rfl) ?_
                  refine lv_if_ne (tgt := 131) hx hb d_X6_readInto_123 (by decide) (fun c123 => ?_) (fun c123 => ?_)
                  · have hf := fm_ig c123 hf
                    obtain ⟨x131, ex131⟩ : ∃ y : Int32, y = a4 + 1 := ⟨_, rfl⟩
                    have hf := fm_let_at ex131 hf
                    refine lv_iinc (v := x131) (lv' := [(4, .int x131), (5, .int x99), (0, .ref (ad r0))]) hx hb d_X6_readInto_131 hl (k := 2) rfl (by rw [ex131]; rfl) (by decide) rfl (fun ls hl => ?_)
                    refine lv_goto (tgt := 66) hx hb d_X6_readInto_134 (by decide) ?_
                    exact (ih).2 r0 x131 S88 _ _ _ F (lv_sub hl [2, 0] rfl) hf
                  · have hf := fm_ip c123 hf
                    refine lv_aload_n hx hb d_X6_readInto_126 rfl (lv_at hl 1 rfl) ?_
                    refine fm_rgi Z G F hf fr_X6_22 d_X6_readInto_127 (fun x127 _ hf => ?_)
                    rw [← hQ]; exact fm_reti Z hr hlk F d_X6_readInto_130 (Prod.mk.inj (Option.some.inj hf)).1 (Prod.mk.inj (Option.some.inj hf)).2
                · have hf := fm_ig c103 hf
                  refine lv_aload_n hx hb d_X6_readInto_106 rfl (lv_at hl 1 rfl) ?_
                  refine fm_rgr Z G F hf fr_X6_9 d_X6_readInto_107 (fun q107 _ hf => ?_)
                  refine lv_aload_n hx hb d_X6_readInto_110 rfl (lv_at hl 1 rfl) ?_
                  refine fm_rgi Z G F hf fr_X6_22 d_X6_readInto_111 (fun x111 _ hf => ?_)
                  refine fm_rld Z G F hf d_X6_readInto_114 (fun x114 _ hf => ?_)
                  refine lv_iconst (v := (-1)) hx hb d_X6_readInto_115 (by decide) ?_
                  refine lv_icmp_ne (tgt := 121) hx hb d_X6_readInto_116 (by decide) (fun c116 => ?_) (fun c116 => ?_)
                  · have hf := fm_ig c116 hf
                    refine lv_iload hx hb d_X6_readInto_121 (lv_at hl 0 rfl) ?_
                    refine lv_if_ne (tgt := 131) hx hb d_X6_readInto_123 (by decide) (fun c123 => ?_) (fun c123 => ?_)
                    · have hf := fm_ig c123 hf
                      obtain ⟨x131, ex131⟩ : ∃ y : Int32, y = a4 + 1 := ⟨_, rfl⟩
                      have hf := fm_let_at ex131 hf
                      refine lv_iinc (v := x131) (lv' := [(4, .int x131), (5, .int x99), (0, .ref (ad r0))]) hx hb d_X6_readInto_131 hl (k := 2) rfl (by rw [ex131]; rfl) (by decide) rfl (fun ls hl => ?_)
                      refine lv_goto (tgt := 66) hx hb d_X6_readInto_134 (by decide) ?_
                      exact (ih).2 r0 x131 S88 _ _ _ F (lv_sub hl [2, 0] rfl) hf
                    · have hf := fm_ip c123 hf
                      refine lv_aload_n hx hb d_X6_readInto_126 rfl (lv_at hl 1 rfl) ?_
                      refine fm_rgi Z G F hf fr_X6_22 d_X6_readInto_127 (fun x127 _ hf => ?_)
                      rw [← hQ]; exact fm_reti Z hr hlk F d_X6_readInto_130 (Prod.mk.inj (Option.some.inj hf)).1 (Prod.mk.inj (Option.some.inj hf)).2
                  · have hf := fm_ip c116 hf
                    refine lv_iconst (v := (-1)) hx hb d_X6_readInto_119 (by decide) ?_
                    rw [← hQ]; exact fm_reti Z hr hlk F d_X6_readInto_120 (Prod.mk.inj (Option.some.inj hf)).1 (Prod.mk.inj (Option.some.inj hf)).2
  unfold m_X6_readInto at hf
  refine lv_aload_n hx hb d_X6_readInto_0 rfl (lv_at hl 2 rfl) ?_
  obtain ⟨hk1, hf⟩ := fm_some hf
  refine fm_rcr G F hf (fun r ho => fm_runV (k := 0) Z G F N (As := []) (rest := []) (c_X8_size hE ho _) (by rw [eq_of_beq hk1]; decide) (by rw [eq_of_beq hk1]; rfl) kw_208 kw_194 kw_195 kw_3 kw_196 yd_X8_size rfl (by decide) (by decide) hl.1 (Nat.le_of_ble_eq_true rfl) d_X6_readInto_1 (Nat.le_refl 0) (Nat.le_refl 0)) (fun x1 H locs _ F hf => ?_)
  refine lv_bipush (v := 100) hx hb d_X6_readInto_4 (by decide) ?_
  refine va_mmin hx hb (hml.trans hl.1.symm) hown (hts _ (fm_in kw_209 rfl)) (hts _ (fm_in kw_198 rfl)) (hts _ (fm_in kw_4 rfl)) (hts _ (fm_in kw_199 rfl)) (by decide) (Nat.le_of_ble_eq_true rfl) (by decide) (by decide) d_X6_readInto_6 ?_
  refine lv_topi (fun x6 ex6 => ?_)
  have hf := fm_let_at ex6 hf
  refine lv_istore_n (lv' := [(3, .int x6), (0, .ref (ad r0)), (1, .ref (ad r1)), (2, .ref (ad r2))]) hx hb d_X6_readInto_9 rfl hl (by decide) rfl (fun ls hl => ?_)
  refine lv_iconst (v := 0) hx hb d_X6_readInto_10 (by decide) ?_
  refine lv_topi (fun x11 ex11 => ?_)
  have hf := fm_let_at ex11 hf
  refine lv_istore (lv' := [(4, .int x11), (3, .int x6), (0, .ref (ad r0)), (1, .ref (ad r1)), (2, .ref (ad r2))]) hx hb d_X6_readInto_11 hl (by decide) rfl (fun ls hl => ?_)
  exact (hL fm_LF).1 r0 r1 r2 x6 x11 S _ _ _ F (lv_sub hl [2, 3, 4, 1, 0] rfl) hf
theorem d_X11_town_0 : decode prog_1_method_3_code 0 = .ok (.aload_n 0, 1) := by decide +kernel
theorem d_X11_town_1 : decode prog_1_method_3_code 1 = .ok (.getfield 38, 3) := by decide +kernel
theorem d_X11_town_4 : decode prog_1_method_3_code 4 = .ok (.iconst 5, 1) := by decide +kernel
theorem d_X11_town_5 : decode prog_1_method_3_code 5 = .ok (.if_icmp .lt 6, 3) := by decide +kernel
theorem d_X11_town_8 : decode prog_1_method_3_code 8 = .ok (.bipush (-4), 2) := by decide +kernel
theorem d_X11_town_10 : decode prog_1_method_3_code 10 = .ok (.ireturn, 1) := by decide +kernel
theorem d_X11_town_11 : decode prog_1_method_3_code 11 = .ok (.aload_n 0, 1) := by decide +kernel
theorem d_X11_town_12 : decode prog_1_method_3_code 12 = .ok (.getfield 53, 3) := by decide +kernel
theorem d_X11_town_15 : decode prog_1_method_3_code 15 = .ok (.aload_n 0, 1) := by decide +kernel
theorem d_X11_town_16 : decode prog_1_method_3_code 16 = .ok (.getfield 34, 3) := by decide +kernel
theorem d_X11_town_19 : decode prog_1_method_3_code 19 = .ok (.aload_n 0, 1) := by decide +kernel
theorem d_X11_town_20 : decode prog_1_method_3_code 20 = .ok (.getfield 38, 3) := by decide +kernel
theorem d_X11_town_23 : decode prog_1_method_3_code 23 = .ok (.aaload, 1) := by decide +kernel
theorem d_X11_town_24 : decode prog_1_method_3_code 24 = .ok (.aload_n 0, 1) := by decide +kernel
theorem d_X11_town_25 : decode prog_1_method_3_code 25 = .ok (.getfield 46, 3) := by decide +kernel
theorem d_X11_town_28 : decode prog_1_method_3_code 28 = .ok (.invokevirtual 101, 3) := by decide +kernel
theorem d_X11_town_31 : decode prog_1_method_3_code 31 = .ok (.istore_n 1, 1) := by decide +kernel
theorem d_X11_town_32 : decode prog_1_method_3_code 32 = .ok (.aload_n 0, 1) := by decide +kernel
theorem d_X11_town_33 : decode prog_1_method_3_code 33 = .ok (.getfield 46, 3) := by decide +kernel
theorem d_X11_town_36 : decode prog_1_method_3_code 36 = .ok (.invokevirtual 105, 3) := by decide +kernel
theorem d_X11_town_39 : decode prog_1_method_3_code 39 = .ok (.pop, 1) := by decide +kernel
theorem d_X11_town_40 : decode prog_1_method_3_code 40 = .ok (.iload_n 1, 1) := by decide +kernel
theorem d_X11_town_41 : decode prog_1_method_3_code 41 = .ok (.iconst (-1), 1) := by decide +kernel
theorem d_X11_town_42 : decode prog_1_method_3_code 42 = .ok (.if_icmp .eq 8, 3) := by decide +kernel
theorem d_X11_town_45 : decode prog_1_method_3_code 45 = .ok (.bipush (-10), 2) := by decide +kernel
theorem d_X11_town_47 : decode prog_1_method_3_code 47 = .ok (.iload_n 1, 1) := by decide +kernel
theorem d_X11_town_48 : decode prog_1_method_3_code 48 = .ok (.isub, 1) := by decide +kernel
theorem d_X11_town_49 : decode prog_1_method_3_code 49 = .ok (.ireturn, 1) := by decide +kernel
theorem d_X11_town_50 : decode prog_1_method_3_code 50 = .ok (.aload_n 0, 1) := by decide +kernel
theorem d_X11_town_51 : decode prog_1_method_3_code 51 = .ok (.dup, 1) := by decide +kernel
theorem d_X11_town_52 : decode prog_1_method_3_code 52 = .ok (.getfield 38, 3) := by decide +kernel
theorem d_X11_town_55 : decode prog_1_method_3_code 55 = .ok (.iconst 1, 1) := by decide +kernel
theorem d_X11_town_56 : decode prog_1_method_3_code 56 = .ok (.iadd, 1) := by decide +kernel
theorem d_X11_town_57 : decode prog_1_method_3_code 57 = .ok (.putfield 38, 3) := by decide +kernel
theorem d_X11_town_60 : decode prog_1_method_3_code 60 = .ok (.aload_n 0, 1) := by decide +kernel
theorem d_X11_town_61 : decode prog_1_method_3_code 61 = .ok (.getfield 38, 3) := by decide +kernel
theorem d_X11_town_64 : decode prog_1_method_3_code 64 = .ok (.iconst 1, 1) := by decide +kernel
theorem d_X11_town_65 : decode prog_1_method_3_code 65 = .ok (.isub, 1) := by decide +kernel
theorem d_X11_town_66 : decode prog_1_method_3_code 66 = .ok (.ireturn, 1) := by decide +kernel
def m_X11_town (kap lam : Nat → Nat) (r0 : Nat) (S : fm_M) : Option (Int32 × fm_M) :=
  fm_gi kap 11 r0 5 S fun x1 =>
  if x1 < 5 then (
   fm_gr kap 11 r0 7 S fun q12 =>
   fm_gr kap 11 r0 4 S fun q16 =>
   fm_gi kap 11 r0 5 S fun x20 =>
   fm_lr kap lam 17 q16 x20 S fun q23 =>
   fm_gr kap 11 r0 6 S fun q25 =>
   fm_ck (kap q12 == 6) <|
   fm_bi (m_X6_readInto kap lam q12 q23 q25 S) fun x28 S28 =>
   fm_gr kap 11 r0 6 S28 fun q33 =>
   fm_ck (kap q33 == 8) <|
   fm_bi (m_X8_clear kap lam q33 S28) fun x36 S36 =>
   if x28 = (-1) then (
    fm_gi kap 11 r0 5 S36 fun x52 =>
    fm_pi kap 11 r0 5 S36 (x52 + 1) fun S57 =>
    fm_gi kap 11 r0 5 S57 fun x61 =>
    some (x61 - 1, S57)
   ) else (
    some ((-10) - x28, S36)
   )
  ) else (
   some ((-4), S)
  )
set_option maxHeartbeats 4000000 in
set_option maxRecDepth 100000 in
theorem c_X11_town {l : Launch} {D : va_G} {ids kap lam : Nat → Nat} {RL : List Nat} {ad sk sv : Nat → Nat} {S : fm_M} {r0 : Nat} {r : Int32} {u : fm_M} (hE : fm_E kap RL ad) (hf : m_X11_town kap lam r0 S = some (r, u)) (sz : Nat) : fm_MI l y_X11_town prog_1_method_3_code 2 (Option.some Jvm.ClassFile.FieldType.int) 65 D ids kap lam RL ad sk sv S [.ref (ad r0)] sz r u := by
  refine fm_open rfl hE (Nat.le_of_ble_eq_true rfl) (fun p e s m args below meth c ls Z hr hlk G F N hl hsz => ?_)
  subst hsz
  obtain ⟨hx, hb, hml, hown, hts⟩ := id Z
  have hl : lv_has ls 2 [(0, .ref (ad r0))] := hl
  unfold m_X11_town at hf
  refine lv_aload_n hx hb d_X11_town_0 rfl (lv_at hl 0 rfl) ?_
  refine fm_rgi Z G F hf fr_X11_38 d_X11_town_1 (fun x1 _ hf => ?_)
  refine lv_iconst (v := 5) hx hb d_X11_town_4 (by decide) ?_
  refine lv_icmp_lt (tgt := 11) hx hb d_X11_town_5 (by decide) (fun c5 => ?_) (fun c5 => ?_)
  · have hf := fm_ip c5 hf
    refine lv_aload_n hx hb d_X11_town_11 rfl (lv_at hl 0 rfl) ?_
    refine fm_rgr Z G F hf fr_X11_53 d_X11_town_12 (fun q12 _ hf => ?_)
    refine lv_aload_n hx hb d_X11_town_15 rfl (lv_at hl 0 rfl) ?_
    refine fm_rgr Z G F hf fr_X11_34 d_X11_town_16 (fun q16 _ hf => ?_)
    refine lv_aload_n hx hb d_X11_town_19 rfl (lv_at hl 0 rfl) ?_
    refine fm_rgi Z G F hf fr_X11_38 d_X11_town_20 (fun x20 _ hf => ?_)
    refine fm_rlr Z G F (by decide) (by decide) hf d_X11_town_23 (fun q23 _ hf => ?_)
    refine lv_aload_n hx hb d_X11_town_24 rfl (lv_at hl 0 rfl) ?_
    refine fm_rgr Z G F hf fr_X11_46 d_X11_town_25 (fun q25 _ hf => ?_)
    obtain ⟨hk28, hf⟩ := fm_some hf
    refine fm_rci G F hf (fun r u ho => fm_runV (k := 2) Z G F N (As := [.ref (ad q23), .ref (ad q25)]) (rest := []) (c_X6_readInto hE ho _) (by rw [eq_of_beq hk28]; decide) (by rw [eq_of_beq hk28]; rfl) kw_204 kw_205 kw_206 kw_5 kw_207 yd_X6_readInto rfl (by decide) (by decide) hl.1 (Nat.le_of_ble_eq_true rfl) d_X11_town_28 (Nat.le_refl 0) (Nat.le_refl 0)) (fun x28 S28 H locs _ F hf => ?_)
    refine lv_istore_n (lv' := [(1, .int x28), (0, .ref (ad r0))]) hx hb d_X11_town_31 rfl hl (by decide) rfl (fun ls hl => ?_)
    refine lv_aload_n hx hb d_X11_town_32 rfl (lv_at hl 1 rfl) ?_
    refine fm_rgr Z G F hf fr_X11_46 d_X11_town_33 (fun q33 _ hf => ?_)
    obtain ⟨hk36, hf⟩ := fm_some hf
    refine fm_rci G F hf (fun r u ho => fm_runV (k := 0) Z G F N (As := []) (rest := []) (c_X8_clear hE ho _) (by rw [eq_of_beq hk36]; decide) (by rw [eq_of_beq hk36]; rfl) kw_315 kw_316 kw_317 kw_3 kw_318 yd_X8_clear rfl (by decide) (by decide) hl.1 (Nat.le_of_ble_eq_true rfl) d_X11_town_36 (Nat.le_refl 0) (Nat.le_refl 0)) (fun x36 S36 H locs _ F hf => ?_)
    refine lv_pop hx hb d_X11_town_39 rfl ?_
    refine lv_iload_n hx hb d_X11_town_40 rfl (lv_at hl 0 rfl) ?_
    refine lv_iconst (v := (-1)) hx hb d_X11_town_41 (by decide) ?_
    refine lv_icmp_eq (tgt := 50) hx hb d_X11_town_42 (by decide) (fun c42 => ?_) (fun c42 => ?_)
    · have hf := fm_ip c42 hf
      refine lv_aload_n hx hb d_X11_town_50 rfl (lv_at hl 1 rfl) ?_
      refine lv_dup hx hb d_X11_town_51 rfl ?_
      refine fm_rgi Z G F hf fr_X11_38 d_X11_town_52 (fun x52 _ hf => ?_)
      refine lv_iconst (v := 1) hx hb d_X11_town_55 (by decide) ?_
      refine lv_iadd hx hb d_X11_town_56 ?_
      refine fm_rpi Z G F hf fs_X11_38 d_X11_town_57 (fun c h => by have h := eq_of_beq (show (c == 11) = true from h); subst h; rfl) (fun S57 H locs _ F hf => ?_)
      refine lv_aload_n hx hb d_X11_town_60 rfl (lv_at hl 1 rfl) ?_
      refine fm_rgi Z G F hf fr_X11_38 d_X11_town_61 (fun x61 _ hf => ?_)
      refine lv_iconst (v := 1) hx hb d_X11_town_64 (by decide) ?_
      refine lv_isub hx hb d_X11_town_65 ?_
      exact fm_reti Z hr hlk F d_X11_town_66 (Prod.mk.inj (Option.some.inj hf)).1 (Prod.mk.inj (Option.some.inj hf)).2
    · have hf := fm_ig c42 hf
      refine lv_bipush (v := (-10)) hx hb d_X11_town_45 (by decide) ?_
      refine lv_iload_n hx hb d_X11_town_47 rfl (lv_at hl 0 rfl) ?_
      refine lv_isub hx hb d_X11_town_48 ?_
      exact fm_reti Z hr hlk F d_X11_town_49 (Prod.mk.inj (Option.some.inj hf)).1 (Prod.mk.inj (Option.some.inj hf)).2
  · have hf := fm_ig c5 hf
    refine lv_bipush (v := (-4)) hx hb d_X11_town_8 (by decide) ?_
    exact fm_reti Z hr hlk F d_X11_town_10 (Prod.mk.inj (Option.some.inj hf)).1 (Prod.mk.inj (Option.some.inj hf)).2
