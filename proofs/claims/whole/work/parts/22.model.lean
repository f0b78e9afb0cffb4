/-! models and contracts (tool/gen.py prints them) -/
theorem d_X12_see_0 : decode prog_14_method_56_code 0 = .ok (.iload_n 1, 1) := by decide +kernel
theorem d_X12_see_1 : decode prog_14_method_56_code 1 = .ok (.iconst (-1), 1) := by decide +kernel
theorem d_X12_see_2 : decode prog_14_method_56_code 2 = .ok (.if_icmp .ne 13, 3) := by decide +kernel
theorem d_X12_see_5 : decode prog_14_method_56_code 5 = .ok (.aload_n 0, 1) := by decide +kernel
theorem d_X12_see_6 : decode prog_14_method_56_code 6 = .ok (.getfield 9, 3) := by decide +kernel
theorem d_X12_see_9 : decode prog_14_method_56_code 9 = .ok (.bipush 23, 2) := by decide +kernel
theorem d_X12_see_11 : decode prog_14_method_56_code 11 = .ok (.iconst 0, 1) := by decide +kernel
theorem d_X12_see_12 : decode prog_14_method_56_code 12 = .ok (.iastore, 1) := by decide +kernel
theorem d_X12_see_13 : decode prog_14_method_56_code 13 = .ok (.iconst 0, 1) := by decide +kernel
theorem d_X12_see_14 : decode prog_14_method_56_code 14 = .ok (.ireturn, 1) := by decide +kernel
theorem d_X12_see_15 : decode prog_14_method_56_code 15 = .ok (.aload_n 0, 1) := by decide +kernel
theorem d_X12_see_16 : decode prog_14_method_56_code 16 = .ok (.iload_n 1, 1) := by decide +kernel
theorem d_X12_see_17 : decode prog_14_method_56_code 17 = .ok (.invokevirtual 140, 3) := by decide +kernel
theorem d_X12_see_20 : decode prog_14_method_56_code 20 = .ok (.ifCond .ne 5, 3) := by decide +kernel
theorem d_X12_see_23 : decode prog_14_method_56_code 23 = .ok (.iconst (-1), 1) := by decide +kernel
theorem d_X12_see_24 : decode prog_14_method_56_code 24 = .ok (.ireturn, 1) := by decide +kernel
theorem d_X12_see_25 : decode prog_14_method_56_code 25 = .ok (.iload_n 2, 1) := by decide +kernel
theorem d_X12_see_26 : decode prog_14_method_56_code 26 = .ok (.iconst 0, 1) := by decide +kernel
theorem d_X12_see_27 : decode prog_14_method_56_code 27 = .ok (.bipush 20, 2) := by decide +kernel
theorem d_X12_see_29 : decode prog_14_method_56_code 29 = .ok (.invokestatic 44, 3) := by decide +kernel
theorem d_X12_see_32 : decode prog_14_method_56_code 32 = .ok (.ifCond .eq 10, 3) := by decide +kernel
theorem d_X12_see_35 : decode prog_14_method_56_code 35 = .ok (.iload_n 3, 1) := by decide +kernel
theorem d_X12_see_36 : decode prog_14_method_56_code 36 = .ok (.invokestatic 187, 3) := by decide +kernel
theorem d_X12_see_39 : decode prog_14_method_56_code 39 = .ok (.ifCond .ne 6, 3) := by decide +kernel
theorem d_X12_see_42 : decode prog_14_method_56_code 42 = .ok (.bipush (-2), 2) := by decide +kernel
theorem d_X12_see_44 : decode prog_14_method_56_code 44 = .ok (.ireturn, 1) := by decide +kernel
theorem d_X12_see_45 : decode prog_14_method_56_code 45 = .ok (.aload_n 0, 1) := by decide +kernel
theorem d_X12_see_46 : decode prog_14_method_56_code 46 = .ok (.getfield 9, 3) := by decide +kernel
theorem d_X12_see_49 : decode prog_14_method_56_code 49 = .ok (.bipush 23, 2) := by decide +kernel
theorem d_X12_see_51 : decode prog_14_method_56_code 51 = .ok (.iaload, 1) := by decide +kernel
theorem d_X12_see_52 : decode prog_14_method_56_code 52 = .ok (.iconst 5, 1) := by decide +kernel
theorem d_X12_see_53 : decode prog_14_method_56_code 53 = .ok (.if_icmp .ne 6, 3) := by decide +kernel
theorem d_X12_see_56 : decode prog_14_method_56_code 56 = .ok (.bipush (-4), 2) := by decide +kernel
theorem d_X12_see_58 : decode prog_14_method_56_code 58 = .ok (.ireturn, 1) := by decide +kernel
theorem d_X12_see_59 : decode prog_14_method_56_code 59 = .ok (.aload_n 0, 1) := by decide +kernel
theorem d_X12_see_60 : decode prog_14_method_56_code 60 = .ok (.getfield 9, 3) := by decide +kernel
theorem d_X12_see_63 : decode prog_14_method_56_code 63 = .ok (.bipush 64, 2) := by decide +kernel
theorem d_X12_see_65 : decode prog_14_method_56_code 65 = .ok (.aload_n 0, 1) := by decide +kernel
theorem d_X12_see_66 : decode prog_14_method_56_code 66 = .ok (.getfield 9, 3) := by decide +kernel
theorem d_X12_see_69 : decode prog_14_method_56_code 69 = .ok (.bipush 23, 2) := by decide +kernel
theorem d_X12_see_71 : decode prog_14_method_56_code 71 = .ok (.iaload, 1) := by decide +kernel
theorem d_X12_see_72 : decode prog_14_method_56_code 72 = .ok (.iadd, 1) := by decide +kernel
theorem d_X12_see_73 : decode prog_14_method_56_code 73 = .ok (.iload_n 1, 1) := by decide +kernel
theorem d_X12_see_74 : decode prog_14_method_56_code 74 = .ok (.iastore, 1) := by decide +kernel
theorem d_X12_see_75 : decode prog_14_method_56_code 75 = .ok (.aload_n 0, 1) := by decide +kernel
theorem d_X12_see_76 : decode prog_14_method_56_code 76 = .ok (.getfield 9, 3) := by decide +kernel
theorem d_X12_see_79 : decode prog_14_method_56_code 79 = .ok (.bipush 69, 2) := by decide +kernel
theorem d_X12_see_81 : decode prog_14_method_56_code 81 = .ok (.aload_n 0, 1) := by decide +kernel
theorem d_X12_see_82 : decode prog_14_method_56_code 82 = .ok (.getfield 9, 3) := by decide +kernel
theorem d_X12_see_85 : decode prog_14_method_56_code 85 = .ok (.bipush 23, 2) := by decide +kernel
theorem d_X12_see_87 : decode prog_14_method_56_code 87 = .ok (.iaload, 1) := by decide +kernel
theorem d_X12_see_88 : decode prog_14_method_56_code 88 = .ok (.iadd, 1) := by decide +kernel
theorem d_X12_see_89 : decode prog_14_method_56_code 89 = .ok (.iload_n 2, 1) := by decide +kernel
theorem d_X12_see_90 : decode prog_14_method_56_code 90 = .ok (.iastore, 1) := by decide +kernel
theorem d_X12_see_91 : decode prog_14_method_56_code 91 = .ok (.aload_n 0, 1) := by decide +kernel
theorem d_X12_see_92 : decode prog_14_method_56_code 92 = .ok (.getfield 9, 3) := by decide +kernel
theorem d_X12_see_95 : decode prog_14_method_56_code 95 = .ok (.bipush 74, 2) := by decide +kernel
theorem d_X12_see_97 : decode prog_14_method_56_code 97 = .ok (.aload_n 0, 1) := by decide +kernel
theorem d_X12_see_98 : decode prog_14_method_56_code 98 = .ok (.getfield 9, 3) := by decide +kernel
theorem d_X12_see_101 : decode prog_14_method_56_code 101 = .ok (.bipush 23, 2) := by decide +kernel
theorem d_X12_see_103 : decode prog_14_method_56_code 103 = .ok (.iaload, 1) := by decide +kernel
theorem d_X12_see_104 : decode prog_14_method_56_code 104 = .ok (.iadd, 1) := by decide +kernel
theorem d_X12_see_105 : decode prog_14_method_56_code 105 = .ok (.iload_n 3, 1) := by decide +kernel
theorem d_X12_see_106 : decode prog_14_method_56_code 106 = .ok (.iastore, 1) := by decide +kernel
theorem d_X12_see_107 : decode prog_14_method_56_code 107 = .ok (.aload_n 0, 1) := by decide +kernel
theorem d_X12_see_108 : decode prog_14_method_56_code 108 = .ok (.getfield 9, 3) := by decide +kernel
theorem d_X12_see_111 : decode prog_14_method_56_code 111 = .ok (.bipush 23, 2) := by decide +kernel
theorem d_X12_see_113 : decode prog_14_method_56_code 113 = .ok (.dup2, 1) := by decide +kernel
theorem d_X12_see_114 : decode prog_14_method_56_code 114 = .ok (.iaload, 1) := by decide +kernel
theorem d_X12_see_115 : decode prog_14_method_56_code 115 = .ok (.iconst 1, 1) := by decide +kernel
theorem d_X12_see_116 : decode prog_14_method_56_code 116 = .ok (.iadd, 1) := by decide +kernel
theorem d_X12_see_117 : decode prog_14_method_56_code 117 = .ok (.iastore, 1) := by decide +kernel
theorem d_X12_see_118 : decode prog_14_method_56_code 118 = .ok (.aload_n 0, 1) := by decide +kernel
theorem d_X12_see_119 : decode prog_14_method_56_code 119 = .ok (.getfield 9, 3) := by decide +kernel
theorem d_X12_see_122 : decode prog_14_method_56_code 122 = .ok (.bipush 23, 2) := by decide +kernel
theorem d_X12_see_124 : decode prog_14_method_56_code 124 = .ok (.iaload, 1) := by decide +kernel
theorem d_X12_see_125 : decode prog_14_method_56_code 125 = .ok (.ireturn, 1) := by decide +kernel
def m_X12_see (kap lam : Nat → Nat) (r0 : Nat) (a1 : Int32) (a2 : Int32) (a3 : Int32) (S : fm_M) : Option (Int32 × fm_M) :=
  if a1 = (-1) then (
   fm_gr kap 12 r0 1 S fun q6 =>
   fm_st kap lam q6 23 0 S fun S12 =>
   some (0, S12)
  ) else (
   fm_ck (kap r0 == 12) <|
   fm_b1 (m_X12_isPane kap lam r0 a1 S) fun x17 =>
   if x17 = 0 then (
    some ((-1), S)
   ) else (
    fm_b1 (m_X12_in kap lam a2 0 20 S) fun x29 =>
    if x29 = 0 then (
     some ((-2), S)
    ) else (
     fm_b1 (m_X12_isIce kap lam a3 S) fun x36 =>
     if x36 = 0 then (
      some ((-2), S)
     ) else (
      fm_gr kap 12 r0 1 S fun q46 =>
      fm_ld kap lam 13 q46 23 S fun x51 =>
      if x51 = 5 then (
       some ((-4), S)
      ) else (
       fm_gr kap 12 r0 1 S fun q60 =>
       fm_gr kap 12 r0 1 S fun q66 =>
       fm_ld kap lam 13 q66 23 S fun x71 =>
       fm_st kap lam q60 (64 + x71) a1 S fun S74 =>
       fm_gr kap 12 r0 1 S74 fun q76 =>
       fm_gr kap 12 r0 1 S74 fun q82 =>
       fm_ld kap lam 13 q82 23 S74 fun x87 =>
       fm_st kap lam q76 (69 + x87) a2 S74 fun S90 =>
       fm_gr kap 12 r0 1 S90 fun q92 =>
       fm_gr kap 12 r0 1 S90 fun q98 =>
       fm_ld kap lam 13 q98 23 S90 fun x103 =>
       fm_st kap lam q92 (74 + x103) a3 S90 fun S106 =>
       fm_gr kap 12 r0 1 S106 fun q108 =>
       fm_ld kap lam 13 q108 23 S106 fun x114 =>
       fm_st kap lam q108 23 (x114 + 1) S106 fun S117 =>
       fm_gr kap 12 r0 1 S117 fun q119 =>
       fm_ld kap lam 13 q119 23 S117 fun x124 =>
       some (x124, S117)
      )
     )
    )
   )
  )
set_option maxHeartbeats 4000000 in
set_option maxRecDepth 100000 in
theorem c_X12_see {l : Launch} {D : va_G} {ids kap lam : Nat → Nat} {RL : List Nat} {ad sk sv : Nat → Nat} {S : fm_M} {r0 : Nat} {a1 : Int32} {a2 : Int32} {a3 : Int32} {r : Int32} {u : fm_M} (hE : fm_E kap RL ad) (hf : m_X12_see kap lam r0 a1 a2 a3 S = some (r, u)) (sz : Nat) : fm_MI l y_X12_see prog_14_method_56_code 4 (Option.some Jvm.ClassFile.FieldType.int) 2 D ids kap lam RL ad sk sv S [.ref (ad r0), .int a1, .int a2, .int a3] sz r u := by
  refine fm_open rfl hE (Nat.le_of_ble_eq_true rfl) (fun p e s m args below meth c ls Z hr hlk G F N hl hsz => ?_)
  subst hsz
  obtain ⟨hx, hb, hml, hown, hts⟩ := id Z
  have hl : lv_has ls 4 [(0, .ref (ad r0)), (1, .int a1), (2, .int a2), (3, .int a3)] := hl
  unfold m_X12_see at hf
  refine lv_iload_n hx hb d_X12_see_0 rfl (lv_at hl 1 rfl) ?_
  refine lv_iconst (v := (-1)) hx hb d_X12_see_1 (by decide) ?_
  refine lv_icmp_ne (tgt := 15) hx hb d_X12_see_2 (by decide) (fun c2 => ?_) (fun c2 => ?_)
  · have hf := fm_ig c2 hf
    refine lv_aload_n hx hb d_X12_see_15 rfl (lv_at hl 0 rfl) ?_
    refine lv_iload_n hx hb d_X12_see_16 rfl (lv_at hl 1 rfl) ?_
    obtain ⟨hk17, hf⟩ := fm_some hf
    refine fm_rcr G F hf (fun r ho => fm_runV (k := 1) Z G F N (As := [.int a1]) (rest := []) (c_X12_isPane hE ho _) (by rw [eq_of_beq hk17]; decide) (by rw [eq_of_beq hk17]; rfl) kw_1075 kw_1077 kp_37 kw_6 kw_1078 yd_X12_isPane rfl (by decide) (by decide) hl.1 (Nat.le_of_ble_eq_true rfl) d_X12_see_17 (Nat.le_refl 0) (Nat.le_refl 0)) (fun x17 H locs _ F hf => ?_)
    refine lv_if_ne (tgt := 25) hx hb d_X12_see_20 (by decide) (fun c20 => ?_) (fun c20 => ?_)
    · have hf := fm_ig c20 hf
      refine lv_iload_n hx hb d_X12_see_25 rfl (lv_at hl 2 rfl) ?_
      refine lv_iconst (v := 0) hx hb d_X12_see_26 (by decide) ?_
      refine lv_bipush (v := 20) hx hb d_X12_see_27 (by decide) ?_
      refine fm_rcr G F hf (fun r ho => fm_runS (k := 3) Z G F N (As := [.int a2, .int 0, .int 20]) (rest := []) (c_X12_in hE ho _) kw_1004 kw_1005 kw_6 kw_1006 yd_X12_in rfl (by decide) (by decide) hl.1 (Nat.le_of_ble_eq_true rfl) d_X12_see_29 (Nat.le_refl 0) (Nat.le_refl 0)) (fun x29 H locs _ F hf => ?_)
      refine lv_if_eq (tgt := 42) hx hb d_X12_see_32 (by decide) (fun c32 => ?_) (fun c32 => ?_)
      · have hf := fm_ip c32 hf
        refine lv_bipush (v := (-2)) hx hb d_X12_see_42 (by decide) ?_
        exact fm_reti Z hr hlk F d_X12_see_44 (Prod.mk.inj (Option.some.inj hf)).1 (Prod.mk.inj (Option.some.inj hf)).2
      · have hf := fm_ig c32 hf
        refine lv_iload_n hx hb d_X12_see_35 rfl (lv_at hl 3 rfl) ?_
        refine fm_rcr G F hf (fun r ho => fm_runS (k := 1) Z G F N (As := [.int a3]) (rest := []) (c_X12_isIce hE ho _) kw_1197 kw_1198 kw_6 kw_1199 yd_X12_isIce rfl (by decide) (by decide) hl.1 (Nat.le_of_ble_eq_true rfl) d_X12_see_36 (Nat.le_refl 0) (Nat.le_refl 0)) (fun x36 H locs _ F hf => ?_)
        refine lv_if_ne (tgt := 45) hx hb d_X12_see_39 (by decide) (fun c39 => ?_) (fun c39 => ?_)
        · have hf := fm_ig c39 hf
          refine lv_aload_n hx hb d_X12_see_45 rfl (lv_at hl 0 rfl) ?_
          refine fm_rgr Z G F hf fr_X12_9 d_X12_see_46 (fun q46 _ hf => ?_)
          refine lv_bipush (v := 23) hx hb d_X12_see_49 (by decide) ?_
          refine fm_rld Z G F hf d_X12_see_51 (fun x51 _ hf => ?_)
          refine lv_iconst (v := 5) hx hb d_X12_see_52 (by decide) ?_
          refine lv_icmp_ne (tgt := 59) hx hb d_X12_see_53 (by decide) (fun c53 => ?_) (fun c53 => ?_)
          · have hf := fm_ig c53 hf
            refine lv_aload_n hx hb d_X12_see_59 rfl (lv_at hl 0 rfl) ?_
            refine fm_rgr Z G F hf fr_X12_9 d_X12_see_60 (fun q60 _ hf => ?_)
            refine lv_bipush (v := 64) hx hb d_X12_see_63 (by decide) ?_
            refine lv_aload_n hx hb d_X12_see_65 rfl (lv_at hl 0 rfl) ?_
            refine fm_rgr Z G F hf fr_X12_9 d_X12_see_66 (fun q66 _ hf => ?_)
            refine lv_bipush (v := 23) hx hb d_X12_see_69 (by decide) ?_
            refine fm_rld Z G F hf d_X12_see_71 (fun x71 _ hf => ?_)
            refine lv_iadd hx hb d_X12_see_72 ?_
            refine lv_iload_n hx hb d_X12_see_73 rfl (lv_at hl 1 rfl) ?_
            refine fm_rst Z G F hf d_X12_see_74 (fun S74 H locs _ F hf => ?_)
            refine lv_aload_n hx hb d_X12_see_75 rfl (lv_at hl 0 rfl) ?_
            refine fm_rgr Z G F hf fr_X12_9 d_X12_see_76 (fun q76 _ hf => ?_)
            refine lv_bipush (v := 69) hx hb d_X12_see_79 (by decide) ?_
            refine lv_aload_n hx hb d_X12_see_81 rfl (lv_at hl 0 rfl) ?_
            refine fm_rgr Z G F hf fr_X12_9 d_X12_see_82 (fun q82 _ hf => ?_)
            refine lv_bipush (v := 23) hx hb d_X12_see_85 (by decide) ?_
            refine fm_rld Z G F hf d_X12_see_87 (fun x87 _ hf => ?_)
            refine lv_iadd hx hb d_X12_see_88 ?_
            refine lv_iload_n hx hb d_X12_see_89 rfl (lv_at hl 2 rfl) ?_
            refine fm_rst Z G F hf d_X12_see_90 (fun S90 H locs _ F hf => ?_)
            refine lv_aload_n hx hb d_X12_see_91 rfl (lv_at hl 0 rfl) ?_
            refine fm_rgr Z G F hf fr_X12_9 d_X12_see_92 (fun q92 _ hf => ?_)
            refine lv_bipush (v := 74) hx hb d_X12_see_95 (by decide) ?_
            refine lv_aload_n hx hb d_X12_see_97 rfl (lv_at hl 0 rfl) ?_
            refine fm_rgr Z G F hf fr_X12_9 d_X12_see_98 (fun q98 _ hf => ?_)
            refine lv_bipush (v := 23) hx hb d_X12_see_101 (by decide) ?_
            refine fm_rld Z G F hf d_X12_see_103 (fun x103 _ hf => ?_)
            refine lv_iadd hx hb d_X12_see_104 ?_
            refine lv_iload_n hx hb d_X12_see_105 rfl (lv_at hl 3 rfl) ?_
            refine fm_rst Z G F hf d_X12_see_106 (fun S106 H locs _ F hf => ?_)
            refine lv_aload_n hx hb d_X12_see_107 rfl (lv_at hl 0 rfl) ?_
            refine fm_rgr Z G F hf fr_X12_9 d_X12_see_108 (fun q108 _ hf => ?_)
            refine lv_bipush (v := 23) hx hb d_X12_see_111 (by decide) ?_
            refine lv_dup2_11 hx hb d_X12_see_113 rfl rfl ?_
            refine fm_rld Z G F hf d_X12_see_114 (fun x114 _ hf => ?_)
            refine lv_iconst (v := 1) hx hb d_X12_see_115 (by decide) ?_
            refine lv_iadd hx hb d_X12_see_116 ?_
            refine fm_rst Z G F hf d_X12_see_117 (fun S117 H locs _ F hf => ?_)
            refine lv_aload_n hx hb d_X12_see_118 rfl (lv_at hl 0 rfl) ?_
            refine fm_rgr Z G F hf fr_X12_9 d_X12_see_119 (fun q119 _ hf => ?_)
            refine lv_bipush (v := 23) hx hb d_X12_see_122 (by decide) ?_
            refine fm_rld Z G F hf d_X12_see_124 (fun x124 _ hf => ?_)
            exact fm_reti Z hr hlk F d_X12_see_125 (Prod.mk.inj (Option.some.inj hf)).1 (Prod.mk.inj (Option.some.inj hf)).2
          · have hf := fm_ip c53 hf
            refine lv_bipush (v := (-4)) hx hb d_X12_see_56 (by decide) ?_
            exact fm_reti Z hr hlk F d_X12_see_58 (Prod.mk.inj (Option.some.inj hf)).1 (Prod.mk.inj (Option.some.inj hf)).2
        · have hf := fm_ip c39 hf
          refine lv_bipush (v := (-2)) hx hb d_X12_see_42 (by decide) ?_
          exact fm_reti Z hr hlk F d_X12_see_44 (Prod.mk.inj (Option.some.inj hf)).1 (Prod.mk.inj (Option.some.inj hf)).2
    · have hf := fm_ip c20 hf
      refine lv_iconst (v := (-1)) hx hb d_X12_see_23 (by decide) ?_
      exact fm_reti Z hr hlk F d_X12_see_24 (Prod.mk.inj (Option.some.inj hf)).1 (Prod.mk.inj (Option.some.inj hf)).2
  · have hf := fm_ip c2 hf
    refine lv_aload_n hx hb d_X12_see_5 rfl (lv_at hl 0 rfl) ?_
    refine fm_rgr Z G F hf fr_X12_9 d_X12_see_6 (fun q6 _ hf => ?_)
    refine lv_bipush (v := 23) hx hb d_X12_see_9 (by decide) ?_
    refine lv_iconst (v := 0) hx hb d_X12_see_11 (by decide) ?_
    refine fm_rst Z G F hf d_X12_see_12 (fun S12 H locs _ F hf => ?_)
    refine lv_iconst (v := 0) hx hb d_X12_see_13 (by decide) ?_
    exact fm_reti Z hr hlk F d_X12_see_14 (Prod.mk.inj (Option.some.inj hf)).1 (Prod.mk.inj (Option.some.inj hf)).2
theorem d_X12_areAsSeen_0 : decode prog_14_method_57_code 0 = .ok (.aload_n 0, 1) := by decide +kernel
theorem d_X12_areAsSeen_1 : decode prog_14_method_57_code 1 = .ok (.getfield 9, 3) := by decide +kernel
theorem d_X12_areAsSeen_4 : decode prog_14_method_57_code 4 = .ok (.iload_n 1, 1) := by decide +kernel
theorem d_X12_areAsSeen_5 : decode prog_14_method_57_code 5 = .ok (.iaload, 1) := by decide +kernel
theorem d_X12_areAsSeen_6 : decode prog_14_method_57_code 6 = .ok (.istore_n 3, 1) := by decide +kernel
theorem d_X12_areAsSeen_7 : decode prog_14_method_57_code 7 = .ok (.iconst 1, 1) := by decide +kernel
theorem d_X12_areAsSeen_8 : decode prog_14_method_57_code 8 = .ok (.istore 4, 2) := by decide +kernel
theorem d_X12_areAsSeen_10 : decode prog_14_method_57_code 10 = .ok (.iconst 0, 1) := by decide +kernel
theorem d_X12_areAsSeen_11 : decode prog_14_method_57_code 11 = .ok (.istore 5, 2) := by decide +kernel
theorem d_X12_areAsSeen_13 : decode prog_14_method_57_code 13 = .ok (.iload 5, 2) := by decide +kernel
theorem d_X12_areAsSeen_15 : decode prog_14_method_57_code 15 = .ok (.aload_n 0, 1) := by decide +kernel
theorem d_X12_areAsSeen_16 : decode prog_14_method_57_code 16 = .ok (.getfield 9, 3) := by decide +kernel
theorem d_X12_areAsSeen_19 : decode prog_14_method_57_code 19 = .ok (.bipush 23, 2) := by decide +kernel
theorem d_X12_areAsSeen_21 : decode prog_14_method_57_code 21 = .ok (.iaload, 1) := by decide +kernel
theorem d_X12_areAsSeen_22 : decode prog_14_method_57_code 22 = .ok (.if_icmp .ge 97, 3) := by decide +kernel
theorem d_X12_areAsSeen_25 : decode prog_14_method_57_code 25 = .ok (.iload 4, 2) := by decide +kernel
theorem d_X12_areAsSeen_27 : decode prog_14_method_57_code 27 = .ok (.ifCond .eq 92, 3) := by decide +kernel
theorem d_X12_areAsSeen_30 : decode prog_14_method_57_code 30 = .ok (.aload_n 0, 1) := by decide +kernel
theorem d_X12_areAsSeen_31 : decode prog_14_method_57_code 31 = .ok (.invokevirtual 177, 3) := by decide +kernel
theorem d_X12_areAsSeen_34 : decode prog_14_method_57_code 34 = .ok (.aload_n 0, 1) := by decide +kernel
theorem d_X12_areAsSeen_35 : decode prog_14_method_57_code 35 = .ok (.getfield 9, 3) := by decide +kernel
theorem d_X12_areAsSeen_38 : decode prog_14_method_57_code 38 = .ok (.iload_n 1, 1) := by decide +kernel
theorem d_X12_areAsSeen_39 : decode prog_14_method_57_code 39 = .ok (.iload_n 2, 1) := by decide +kernel
theorem d_X12_areAsSeen_40 : decode prog_14_method_57_code 40 = .ok (.iastore, 1) := by decide +kernel
theorem d_X12_areAsSeen_41 : decode prog_14_method_57_code 41 = .ok (.aload_n 0, 1) := by decide +kernel
theorem d_X12_areAsSeen_42 : decode prog_14_method_57_code 42 = .ok (.aload_n 0, 1) := by decide +kernel
theorem d_X12_areAsSeen_43 : decode prog_14_method_57_code 43 = .ok (.getfield 9, 3) := by decide +kernel
theorem d_X12_areAsSeen_46 : decode prog_14_method_57_code 46 = .ok (.bipush 64, 2) := by decide +kernel
theorem d_X12_areAsSeen_48 : decode prog_14_method_57_code 48 = .ok (.iload 5, 2) := by decide +kernel
theorem d_X12_areAsSeen_50 : decode prog_14_method_57_code 50 = .ok (.iadd, 1) := by decide +kernel
theorem d_X12_areAsSeen_51 : decode prog_14_method_57_code 51 = .ok (.iaload, 1) := by decide +kernel
theorem d_X12_areAsSeen_52 : decode prog_14_method_57_code 52 = .ok (.aload_n 0, 1) := by decide +kernel
theorem d_X12_areAsSeen_53 : decode prog_14_method_57_code 53 = .ok (.getfield 9, 3) := by decide +kernel
theorem d_X12_areAsSeen_56 : decode prog_14_method_57_code 56 = .ok (.bipush 69, 2) := by decide +kernel
theorem d_X12_areAsSeen_58 : decode prog_14_method_57_code 58 = .ok (.iload 5, 2) := by decide +kernel
theorem d_X12_areAsSeen_60 : decode prog_14_method_57_code 60 = .ok (.iadd, 1) := by decide +kernel
theorem d_X12_areAsSeen_61 : decode prog_14_method_57_code 61 = .ok (.iaload, 1) := by decide +kernel
theorem d_X12_areAsSeen_62 : decode prog_14_method_57_code 62 = .ok (.invokevirtual 183, 3) := by decide +kernel
theorem d_X12_areAsSeen_65 : decode prog_14_method_57_code 65 = .ok (.aload_n 0, 1) := by decide +kernel
theorem d_X12_areAsSeen_66 : decode prog_14_method_57_code 66 = .ok (.getfield 9, 3) := by decide +kernel
theorem d_X12_areAsSeen_69 : decode prog_14_method_57_code 69 = .ok (.iconst 3, 1) := by decide +kernel
theorem d_X12_areAsSeen_70 : decode prog_14_method_57_code 70 = .ok (.aload_n 0, 1) := by decide +kernel
theorem d_X12_areAsSeen_71 : decode prog_14_method_57_code 71 = .ok (.getfield 9, 3) := by decide +kernel
theorem d_X12_areAsSeen_74 : decode prog_14_method_57_code 74 = .ok (.bipush 64, 2) := by decide +kernel
theorem d_X12_areAsSeen_76 : decode prog_14_method_57_code 76 = .ok (.iload 5, 2) := by decide +kernel
theorem d_X12_areAsSeen_78 : decode prog_14_method_57_code 78 = .ok (.iadd, 1) := by decide +kernel
theorem d_X12_areAsSeen_79 : decode prog_14_method_57_code 79 = .ok (.iaload, 1) := by decide +kernel
theorem d_X12_areAsSeen_80 : decode prog_14_method_57_code 80 = .ok (.iadd, 1) := by decide +kernel
theorem d_X12_areAsSeen_81 : decode prog_14_method_57_code 81 = .ok (.iaload, 1) := by decide +kernel
theorem d_X12_areAsSeen_82 : decode prog_14_method_57_code 82 = .ok (.aload_n 0, 1) := by decide +kernel
theorem d_X12_areAsSeen_83 : decode prog_14_method_57_code 83 = .ok (.getfield 9, 3) := by decide +kernel
theorem d_X12_areAsSeen_86 : decode prog_14_method_57_code 86 = .ok (.bipush 74, 2) := by decide +kernel
theorem d_X12_areAsSeen_88 : decode prog_14_method_57_code 88 = .ok (.iload 5, 2) := by decide +kernel
theorem d_X12_areAsSeen_90 : decode prog_14_method_57_code 90 = .ok (.iadd, 1) := by decide +kernel
theorem d_X12_areAsSeen_91 : decode prog_14_method_57_code 91 = .ok (.iaload, 1) := by decide +kernel
theorem d_X12_areAsSeen_92 : decode prog_14_method_57_code 92 = .ok (.if_icmp .ne 7, 3) := by decide +kernel
theorem d_X12_areAsSeen_95 : decode prog_14_method_57_code 95 = .ok (.iconst 1, 1) := by decide +kernel
theorem d_X12_areAsSeen_96 : decode prog_14_method_57_code 96 = .ok (.goto 4, 3) := by decide +kernel
theorem d_X12_areAsSeen_99 : decode prog_14_method_57_code 99 = .ok (.iconst 0, 1) := by decide +kernel
theorem d_X12_areAsSeen_100 : decode prog_14_method_57_code 100 = .ok (.istore 4, 2) := by decide +kernel
theorem d_X12_areAsSeen_102 : decode prog_14_method_57_code 102 = .ok (.aload_n 0, 1) := by decide +kernel
theorem d_X12_areAsSeen_103 : decode prog_14_method_57_code 103 = .ok (.invokevirtual 180, 3) := by decide +kernel
theorem d_X12_areAsSeen_106 : decode prog_14_method_57_code 106 = .ok (.aload_n 0, 1) := by decide +kernel
theorem d_X12_areAsSeen_107 : decode prog_14_method_57_code 107 = .ok (.getfield 9, 3) := by decide +kernel
theorem d_X12_areAsSeen_110 : decode prog_14_method_57_code 110 = .ok (.iload_n 1, 1) := by decide +kernel
theorem d_X12_areAsSeen_111 : decode prog_14_method_57_code 111 = .ok (.iload_n 3, 1) := by decide +kernel
theorem d_X12_areAsSeen_112 : decode prog_14_method_57_code 112 = .ok (.iastore, 1) := by decide +kernel
theorem d_X12_areAsSeen_113 : decode prog_14_method_57_code 113 = .ok (.iinc 5 1, 3) := by decide +kernel
theorem d_X12_areAsSeen_116 : decode prog_14_method_57_code 116 = .ok (.goto (-103), 3) := by decide +kernel
theorem d_X12_areAsSeen_119 : decode prog_14_method_57_code 119 = .ok (.iload 4, 2) := by decide +kernel
theorem d_X12_areAsSeen_121 : decode prog_14_method_57_code 121 = .ok (.ireturn, 1) := by decide +kernel
def k_X12_areAsSeen_13 (kap lam : Nat → Nat) (go13 : Nat → Int32 → Int32 → Int32 → Int32 → Int32 → fm_M → Option (Int32 × fm_M)) (r0 : Nat) (a1 : Int32) (a2 : Int32) (a3 : Int32) (a4 : Int32) (a5 : Int32)  (S : fm_M) : Option (Int32 × fm_M) :=
  fm_gr kap 12 r0 1 S fun q16 =>
  fm_ld kap lam 13 q16 23 S fun x21 =>
  if x21 ≤ a5 then (
   fm_z a4 (some (a4, S))
  ) else (
   if a4 = 0 then (
    fm_z a4 (some (a4, S))
   ) else (
    fm_ck (kap r0 == 12) <|
    fm_b1 (m_X12_keeps kap lam r0 S) fun S31 =>
    fm_gr kap 12 r0 1 S31 fun q35 =>
    fm_st kap lam q35 a1 a2 S31 fun S40 =>
    fm_gr kap 12 r0 1 S40 fun q43 =>
    fm_ld kap lam 13 q43 (64 + a5) S40 fun x51 =>
    fm_gr kap 12 r0 1 S40 fun q53 =>
    fm_ld kap lam 13 q53 (69 + a5) S40 fun x61 =>
    fm_ck (kap r0 == 12) <|
    fm_b1 (m_X12_freezesOn kap lam r0 x51 x61 S40) fun S62 =>
    fm_gr kap 12 r0 1 S62 fun q66 =>
    fm_gr kap 12 r0 1 S62 fun q71 =>
    fm_ld kap lam 13 q71 (64 + a5) S62 fun x79 =>
    fm_ld kap lam 13 q66 (3 + x79) S62 fun x81 =>
    fm_gr kap 12 r0 1 S62 fun q83 =>
    fm_ld kap lam 13 q83 (74 + a5) S62 fun x91 =>
    if x81 = x91 then (
     fm_let (1 : Int32) fun x100 =>
     fm_ck (kap r0 == 12) <|
     fm_b1 (m_X12_goesBack kap lam r0 S62) fun S103 =>
     fm_gr kap 12 r0 1 S103 fun q107 =>
     fm_st kap lam q107 a1 a3 S103 fun S112 =>
     fm_let (a5 + 1 : Int32) fun x113 =>
     go13 r0 a1 a2 a3 x100 x113 S112
    ) else (
     fm_let (0 : Int32) fun x100 =>
     fm_ck (kap r0 == 12) <|
     fm_b1 (m_X12_goesBack kap lam r0 S62) fun S103 =>
     fm_gr kap 12 r0 1 S103 fun q107 =>
     fm_st kap lam q107 a1 a3 S103 fun S112 =>
     fm_let (a5 + 1 : Int32) fun x113 =>
     go13 r0 a1 a2 a3 x100 x113 S112
    )
   )
  )
def b_X12_areAsSeen_13 (kap lam : Nat → Nat) : Nat → Nat → Int32 → Int32 → Int32 → Int32 → Int32 → fm_M → Option (Int32 × fm_M)
  | 0 => fun _ _ _ _ _ _ _ => none
  | n + 1 => k_X12_areAsSeen_13 kap lam (b_X12_areAsSeen_13 kap lam n)
def m_X12_areAsSeen (kap lam : Nat → Nat) (r0 : Nat) (a1 : Int32) (a2 : Int32) (S : fm_M) : Option (Int32 × fm_M) :=
  fm_gr kap 12 r0 1 S fun q1 =>
  fm_ld kap lam 13 q1 a1 S fun x5 =>
  fm_let (1 : Int32) fun x8 =>
  fm_let (0 : Int32) fun x11 =>
  b_X12_areAsSeen_13 kap lam fm_LF r0 a1 a2 x5 x8 x11 S
set_option maxHeartbeats 4000000 in
set_option maxRecDepth 100000 in
theorem c_X12_areAsSeen {l : Launch} {D : va_G} {ids kap lam : Nat → Nat} {RL : List Nat} {ad sk sv : Nat → Nat} {S : fm_M} {r0 : Nat} {a1 : Int32} {a2 : Int32} {r : Int32} {u : fm_M} (hE : fm_E kap RL ad) (hf : m_X12_areAsSeen kap lam r0 a1 a2 S = some (r, u)) (sz : Nat) : fm_MI l y_X12_areAsSeen prog_14_method_57_code 6 (Option.some Jvm.ClassFile.FieldType.boolean) 6 D ids kap lam RL ad sk sv S [.ref (ad r0), .int a1, .int a2] sz r u := by
  refine fm_open rfl hE (Nat.le_of_ble_eq_true rfl) (fun p e s m args below meth c ls Z hr hlk G F N hl hsz => ?_)
  subst hsz
  obtain ⟨hx, hb, hml, hown, hts⟩ := id Z
  have hl : lv_has ls 6 [(0, .ref (ad r0)), (1, .int a1), (2, .int a2)] := hl
  generalize hQ : MQ below _ args s 0 0 (fm_A RL ad s.heap.size) = Qf
  have hL : ∀ n : Nat, (∀ (r0 : Nat) (a1 : Int32) (a2 : Int32) (a3 : Int32) (a4 : Int32) (a5 : Int32)  (S : fm_M) (H : Heap) (locs : List Loc) (ls : Array Slot), fm_F D ids kap lam RL ad S (fm_A RL ad s.heap.size) s.heap H locs → lv_has ls 6 [(0, .ref (ad r0)), (1, .int a1), (2, .int a2), (3, .int a3), (4, .int a4), (5, .int a5)] → b_X12_areAsSeen_13 kap lam n r0 a1 a2 a3 a4 a5 S = some (r, u) → W p l e (fm_rm 6) s m args below meth c H locs 0 0 Qf (F0 m 13 ls [])) := by
    intro n
    induction n with
    | zero => exact fun _ _ _ _ _ _ _ _ _ _ _ _ hf => absurd hf (by intro h; cases h)
    | succ n ih =>
      intro r0 a1 a2 a3 a4 a5 S H locs ls F hl hf
      have hf : k_X12_areAsSeen_13 kap lam (b_X12_areAsSeen_13 kap lam n) r0 a1 a2 a3 a4 a5 S = some (r, u) := hf
      unfold k_X12_areAsSeen_13 at hf
      refine lv_iload hx hb d_X12_areAsSeen_13 (lv_at hl 5 rfl) ?_
      refine lv_aload_n hx hb d_X12_areAsSeen_15 rfl (lv_at hl 0 rfl) ?_
      refine fm_rgr Z G F hf fr_X12_9 d_X12_areAsSeen_16 (fun q16 _ hf => ?_)
      refine lv_bipush (v := 23) hx hb d_X12_areAsSeen_19 (by decide) ?_
      refine fm_rld Z G F hf d_X12_areAsSeen_21 (fun x21 _ hf => ?_)
      refine lv_icmp_ge (tgt := 119) hx hb d_X12_areAsSeen_22 (by decide) (fun c22 => ?_) (fun c22 => ?_)
      · have hf := fm_ip c22 hf
        refine lv_iload hx hb d_X12_areAsSeen_119 (lv_at hl 4 rfl) ?_
        obtain ⟨hz, hf⟩ := fm_some hf
        rw [← hQ]; exact fm_retz Z hr hlk F d_X12_areAsSeen_121 hz (Prod.mk.inj (Option.some.inj hf)).1 (Prod.mk.inj (Option.some.inj hf)).2
      · have hf := fm_ig c22 hf
        refine lv_iload hx hb d_X12_areAsSeen_25 (lv_at hl 4 rfl) ?_
        refine lv_if_eq (tgt := 119) hx hb d_X12_areAsSeen_27 (by decide) (fun c27 => ?_) (fun c27 => ?_)
        · have hf := fm_ip c27 hf
          refine lv_iload hx hb d_X12_areAsSeen_119 (lv_at hl 4 rfl) ?_
          obtain ⟨hz, hf⟩ := fm_some hf
          rw [← hQ]; exact fm_retz Z hr hlk F d_X12_areAsSeen_121 hz (Prod.mk.inj (Option.some.inj hf)).1 (Prod.mk.inj (Option.some.inj hf)).2
        · have hf := fm_ig c27 hf
          refine lv_aload_n hx hb d_X12_areAsSeen_30 rfl (lv_at hl 0 rfl) ?_
          obtain ⟨hk31, hf⟩ := fm_some hf
          refine fm_rcv G F hf (fun u ho => fm_runV (k := 0) Z G F N (As := []) (rest := []) (c_X12_keeps hE ho _) (by rw [eq_of_beq hk31]; decide) (by rw [eq_of_beq hk31]; rfl) kw_1173 kw_1175 kp_52 kw_6 kw_1176 yd_X12_keeps rfl (by decide) (by decide) hl.1 (Nat.le_of_ble_eq_true rfl) d_X12_areAsSeen_31 (Nat.le_refl 0) (Nat.le_refl 0)) (fun S31 H locs _ F hf => ?_)
          refine lv_aload_n hx hb d_X12_areAsSeen_34 rfl (lv_at hl 0 rfl) ?_
          refine fm_rgr Z G F hf fr_X12_9 d_X12_areAsSeen_35 (fun q35 _ hf => ?_)
          refine lv_iload_n hx hb d_X12_areAsSeen_38 rfl (lv_at hl 1 rfl) ?_
          refine lv_iload_n hx hb d_X12_areAsSeen_39 rfl (lv_at hl 2 rfl) ?_
          refine fm_rst Z G F hf d_X12_areAsSeen_40 (fun S40 H locs _ F hf => ?_)
          refine lv_aload_n hx hb d_X12_areAsSeen_41 rfl (lv_at hl 0 rfl) ?_
          refine lv_aload_n hx hb d_X12_areAsSeen_42 rfl (lv_at hl 0 rfl) ?_
          refine fm_rgr Z G F hf fr_X12_9 d_X12_areAsSeen_43 (fun q43 _ hf => ?_)
          refine lv_bipush (v := 64) hx hb d_X12_areAsSeen_46 (by decide) ?_
          refine lv_iload hx hb d_X12_areAsSeen_48 (lv_at hl 5 rfl) ?_
          refine lv_iadd hx hb d_X12_areAsSeen_50 ?_
          refine fm_rld Z G F hf d_X12_areAsSeen_51 (fun x51 _ hf => ?_)
          refine lv_aload_n hx hb d_X12_areAsSeen_52 rfl (lv_at hl 0 rfl) ?_
          refine fm_rgr Z G F hf fr_X12_9 d_X12_areAsSeen_53 (fun q53 _ hf => ?_)
          refine lv_bipush (v := 69) hx hb d_X12_areAsSeen_56 (by decide) ?_
          refine lv_iload hx hb d_X12_areAsSeen_58 (lv_at hl 5 rfl) ?_
          refine lv_iadd hx hb d_X12_areAsSeen_60 ?_
          refine fm_rld Z G F hf d_X12_areAsSeen_61 (fun x61 _ hf => ?_)
          obtain ⟨hk62, hf⟩ := fm_some hf
          refine fm_rcv G F hf (fun u ho => fm_runV (k := 2) Z G F N (As := [.int x51, .int x61]) (rest := []) (c_X12_freezesOn hE ho _) (by rw [eq_of_beq hk62]; decide) (by rw [eq_of_beq hk62]; rfl) kw_1185 kw_1187 kp_54 kw_6 kw_1188 yd_X12_freezesOn rfl (by decide) (by decide) hl.1 (Nat.le_of_ble_eq_true rfl) d_X12_areAsSeen_62 (Nat.le_refl 0) (Nat.le_refl 0)) (fun S62 H locs _ F hf => ?_)
          refine lv_aload_n hx hb d_X12_areAsSeen_65 rfl (lv_at hl 0 rfl) ?_
          refine fm_rgr Z G F hf fr_X12_9 d_X12_areAsSeen_66 (fun q66 _ hf => ?_)
          refine lv_iconst (v := 3) hx hb d_X12_areAsSeen_69 (by decide) ?_
          refine lv_aload_n hx hb d_X12_areAsSeen_70 rfl (lv_at hl 0 rfl) ?_
          refine fm_rgr Z G F hf fr_X12_9 d_X12_areAsSeen_71 (fun q71 _ hf => ?_)
          refine lv_bipush (v := 64) hx hb d_X12_areAsSeen_74 (by decide) ?_
          refine lv_iload hx hb d_X12_areAsSeen_76 (lv_at hl 5 rfl) ?_
          refine lv_iadd hx hb d_X12_areAsSeen_78 ?_
          refine fm_rld Z G F hf d_X12_areAsSeen_79 (fun x79 _ hf => ?_)
          refine lv_iadd hx hb d_X12_areAsSeen_80 ?_
          refine fm_rld Z G F hf d_X12_areAsSeen_81 (fun x81 _ hf => ?_)
          refine lv_aload_n hx hb d_X12_areAsSeen_82 rfl (lv_at hl 0 rfl) ?_
          refine fm_rgr Z G F hf fr_X12_9 d_X12_areAsSeen_83 (fun q83 _ hf => ?_)
          refine lv_bipush (v := 74) hx hb d_X12_areAsSeen_86 (by decide) ?_
          refine lv_iload hx hb d_X12_areAsSeen_88 (lv_at hl 5 rfl) ?_
          refine lv_iadd hx hb d_X12_areAsSeen_90 ?_
          refine fm_rld Z G F hf d_X12_areAsSeen_91 (fun x91 _ hf => ?_)
          refine lv_icmp_ne (tgt := 99) hx hb d_X12_areAsSeen_92 (by decide) (fun c92 => ?_) (fun c92 => ?_)
          · have hf := fm_ig c92 hf
            refine lv_iconst (v := 0) hx hb d_X12_areAsSeen_99 (by decide) ?_
            refine lv_topi (fun x100 ex100 => ?_)
            have hf := fm_let_at ex100 hf
            refine lv_istore (lv' := [(4, .int x100), (0, .ref (ad r0)), (1, .int a1), (2, .int a2), (3, .int a3), (5, .int a5)]) hx hb d_X12_areAsSeen_100 hl (by decide) rfl (fun ls hl => ?_)
            refine lv_aload_n hx hb d_X12_areAsSeen_102 rfl (lv_at hl 1 rfl) ?_
            obtain ⟨hk103, hf⟩ := fm_some hf
            refine fm_rcv G F hf (fun u ho => fm_runV (k := 0) Z G F N (As := []) (rest := []) (c_X12_goesBack hE ho _) (by rw [eq_of_beq hk103]; decide) (by rw [eq_of_beq hk103]; rfl) kw_1177 kw_1179 kp_53 kw_6 kw_1180 yd_X12_goesBack rfl (by decide) (by decide) hl.1 (Nat.le_of_ble_eq_true rfl) d_X12_areAsSeen_103 (Nat.le_refl 0) (Nat.le_refl 0)) (fun S103 H locs _ F hf => ?_)
            refine lv_aload_n hx hb d_X12_areAsSeen_106 rfl (lv_at hl 1 rfl) ?_
            refine fm_rgr Z G F hf fr_X12_9 d_X12_areAsSeen_107 (fun q107 _ hf => ?_)
            refine lv_iload_n hx hb d_X12_areAsSeen_110 rfl (lv_at hl 2 rfl) ?_
            refine lv_iload_n hx hb d_X12_areAsSeen_111 rfl (lv_at hl 4 rfl) ?_
            refine fm_rst Z G F hf d_X12_areAsSeen_112 (fun S112 H locs _ F hf => ?_)
            obtain ⟨x113, ex113⟩ : ∃ y : Int32, y = a5 + 1 := ⟨_, rfl⟩
            have hf := fm_let_at ex113 hf
            refine lv_iinc (v := x113) (lv' := [(5, .int x113), (4, .int x100), (0, .ref (ad r0)), (1, .int a1), (2, .int a2), (3, .int a3)]) hx hb d_X12_areAsSeen_113 hl (k := 5) rfl (by rw [ex113]; rfl) (by decide) rfl (fun ls hl => ?_)
            refine lv_goto (tgt := 13) hx hb d_X12_areAsSeen_116 (by decide) ?_
            exact ih r0 a1 a2 a3 x100 x113 S112 _ _ _ F (lv_sub hl [2, 3, 4, 5, 1, 0] rfl) hf
          · have hf := fm_ip c92 hf
            refine lv_iconst (v := 1) hx hb d_X12_areAsSeen_95 (by decide) ?_
            refine lv_goto (tgt := 100) hx hb d_X12_areAsSeen_96 (by decide) ?_
            refine lv_topi (fun x100 ex100 => ?_)
            have hf := fm_let_at ex100 hf
            refine lv_istore (lv' := [(4, .int x100), (0, .ref (ad r0)), (1, .int a1), (2, .int a2), (3, .int a3), (5, .int a5)]) hx hb d_X12_areAsSeen_100 hl (by decide) rfl (fun ls hl => ?_)
            refine lv_aload_n hx hb d_X12_areAsSeen_102 rfl (lv_at hl 1 rfl) ?_
            obtain ⟨hk103, hf⟩ := fm_some hf
            refine fm_rcv G F hf (fun u ho => fm_runV (k := 0) Z G F N (As := []) (rest := []) (c_X12_goesBack hE ho _) (by rw [eq_of_beq hk103]; decide) (by rw [eq_of_beq hk103]; rfl) kw_1177 kw_1179 kp_53 kw_6 kw_1180 yd_X12_goesBack rfl (by decide) (by decide) hl.1 (Nat.le_of_ble_eq_true rfl) d_X12_areAsSeen_103 (Nat.le_refl 0) (Nat.le_refl 0)) (fun S103 H locs _ F hf => ?_)
            refine lv_aload_n hx hb d_X12_areAsSeen_106 rfl (lv_at hl 1 rfl) ?_
            refine fm_rgr Z G F hf fr_X12_9 d_X12_areAsSeen_107 (fun q107 _ hf => ?_)
            refine lv_iload_n hx hb d_X12_areAsSeen_110 rfl (lv_at hl 2 rfl) ?_
            refine lv_iload_n hx hb d_X12_areAsSeen_111 rfl (lv_at hl 4 rfl) ?_
            refine fm_rst Z G F hf d_X12_areAsSeen_112 (fun S112 H locs _ F hf => ?_)
            obtain ⟨x113, ex113⟩ : ∃ y : Int32, y = a5 + 1 := ⟨_, rfl⟩
            have hf := fm_let_at ex113 hf
            refine lv_iinc (v := x113) (lv' := [(5, .int x113), (4, .int x100), (0, .ref (ad r0)), (1, .int a1), (2, .int a2), (3, .int a3)]) hx hb d_X12_areAsSeen_113 hl (k := 5) rfl (by rw [ex113]; rfl) (by decide) rfl (fun ls hl => ?_)
            refine lv_goto (tgt := 13) hx hb d_X12_areAsSeen_116 (by decide) ?_
            exact ih r0 a1 a2 a3 x100 x113 S112 _ _ _ F (lv_sub hl [2, 3, 4, 5, 1, 0] rfl) hf
  unfold m_X12_areAsSeen at hf
  refine lv_aload_n hx hb d_X12_areAsSeen_0 rfl (lv_at hl 0 rfl) ?_
  refine fm_rgr Z G F hf fr_X12_9 d_X12_areAsSeen_1 (fun q1 _ hf => ?_)
  refine lv_iload_n hx hb d_X12_areAsSeen_4 rfl (lv_at hl 1 rfl) ?_
  refine fm_rld Z G F hf d_X12_areAsSeen_5 (fun x5 _ hf => ?_)
  refine lv_istore_n (lv' := [(3, .int x5), (0, .ref (ad r0)), (1, .int a1), (2, .int a2)]) hx hb d_X12_areAsSeen_6 rfl hl (by decide) rfl (fun ls hl => ?_)
  refine lv_iconst (v := 1) hx hb d_X12_areAsSeen_7 (by decide) ?_
  refine lv_topi (fun x8 ex8 => ?_)
  have hf := fm_let_at ex8 hf
  refine lv_istore (lv' := [(4, .int x8), (3, .int x5), (0, .ref (ad r0)), (1, .int a1), (2, .int a2)]) hx hb d_X12_areAsSeen_8 hl (by decide) rfl (fun ls hl => ?_)
  refine lv_iconst (v := 0) hx hb d_X12_areAsSeen_10 (by decide) ?_
  refine lv_topi (fun x11 ex11 => ?_)
  have hf := fm_let_at ex11 hf
  refine lv_istore (lv' := [(5, .int x11), (4, .int x8), (3, .int x5), (0, .ref (ad r0)), (1, .int a1), (2, .int a2)]) hx hb d_X12_areAsSeen_11 hl (by decide) rfl (fun ls hl => ?_)
  exact (hL fm_LF) r0 a1 a2 x5 x8 x11 S _ _ _ F (lv_sub hl [3, 4, 5, 2, 1, 0] rfl) hf
theorem d_X12_fitting_0 : decode prog_14_method_58_code 0 = .ok (.iconst 0, 1) := by decide +kernel
theorem d_X12_fitting_1 : decode prog_14_method_58_code 1 = .ok (.istore 4, 2) := by decide +kernel
theorem d_X12_fitting_3 : decode prog_14_method_58_code 3 = .ok (.bipush (-5), 2) := by decide +kernel
theorem d_X12_fitting_5 : decode prog_14_method_58_code 5 = .ok (.istore 5, 2) := by decide +kernel
theorem d_X12_fitting_7 : decode prog_14_method_58_code 7 = .ok (.iload_n 2, 1) := by decide +kernel
theorem d_X12_fitting_8 : decode prog_14_method_58_code 8 = .ok (.istore 6, 2) := by decide +kernel
theorem d_X12_fitting_10 : decode prog_14_method_58_code 10 = .ok (.iload 6, 2) := by decide +kernel
theorem d_X12_fitting_12 : decode prog_14_method_58_code 12 = .ok (.ifCond .lt 47, 3) := by decide +kernel
theorem d_X12_fitting_15 : decode prog_14_method_58_code 15 = .ok (.aload_n 0, 1) := by decide +kernel
theorem d_X12_fitting_16 : decode prog_14_method_58_code 16 = .ok (.iload_n 1, 1) := by decide +kernel
theorem d_X12_fitting_17 : decode prog_14_method_58_code 17 = .ok (.iload 6, 2) := by decide +kernel
theorem d_X12_fitting_19 : decode prog_14_method_58_code 19 = .ok (.invokevirtual 205, 3) := by decide +kernel
theorem d_X12_fitting_22 : decode prog_14_method_58_code 22 = .ok (.istore 7, 2) := by decide +kernel
theorem d_X12_fitting_24 : decode prog_14_method_58_code 24 = .ok (.iload 4, 2) := by decide +kernel
theorem d_X12_fitting_26 : decode prog_14_method_58_code 26 = .ok (.iload 7, 2) := by decide +kernel
theorem d_X12_fitting_28 : decode prog_14_method_58_code 28 = .ok (.ifCond .eq 7, 3) := by decide +kernel
theorem d_X12_fitting_31 : decode prog_14_method_58_code 31 = .ok (.iconst 1, 1) := by decide +kernel
theorem d_X12_fitting_32 : decode prog_14_method_58_code 32 = .ok (.goto 4, 3) := by decide +kernel
theorem d_X12_fitting_35 : decode prog_14_method_58_code 35 = .ok (.iconst 0, 1) := by decide +kernel
theorem d_X12_fitting_36 : decode prog_14_method_58_code 36 = .ok (.iadd, 1) := by decide +kernel
theorem d_X12_fitting_37 : decode prog_14_method_58_code 37 = .ok (.istore 4, 2) := by decide +kernel
theorem d_X12_fitting_39 : decode prog_14_method_58_code 39 = .ok (.iload 7, 2) := by decide +kernel
theorem d_X12_fitting_41 : decode prog_14_method_58_code 41 = .ok (.ifCond .eq 8, 3) := by decide +kernel
theorem d_X12_fitting_44 : decode prog_14_method_58_code 44 = .ok (.iload 6, 2) := by decide +kernel
theorem d_X12_fitting_46 : decode prog_14_method_58_code 46 = .ok (.goto 5, 3) := by decide +kernel
theorem d_X12_fitting_49 : decode prog_14_method_58_code 49 = .ok (.iload 5, 2) := by decide +kernel
theorem d_X12_fitting_51 : decode prog_14_method_58_code 51 = .ok (.istore 5, 2) := by decide +kernel
theorem d_X12_fitting_53 : decode prog_14_method_58_code 53 = .ok (.iinc 6 (-1), 3) := by decide +kernel
theorem d_X12_fitting_56 : decode prog_14_method_58_code 56 = .ok (.goto (-46), 3) := by decide +kernel
theorem d_X12_fitting_59 : decode prog_14_method_58_code 59 = .ok (.iload_n 3, 1) := by decide +kernel
theorem d_X12_fitting_60 : decode prog_14_method_58_code 60 = .ok (.ifCond .ne 8, 3) := by decide +kernel
theorem d_X12_fitting_63 : decode prog_14_method_58_code 63 = .ok (.iload 4, 2) := by decide +kernel
theorem d_X12_fitting_65 : decode prog_14_method_58_code 65 = .ok (.goto 5, 3) := by decide +kernel
theorem d_X12_fitting_68 : decode prog_14_method_58_code 68 = .ok (.iload 5, 2) := by decide +kernel
theorem d_X12_fitting_70 : decode prog_14_method_58_code 70 = .ok (.ireturn, 1) := by decide +kernel
def k_X12_fitting_10 (kap lam : Nat → Nat) (go10 : Nat → Int32 → Int32 → Int32 → Int32 → Int32 → fm_M → Option (Int32 × fm_M)) (r0 : Nat) (a1 : Int32) (a3 : Int32) (a4 : Int32) (a5 : Int32) (a6 : Int32)  (S : fm_M) : Option (Int32 × fm_M) :=
  if a6 < 0 then (
   if a3 = 0 then (
    some (a4, S)
   ) else (
    some (a5, S)
   )
  ) else (
   fm_ck (kap r0 == 12) <|
   fm_bi (m_X12_areAsSeen kap lam r0 a1 a6 S) fun x19 S19 =>
   if x19 = 0 then (
    fm_let (a4 + 0 : Int32) fun x37 =>
    if x19 = 0 then (
     fm_let (a6 + (-1) : Int32) fun x53 =>
     go10 r0 a1 a3 x37 a5 x53 S19
    ) else (
     fm_let (a6 + (-1) : Int32) fun x53 =>
     go10 r0 a1 a3 x37 a6 x53 S19
    )
   ) else (
    fm_let (a4 + 1 : Int32) fun x37 =>
    if x19 = 0 then (
     fm_let (a6 + (-1) : Int32) fun x53 =>
     go10 r0 a1 a3 x37 a5 x53 S19
    ) else (
     fm_let (a6 + (-1) : Int32) fun x53 =>
     go10 r0 a1 a3 x37 a6 x53 S19
    )
   )
  )
def b_X12_fitting_10 (kap lam : Nat → Nat) : Nat → Nat → Int32 → Int32 → Int32 → Int32 → Int32 → fm_M → Option (Int32 × fm_M)
  | 0 => fun _ _ _ _ _ _ _ => none
  | n + 1 => k_X12_fitting_10 kap lam (b_X12_fitting_10 kap lam n)
def m_X12_fitting (kap lam : Nat → Nat) (r0 : Nat) (a1 : Int32) (a2 : Int32) (a3 : Int32) (S : fm_M) : Option (Int32 × fm_M) :=
  fm_let (0 : Int32) fun x1 =>
  fm_let ((-5) : Int32) fun x5 =>
  b_X12_fitting_10 kap lam fm_LF r0 a1 a3 x1 x5 a2 S
set_option maxHeartbeats 4000000 in
set_option maxRecDepth 100000 in
theorem c_X12_fitting {l : Launch} {D : va_G} {ids kap lam : Nat → Nat} {RL : List Nat} {ad sk sv : Nat → Nat} {S : fm_M} {r0 : Nat} {a1 : Int32} {a2 : Int32} {a3 : Int32} {r : Int32} {u : fm_M} (hE : fm_E kap RL ad) (hf : m_X12_fitting kap lam r0 a1 a2 a3 S = some (r, u)) (sz : Nat) : fm_MI l y_X12_fitting prog_14_method_58_code 8 (Option.some Jvm.ClassFile.FieldType.int) 7 D ids kap lam RL ad sk sv S [.ref (ad r0), .int a1, .int a2, .int a3] sz r u := by
  refine fm_open rfl hE (Nat.le_of_ble_eq_true rfl) (fun p e s m args below meth c ls Z hr hlk G F N hl hsz => ?_)
  subst hsz
  obtain ⟨hx, hb, hml, hown, hts⟩ := id Z
  have hl : lv_has ls 8 [(0, .ref (ad r0)), (1, .int a1), (2, .int a2), (3, .int a3)] := hl
  generalize hQ : MQ below _ args s 0 0 (fm_A RL ad s.heap.size) = Qf
  have hL : ∀ n : Nat, (∀ (r0 : Nat) (a1 : Int32) (a3 : Int32) (a4 : Int32) (a5 : Int32) (a6 : Int32)  (S : fm_M) (H : Heap) (locs : List Loc) (ls : Array Slot), fm_F D ids kap lam RL ad S (fm_A RL ad s.heap.size) s.heap H locs → lv_has ls 8 [(0, .ref (ad r0)), (1, .int a1), (3, .int a3), (4, .int a4), (5, .int a5), (6, .int a6)] → b_X12_fitting_10 kap lam n r0 a1 a3 a4 a5 a6 S = some (r, u) → W p l e (fm_rm 7) s m args below meth c H locs 0 0 Qf (F0 m 10 ls [])) := by
    intro n
    induction n with
    | zero => exact fun _ _ _ _ _ _ _ _ _ _ _ _ hf => absurd hf (by intro h; cases h)
    | succ n ih =>
      intro r0 a1 a3 a4 a5 a6 S H locs ls F hl hf
      have hf : k_X12_fitting_10 kap lam (b_X12_fitting_10 kap lam n) r0 a1 a3 a4 a5 a6 S = some (r, u) := hf
      unfold k_X12_fitting_10 at hf
      refine lv_iload hx hb d_X12_fitting_10 (lv_at hl 5 rfl) ?_
      refine lv_if_lt (tgt := 59) hx hb d_X12_fitting_12 (by decide) (fun c12 => ?_) (fun c12 => ?_)
      · have hf := fm_ip c12 hf
        refine lv_iload_n hx hb d_X12_fitting_59 rfl (lv_at hl 2 rfl) ?_
        refine lv_if_ne (tgt := 68) hx hb d_X12_fitting_60 (by decide) (fun c60 => ?_) (fun c60 => ?_)
        · have hf := fm_ig c60 hf
          refine lv_iload hx hb d_X12_fitting_68 (lv_at hl 4 rfl) ?_
          rw [← hQ]; exact fm_reti Z hr hlk F d_X12_fitting_70 (Prod.mk.inj (Option.some.inj hf)).1 (Prod.mk.inj (Option.some.inj hf)).2
        · have hf := fm_ip c60 hf
          refine lv_iload hx hb d_X12_fitting_63 (lv_at hl 3 rfl) ?_
          refine lv_goto (tgt := 70) hx hb d_X12_fitting_65 (by decide) ?_
          rw [← hQ]; exact fm_reti Z hr hlk F d_X12_fitting_70 (Prod.mk.inj (Option.some.inj hf)).1 (Prod.mk.inj (Option.some.inj hf)).2
      · have hf := fm_ig c12 hf
        refine lv_aload_n hx hb d_X12_fitting_15 rfl (lv_at hl 0 rfl) ?_
        refine lv_iload_n hx hb d_X12_fitting_16 rfl (lv_at hl 1 rfl) ?_
        refine lv_iload hx hb d_X12_fitting_17 (lv_at hl 5 rfl) ?_
        obtain ⟨hk19, hf⟩ := fm_some hf
        refine fm_rci G F hf (fun r u ho => fm_runV (k := 2) Z G F N (As := [.int a1, .int a6]) (rest := []) (c_X12_areAsSeen hE ho _) (by rw [eq_of_beq hk19]; decide) (by rw [eq_of_beq hk19]; rfl) kw_1232 kw_1234 kp_60 kw_6 kw_1235 yd_X12_areAsSeen rfl (by decide) (by decide) hl.1 (Nat.le_of_ble_eq_true rfl) d_X12_fitting_19 (Nat.le_refl 0) (Nat.le_refl 0)) (fun x19 S19 H locs _ F hf => ?_)
        refine lv_istore (lv' := [(7, .int x19), (0, .ref (ad r0)), (1, .int a1), (3, .int a3), (4, .int a4), (5, .int a5), (6, .int a6)]) hx hb d_X12_fitting_22 hl (by decide) rfl (fun ls hl => ?_)
        refine lv_iload hx hb d_X12_fitting_24 (lv_at hl 4 rfl) ?_
        refine lv_iload hx hb d_X12_fitting_26 (lv_at hl 0 rfl) ?_
        refine lv_if_eq (tgt := 35) hx hb d_X12_fitting_28 (by decide) (fun c28 => ?_) (fun c28 => ?_)
        · have hf := fm_ip c28 hf
          refine lv_iconst (v := 0) hx hb d_X12_fitting_35 (by decide) ?_
          refine lv_iadd hx hb d_X12_fitting_36 ?_
          refine lv_topi (fun x37 ex37 => ?_)
          have hf := fm_let_at ex37 hf
          refine lv_istore (lv' := [(4, .int x37), (7, .int x19), (0, .ref (ad r0)), (1, .int a1), (3, .int a3), (5, .int a5), (6, .int a6)]) hx hb d_X12_fitting_37 hl (by decide) rfl (fun ls hl => ?_)
          refine lv_iload hx hb d_X12_fitting_39 (lv_at hl 1 rfl) ?_
          refine lv_if_eq (tgt := 49) hx hb d_X12_fitting_41 (by decide) (fun c41 => ?_) (fun c41 => ?_)
          · have hf := fm_ip c41 hf
            refine lv_iload hx hb d_X12_fitting_49 (lv_at hl 5 rfl) ?_
            refine lv_istore (lv' := [(5, .int a5), (4, .int x37), (7, .int x19), (0, .ref (ad r0)), (1, .int a1), (3, .int a3), (6, .int a6)]) hx hb d_X12_fitting_51 hl (by decide) rfl (fun ls hl => ?_)
            obtain ⟨x53, ex53⟩ : ∃ y : Int32, y = a6 + (-1) := ⟨_, rfl⟩
            have hf := fm_let_at ex53 hf
            refine lv_iinc (v := x53) (lv' := [(6, .int x53), (5, .int a5), (4, .int x37), (7, .int x19), (0, .ref (ad r0)), (1, .int a1), (3, .int a3)]) hx hb d_X12_fitting_53 hl (k := 6) rfl (by rw [ex53]; rfl) (by decide) rfl (fun ls hl => ?_)
            refine lv_goto (tgt := 10) hx hb d_X12_fitting_56 (by decide) ?_
            exact ih r0 a1 a3 x37 a5 x53 S19 _ _ _ F (lv_sub hl [4, 5, 6, 2, 1, 0] rfl) hf
          · have hf := fm_ig c41 hf
            refine lv_iload hx hb d_X12_fitting_44 (lv_at hl 6 rfl) ?_
            refine lv_goto (tgt := 51) hx hb d_X12_fitting_46 (by decide) ?_
            refine lv_istore (lv' := [(5, .int a6), (4, .int x37), (7, .int x19), (0, .ref (ad r0)), (1, .int a1), (3, .int a3), (6, .int a6)]) hx hb d_X12_fitting_51 hl (by decide) rfl (fun ls hl => ?_)
            obtain ⟨x53, ex53⟩ : ∃ y : Int32, y = a6 + (-1) := ⟨_, rfl⟩
            have hf := fm_let_at ex53 hf
            refine lv_iinc (v := x53) (lv' := [(6, .int x53), (5, .int a6), (4, .int x37), (7, .int x19), (0, .ref (ad r0)), (1, .int a1), (3, .int a3)]) hx hb d_X12_fitting_53 hl (k := 6) rfl (by rw [ex53]; rfl) (by decide) rfl (fun ls hl => ?_)
            refine lv_goto (tgt := 10) hx hb d_X12_fitting_56 (by decide) ?_
            exact ih r0 a1 a3 x37 a6 x53 S19 _ _ _ F (lv_sub hl [4, 5, 6, 2, 1, 0] rfl) hf
        · have hf := fm_ig c28 hf
          refine lv_iconst (v := 1) hx hb d_X12_fitting_31 (by decide) ?_
          refine lv_goto (tgt := 36) hx hb d_X12_fitting_32 (by decide) ?_
          refine lv_iadd hx hb d_X12_fitting_36 ?_
          refine lv_topi (fun x37 ex37 => ?_)
          have hf := fm_let_at ex37 hf
          refine lv_istore (lv' := [(4, .int x37), (7, .int x19), (0, .ref (ad r0)), (1, .int a1), (3, .int a3), (5, .int a5), (6, .int a6)]) hx hb d_X12_fitting_37 hl (by decide) rfl (fun ls hl => ?_)
          refine lv_iload hx hb d_X12_fitting_39 (lv_at hl 1 rfl) ?_
          refine lv_if_eq (tgt := 49) hx hb d_X12_fitting_41 (by decide) (fun c41 => ?_) (fun c41 => ?_)
          · have hf := fm_ip c41 hf
            refine lv_iload hx hb d_X12_fitting_49 (lv_at hl 5 rfl) ?_
            refine lv_istore (lv' := [(5, .int a5), (4, .int x37), (7, .int x19), (0, .ref (ad r0)), (1, .int a1), (3, .int a3), (6, .int a6)]) hx hb d_X12_fitting_51 hl (by decide) rfl (fun ls hl => ?_)
            obtain ⟨x53, ex53⟩ : ∃ y : Int32, y = a6 + (-1) := ⟨_, rfl⟩
            have hf := fm_let_at ex53 hf
            refine lv_iinc (v := x53) (lv' := [(6, .int x53), (5, .int a5), (4, .int x37), (7, .int x19), (0, .ref (ad r0)), (1, .int a1), (3, .int a3)]) hx hb d_X12_fitting_53 hl (k := 6) rfl (by rw [ex53]; rfl) (by decide) rfl (fun ls hl => ?_)
            refine lv_goto (tgt := 10) hx hb d_X12_fitting_56 (by decide) ?_
            exact ih r0 a1 a3 x37 a5 x53 S19 _ _ _ F (lv_sub hl [4, 5, 6, 2, 1, 0] rfl) hf
          · have hf := fm_ig c41 hf
            refine lv_iload hx hb d_X12_fitting_44 (lv_at hl 6 rfl) ?_
            refine lv_goto (tgt := 51) hx hb d_X12_fitting_46 (by decide) ?_
            refine lv_istore (lv' := [(5, .int a6), (4, .int x37), (7, .int x19), (0, .ref (ad r0)), (1, .int a1), (3, .int a3), (6, .int a6)]) hx hb d_X12_fitting_51 hl (by decide) rfl (fun ls hl => ?_)
            obtain ⟨x53, ex53⟩ : ∃ y : Int32, y = a6 + (-1) := ⟨_, rfl⟩
            have hf := fm_let_at ex53 hf
            refine lv_iinc (v := x53) (lv' := [(6, .int x53), (5, .int a6), (4, .int x37), (7, .int x19), (0, .ref (ad r0)), (1, .int a1), (3, .int a3)]) hx hb d_X12_fitting_53 hl (k := 6) rfl (by rw [ex53]; rfl) (by decide) rfl (fun ls hl => ?_)
            refine lv_goto (tgt := 10) hx hb d_X12_fitting_56 (by decide) ?_
            exact ih r0 a1 a3 x37 a6 x53 S19 _ _ _ F (lv_sub hl [4, 5, 6, 2, 1, 0] rfl) hf
  unfold m_X12_fitting at hf
  refine lv_iconst (v := 0) hx hb d_X12_fitting_0 (by decide) ?_
  refine lv_topi (fun x1 ex1 => ?_)
  have hf := fm_let_at ex1 hf
  refine lv_istore (lv' := [(4, .int x1), (0, .ref (ad r0)), (1, .int a1), (2, .int a2), (3, .int a3)]) hx hb d_X12_fitting_1 hl (by decide) rfl (fun ls hl => ?_)
  refine lv_bipush (v := (-5)) hx hb d_X12_fitting_3 (by decide) ?_
  refine lv_topi (fun x5 ex5 => ?_)
  have hf := fm_let_at ex5 hf
  refine lv_istore (lv' := [(5, .int x5), (4, .int x1), (0, .ref (ad r0)), (1, .int a1), (2, .int a2), (3, .int a3)]) hx hb d_X12_fitting_5 hl (by decide) rfl (fun ls hl => ?_)
  refine lv_iload_n hx hb d_X12_fitting_7 rfl (lv_at hl 4 rfl) ?_
  refine lv_istore (lv' := [(6, .int a2), (5, .int x5), (4, .int x1), (0, .ref (ad r0)), (1, .int a1), (2, .int a2), (3, .int a3)]) hx hb d_X12_fitting_8 hl (by decide) rfl (fun ls hl => ?_)
  exact (hL fm_LF) r0 a1 a3 x1 x5 a2 S _ _ _ F (lv_sub hl [3, 4, 6, 2, 1, 0] rfl) hf
theorem d_X12_colds_0 : decode prog_14_method_59_code 0 = .ok (.iload_n 1, 1) := by decide +kernel
theorem d_X12_colds_1 : decode prog_14_method_59_code 1 = .ok (.iconst 0, 1) := by decide +kernel
theorem d_X12_colds_2 : decode prog_14_method_59_code 2 = .ok (.iconst 1, 1) := by decide +kernel
theorem d_X12_colds_3 : decode prog_14_method_59_code 3 = .ok (.invokestatic 44, 3) := by decide +kernel
theorem d_X12_colds_6 : decode prog_14_method_59_code 6 = .ok (.ifCond .eq 14, 3) := by decide +kernel
theorem d_X12_colds_9 : decode prog_14_method_59_code 9 = .ok (.aload_n 0, 1) := by decide +kernel
theorem d_X12_colds_10 : decode prog_14_method_59_code 10 = .ok (.iconst 1, 1) := by decide +kernel
theorem d_X12_colds_11 : decode prog_14_method_59_code 11 = .ok (.bipush 20, 2) := by decide +kernel
theorem d_X12_colds_13 : decode prog_14_method_59_code 13 = .ok (.iload_n 1, 1) := by decide +kernel
theorem d_X12_colds_14 : decode prog_14_method_59_code 14 = .ok (.invokevirtual 208, 3) := by decide +kernel
theorem d_X12_colds_17 : decode prog_14_method_59_code 17 = .ok (.goto 4, 3) := by decide +kernel
theorem d_X12_colds_20 : decode prog_14_method_59_code 20 = .ok (.iconst (-1), 1) := by decide +kernel
theorem d_X12_colds_21 : decode prog_14_method_59_code 21 = .ok (.ireturn, 1) := by decide +kernel
def m_X12_colds (kap lam : Nat → Nat) (r0 : Nat) (a1 : Int32) (S : fm_M) : Option (Int32 × fm_M) :=
  fm_b1 (m_X12_in kap lam a1 0 1 S) fun x3 =>
  if x3 = 0 then (
   some ((-1), S)
  ) else (
   fm_ck (kap r0 == 12) <|
   fm_bi (m_X12_fitting kap lam r0 1 20 a1 S) fun x14 S14 =>
   some (x14, S14)
  )
set_option maxHeartbeats 4000000 in
set_option maxRecDepth 100000 in
theorem c_X12_colds {l : Launch} {D : va_G} {ids kap lam : Nat → Nat} {RL : List Nat} {ad sk sv : Nat → Nat} {S : fm_M} {r0 : Nat} {a1 : Int32} {r : Int32} {u : fm_M} (hE : fm_E kap RL ad) (hf : m_X12_colds kap lam r0 a1 S = some (r, u)) (sz : Nat) : fm_MI l y_X12_colds prog_14_method_59_code 2 (Option.some Jvm.ClassFile.FieldType.int) 8 D ids kap lam RL ad sk sv S [.ref (ad r0), .int a1] sz r u := by
  refine fm_open rfl hE (Nat.le_of_ble_eq_true rfl) (fun p e s m args below meth c ls Z hr hlk G F N hl hsz => ?_)
  subst hsz
  obtain ⟨hx, hb, hml, hown, hts⟩ := id Z
  have hl : lv_has ls 2 [(0, .ref (ad r0)), (1, .int a1)] := hl
  unfold m_X12_colds at hf
  refine lv_iload_n hx hb d_X12_colds_0 rfl (lv_at hl 1 rfl) ?_
  refine lv_iconst (v := 0) hx hb d_X12_colds_1 (by decide) ?_
  refine lv_iconst (v := 1) hx hb d_X12_colds_2 (by decide) ?_
  refine fm_rcr G F hf (fun r ho => fm_runS (k := 3) Z G F N (As := [.int a1, .int 0, .int 1]) (rest := []) (c_X12_in hE ho _) kw_1004 kw_1005 kw_6 kw_1006 yd_X12_in rfl (by decide) (by decide) hl.1 (Nat.le_of_ble_eq_true rfl) d_X12_colds_3 (Nat.le_refl 0) (Nat.le_refl 0)) (fun x3 H locs _ F hf => ?_)
  refine lv_if_eq (tgt := 20) hx hb d_X12_colds_6 (by decide) (fun c6 => ?_) (fun c6 => ?_)
  · have hf := fm_ip c6 hf
    refine lv_iconst (v := (-1)) hx hb d_X12_colds_20 (by decide) ?_
    exact fm_reti Z hr hlk F d_X12_colds_21 (Prod.mk.inj (Option.some.inj hf)).1 (Prod.mk.inj (Option.some.inj hf)).2
  · have hf := fm_ig c6 hf
    refine lv_aload_n hx hb d_X12_colds_9 rfl (lv_at hl 0 rfl) ?_
    refine lv_iconst (v := 1) hx hb d_X12_colds_10 (by decide) ?_
    refine lv_bipush (v := 20) hx hb d_X12_colds_11 (by decide) ?_
    refine lv_iload_n hx hb d_X12_colds_13 rfl (lv_at hl 1 rfl) ?_
    obtain ⟨hk14, hf⟩ := fm_some hf
    refine fm_rci G F hf (fun r u ho => fm_runV (k := 3) Z G F N (As := [.int 1, .int 20, .int a1]) (rest := []) (c_X12_fitting hE ho _) (by rw [eq_of_beq hk14]; decide) (by rw [eq_of_beq hk14]; rfl) kw_1228 kw_1230 kp_59 kw_6 kw_1231 yd_X12_fitting rfl (by decide) (by decide) hl.1 (Nat.le_of_ble_eq_true rfl) d_X12_colds_14 (Nat.le_refl 0) (Nat.le_refl 0)) (fun x14 S14 H locs _ F hf => ?_)
    refine lv_goto (tgt := 21) hx hb d_X12_colds_17 (by decide) ?_
    exact fm_reti Z hr hlk F d_X12_colds_21 (Prod.mk.inj (Option.some.inj hf)).1 (Prod.mk.inj (Option.some.inj hf)).2
theorem d_X12_warms_0 : decode prog_14_method_60_code 0 = .ok (.aload_n 0, 1) := by decide +kernel
theorem d_X12_warms_1 : decode prog_14_method_60_code 1 = .ok (.iload_n 1, 1) := by decide +kernel
theorem d_X12_warms_2 : decode prog_14_method_60_code 2 = .ok (.invokevirtual 140, 3) := by decide +kernel
theorem d_X12_warms_5 : decode prog_14_method_60_code 5 = .ok (.ifCond .ne 5, 3) := by decide +kernel
theorem d_X12_warms_8 : decode prog_14_method_60_code 8 = .ok (.iconst (-1), 1) := by decide +kernel
theorem d_X12_warms_9 : decode prog_14_method_60_code 9 = .ok (.ireturn, 1) := by decide +kernel
theorem d_X12_warms_10 : decode prog_14_method_60_code 10 = .ok (.iconst 0, 1) := by decide +kernel
theorem d_X12_warms_11 : decode prog_14_method_60_code 11 = .ok (.istore_n 2, 1) := by decide +kernel
theorem d_X12_warms_12 : decode prog_14_method_60_code 12 = .ok (.iconst 0, 1) := by decide +kernel
theorem d_X12_warms_13 : decode prog_14_method_60_code 13 = .ok (.istore_n 3, 1) := by decide +kernel
theorem d_X12_warms_14 : decode prog_14_method_60_code 14 = .ok (.iload_n 3, 1) := by decide +kernel
theorem d_X12_warms_15 : decode prog_14_method_60_code 15 = .ok (.bipush 10, 2) := by decide +kernel
theorem d_X12_warms_17 : decode prog_14_method_60_code 17 = .ok (.if_icmp .ge 31, 3) := by decide +kernel
theorem d_X12_warms_20 : decode prog_14_method_60_code 20 = .ok (.iload_n 2, 1) := by decide +kernel
theorem d_X12_warms_21 : decode prog_14_method_60_code 21 = .ok (.aload_n 0, 1) := by decide +kernel
theorem d_X12_warms_22 : decode prog_14_method_60_code 22 = .ok (.bipush 15, 2) := by decide +kernel
theorem d_X12_warms_24 : decode prog_14_method_60_code 24 = .ok (.iload_n 1, 1) := by decide +kernel
theorem d_X12_warms_25 : decode prog_14_method_60_code 25 = .ok (.iadd, 1) := by decide +kernel
theorem d_X12_warms_26 : decode prog_14_method_60_code 26 = .ok (.iload_n 3, 1) := by decide +kernel
theorem d_X12_warms_27 : decode prog_14_method_60_code 27 = .ok (.invokevirtual 205, 3) := by decide +kernel
theorem d_X12_warms_30 : decode prog_14_method_60_code 30 = .ok (.ifCond .eq 9, 3) := by decide +kernel
theorem d_X12_warms_33 : decode prog_14_method_60_code 33 = .ok (.iconst 1, 1) := by decide +kernel
theorem d_X12_warms_34 : decode prog_14_method_60_code 34 = .ok (.iload_n 3, 1) := by decide +kernel
theorem d_X12_warms_35 : decode prog_14_method_60_code 35 = .ok (.ishl, 1) := by decide +kernel
theorem d_X12_warms_36 : decode prog_14_method_60_code 36 = .ok (.goto 4, 3) := by decide +kernel
theorem d_X12_warms_39 : decode prog_14_method_60_code 39 = .ok (.iconst 0, 1) := by decide +kernel
theorem d_X12_warms_40 : decode prog_14_method_60_code 40 = .ok (.ior, 1) := by decide +kernel
theorem d_X12_warms_41 : decode prog_14_method_60_code 41 = .ok (.istore_n 2, 1) := by decide +kernel
theorem d_X12_warms_42 : decode prog_14_method_60_code 42 = .ok (.iinc 3 1, 3) := by decide +kernel
theorem d_X12_warms_45 : decode prog_14_method_60_code 45 = .ok (.goto (-31), 3) := by decide +kernel
theorem d_X12_warms_48 : decode prog_14_method_60_code 48 = .ok (.iload_n 2, 1) := by decide +kernel
theorem d_X12_warms_49 : decode prog_14_method_60_code 49 = .ok (.ireturn, 1) := by decide +kernel
def k_X12_warms_14 (kap lam : Nat → Nat) (go14 : Nat → Int32 → Int32 → Int32 → fm_M → Option (Int32 × fm_M)) (r0 : Nat) (a1 : Int32) (a2 : Int32) (a3 : Int32)  (S : fm_M) : Option (Int32 × fm_M) :=
  if 10 ≤ a3 then (
   some (a2, S)
  ) else (
   fm_ck (kap r0 == 12) <|
   fm_bi (m_X12_areAsSeen kap lam r0 (15 + a1) a3 S) fun x27 S27 =>
   if x27 = 0 then (
    fm_let (a2 ||| 0 : Int32) fun x41 =>
    fm_let (a3 + 1 : Int32) fun x42 =>
    go14 r0 a1 x41 x42 S27
   ) else (
    fm_let (a2 ||| ((1 : Int32) <<< (a3 &&& 31)) : Int32) fun x41 =>
    fm_let (a3 + 1 : Int32) fun x42 =>
    go14 r0 a1 x41 x42 S27
   )
  )
def b_X12_warms_14 (kap lam : Nat → Nat) : Nat → Nat → Int32 → Int32 → Int32 → fm_M → Option (Int32 × fm_M)
  | 0 => fun _ _ _ _ _ => none
  | n + 1 => k_X12_warms_14 kap lam (b_X12_warms_14 kap lam n)
def m_X12_warms (kap lam : Nat → Nat) (r0 : Nat) (a1 : Int32) (S : fm_M) : Option (Int32 × fm_M) :=
  fm_ck (kap r0 == 12) <|
  fm_b1 (m_X12_isPane kap lam r0 a1 S) fun x2 =>
  if x2 = 0 then (
   some ((-1), S)
  ) else (
   fm_let (0 : Int32) fun x11 =>
   fm_let (0 : Int32) fun x13 =>
   b_X12_warms_14 kap lam fm_LF r0 a1 x11 x13 S
  )
set_option maxHeartbeats 4000000 in
set_option maxRecDepth 100000 in
theorem c_X12_warms {l : Launch} {D : va_G} {ids kap lam : Nat → Nat} {RL : List Nat} {ad sk sv : Nat → Nat} {S : fm_M} {r0 : Nat} {a1 : Int32} {r : Int32} {u : fm_M} (hE : fm_E kap RL ad) (hf : m_X12_warms kap lam r0 a1 S = some (r, u)) (sz : Nat) : fm_MI l y_X12_warms prog_14_method_60_code 4 (Option.some Jvm.ClassFile.FieldType.int) 7 D ids kap lam RL ad sk sv S [.ref (ad r0), .int a1] sz r u := by
  refine fm_open rfl hE (Nat.le_of_ble_eq_true rfl) (fun p e s m args below meth c ls Z hr hlk G F N hl hsz => ?_)
  subst hsz
  obtain ⟨hx, hb, hml, hown, hts⟩ := id Z
  have hl : lv_has ls 4 [(0, .ref (ad r0)), (1, .int a1)] := hl
  generalize hQ : MQ below _ args s 0 0 (fm_A RL ad s.heap.size) = Qf
  have hL : ∀ n : Nat, (∀ (r0 : Nat) (a1 : Int32) (a2 : Int32) (a3 : Int32)  (S : fm_M) (H : Heap) (locs : List Loc) (ls : Array Slot), fm_F D ids kap lam RL ad S (fm_A RL ad s.heap.size) s.heap H locs → lv_has ls 4 [(0, .ref (ad r0)), (1, .int a1), (2, .int a2), (3, .int a3)] → b_X12_warms_14 kap lam n r0 a1 a2 a3 S = some (r, u) → W p l e (fm_rm 7) s m args below meth c H locs 0 0 Qf (F0 m 14 ls [])) := by
    intro n
    induction n with
    | zero => exact fun _ _ _ _ _ _ _ _ _ _ hf => absurd hf (by intro h; cases h)
    | succ n ih =>
      intro r0 a1 a2 a3 S H locs ls F hl hf
      have hf : k_X12_warms_14 kap lam (b_X12_warms_14 kap lam n) r0 a1 a2 a3 S = some (r, u) := hf
      unfold k_X12_warms_14 at hf
      refine lv_iload_n hx hb d_X12_warms_14 rfl (lv_at hl 3 rfl) ?_
      refine lv_bipush (v := 10) hx hb d_X12_warms_15 (by decide) ?_
      refine lv_icmp_ge (tgt := 48) hx hb d_X12_warms_17 (by decide) (fun c17 => ?_) (fun c17 => ?_)
      · have hf := fm_ip c17 hf
        refine lv_iload_n hx hb d_X12_warms_48 rfl (lv_at hl 2 rfl) ?_
        rw [← hQ]; exact fm_reti Z hr hlk F d_X12_warms_49 (Prod.mk.inj (Option.some.inj hf)).1 (Prod.mk.inj (Option.some.inj hf)).2
      · have hf := fm_ig c17 hf
        refine lv_iload_n hx hb d_X12_warms_20 rfl (lv_at hl 2 rfl) ?_
        refine lv_aload_n hx hb d_X12_warms_21 rfl (lv_at hl 0 rfl) ?_
        refine lv_bipush (v := 15) hx hb d_X12_warms_22 (by decide) ?_
        refine lv_iload_n hx hb d_X12_warms_24 rfl (lv_at hl 1 rfl) ?_
        refine lv_iadd hx hb d_X12_warms_25 ?_
        refine lv_iload_n hx hb d_X12_warms_26 rfl (lv_at hl 3 rfl) ?_
        obtain ⟨hk27, hf⟩ := fm_some hf
        refine fm_rci G F hf (fun r u ho => fm_runV (k := 2) Z G F N (As := [.int (15 + a1), .int a3]) (rest := [.int a2]) (c_X12_areAsSeen hE ho _) (by rw [eq_of_beq hk27]; decide) (by rw [eq_of_beq hk27]; rfl) kw_1232 kw_1234 kp_60 kw_6 kw_1235 yd_X12_areAsSeen rfl (by decide) (by decide) hl.1 (Nat.le_of_ble_eq_true rfl) d_X12_warms_27 (Nat.le_refl 0) (Nat.le_refl 0)) (fun x27 S27 H locs _ F hf => ?_)
        refine lv_if_eq (tgt := 39) hx hb d_X12_warms_30 (by decide) (fun c30 => ?_) (fun c30 => ?_)
        · have hf := fm_ip c30 hf
          refine lv_iconst (v := 0) hx hb d_X12_warms_39 (by decide) ?_
          refine lv_ior hx hb d_X12_warms_40 ?_
          refine lv_topi (fun x41 ex41 => ?_)
          have hf := fm_let_at ex41 hf
          refine lv_istore_n (lv' := [(2, .int x41), (0, .ref (ad r0)), (1, .int a1), (3, .int a3)]) hx hb d_X12_warms_41 rfl hl (by decide) rfl (fun ls hl => ?_)
          obtain ⟨x42, ex42⟩ : ∃ y : Int32, y = a3 + 1 := ⟨_, rfl⟩
          have hf := fm_let_at ex42 hf
          refine lv_iinc (v := x42) (lv' := [(3, .int x42), (2, .int x41), (0, .ref (ad r0)), (1, .int a1)]) hx hb d_X12_warms_42 hl (k := 3) rfl (by rw [ex42]; rfl) (by decide) rfl (fun ls hl => ?_)
          refine lv_goto (tgt := 14) hx hb d_X12_warms_45 (by decide) ?_
          exact ih r0 a1 x41 x42 S27 _ _ _ F (lv_sub hl [2, 3, 1, 0] rfl) hf
        · have hf := fm_ig c30 hf
          refine lv_iconst (v := 1) hx hb d_X12_warms_33 (by decide) ?_
          refine lv_iload_n hx hb d_X12_warms_34 rfl (lv_at hl 3 rfl) ?_
          refine lv_ishl hx hb d_X12_warms_35 ?_
          refine lv_goto (tgt := 40) hx hb d_X12_warms_36 (by decide) ?_
          refine lv_ior hx hb d_X12_warms_40 ?_
          refine lv_topi (fun x41 ex41 => ?_)
          have hf := fm_let_at ex41 hf
          refine lv_istore_n (lv' := [(2, .int x41), (0, .ref (ad r0)), (1, .int a1), (3, .int a3)]) hx hb d_X12_warms_41 rfl hl (by decide) rfl (fun ls hl => ?_)
          obtain ⟨x42, ex42⟩ : ∃ y : Int32, y = a3 + 1 := ⟨_, rfl⟩
          have hf := fm_let_at ex42 hf
          refine lv_iinc (v := x42) (lv' := [(3, .int x42), (2, .int x41), (0, .ref (ad r0)), (1, .int a1)]) hx hb d_X12_warms_42 hl (k := 3) rfl (by rw [ex42]; rfl) (by decide) rfl (fun ls hl => ?_)
          refine lv_goto (tgt := 14) hx hb d_X12_warms_45 (by decide) ?_
          exact ih r0 a1 x41 x42 S27 _ _ _ F (lv_sub hl [2, 3, 1, 0] rfl) hf
  unfold m_X12_warms at hf
  refine lv_aload_n hx hb d_X12_warms_0 rfl (lv_at hl 0 rfl) ?_
  refine lv_iload_n hx hb d_X12_warms_1 rfl (lv_at hl 1 rfl) ?_
  obtain ⟨hk2, hf⟩ := fm_some hf
  refine fm_rcr G F hf (fun r ho => fm_runV (k := 1) Z G F N (As := [.int a1]) (rest := []) (c_X12_isPane hE ho _) (by rw [eq_of_beq hk2]; decide) (by rw [eq_of_beq hk2]; rfl) kw_1075 kw_1077 kp_37 kw_6 kw_1078 yd_X12_isPane rfl (by decide) (by decide) hl.1 (Nat.le_of_ble_eq_true rfl) d_X12_warms_2 (Nat.le_refl 0) (Nat.le_refl 0)) (fun x2 H locs _ F hf => ?_)
  refine lv_if_ne (tgt := 10) hx hb d_X12_warms_5 (by decide) (fun c5 => ?_) (fun c5 => ?_)
  · have hf := fm_ig c5 hf
    refine lv_iconst (v := 0) hx hb d_X12_warms_10 (by decide) ?_
    refine lv_topi (fun x11 ex11 => ?_)
    have hf := fm_let_at ex11 hf
    refine lv_istore_n (lv' := [(2, .int x11), (0, .ref (ad r0)), (1, .int a1)]) hx hb d_X12_warms_11 rfl hl (by decide) rfl (fun ls hl => ?_)
    refine lv_iconst (v := 0) hx hb d_X12_warms_12 (by decide) ?_
    refine lv_topi (fun x13 ex13 => ?_)
    have hf := fm_let_at ex13 hf
    refine lv_istore_n (lv' := [(3, .int x13), (2, .int x11), (0, .ref (ad r0)), (1, .int a1)]) hx hb d_X12_warms_13 rfl hl (by decide) rfl (fun ls hl => ?_)
    exact (hL fm_LF) r0 a1 x11 x13 S _ _ _ F (lv_sub hl [2, 3, 1, 0] rfl) hf
  · have hf := fm_ip c5 hf
    refine lv_iconst (v := (-1)) hx hb d_X12_warms_8 (by decide) ?_
    rw [← hQ]; exact fm_reti Z hr hlk F d_X12_warms_9 (Prod.mk.inj (Option.some.inj hf)).1 (Prod.mk.inj (Option.some.inj hf)).2
theorem d_X12_firm_0 : decode prog_14_method_61_code 0 = .ok (.aload_n 0, 1) := by decide +kernel
theorem d_X12_firm_1 : decode prog_14_method_61_code 1 = .ok (.iload_n 1, 1) := by decide +kernel
theorem d_X12_firm_2 : decode prog_14_method_61_code 2 = .ok (.invokevirtual 140, 3) := by decide +kernel
theorem d_X12_firm_5 : decode prog_14_method_61_code 5 = .ok (.ifCond .eq 26, 3) := by decide +kernel
theorem d_X12_firm_8 : decode prog_14_method_61_code 8 = .ok (.iload_n 2, 1) := by decide +kernel
theorem d_X12_firm_9 : decode prog_14_method_61_code 9 = .ok (.iconst 0, 1) := by decide +kernel
theorem d_X12_firm_10 : decode prog_14_method_61_code 10 = .ok (.iconst 1, 1) := by decide +kernel
theorem d_X12_firm_11 : decode prog_14_method_61_code 11 = .ok (.invokestatic 44, 3) := by decide +kernel
theorem d_X12_firm_14 : decode prog_14_method_61_code 14 = .ok (.ifCond .eq 17, 3) := by decide +kernel
theorem d_X12_firm_17 : decode prog_14_method_61_code 17 = .ok (.aload_n 0, 1) := by decide +kernel
theorem d_X12_firm_18 : decode prog_14_method_61_code 18 = .ok (.bipush 34, 2) := by decide +kernel
theorem d_X12_firm_20 : decode prog_14_method_61_code 20 = .ok (.iload_n 1, 1) := by decide +kernel
theorem d_X12_firm_21 : decode prog_14_method_61_code 21 = .ok (.iadd, 1) := by decide +kernel
theorem d_X12_firm_22 : decode prog_14_method_61_code 22 = .ok (.bipush 9, 2) := by decide +kernel
theorem d_X12_firm_24 : decode prog_14_method_61_code 24 = .ok (.iload_n 2, 1) := by decide +kernel
theorem d_X12_firm_25 : decode prog_14_method_61_code 25 = .ok (.invokevirtual 208, 3) := by decide +kernel
theorem d_X12_firm_28 : decode prog_14_method_61_code 28 = .ok (.goto 4, 3) := by decide +kernel
theorem d_X12_firm_31 : decode prog_14_method_61_code 31 = .ok (.iconst (-1), 1) := by decide +kernel
theorem d_X12_firm_32 : decode prog_14_method_61_code 32 = .ok (.ireturn, 1) := by decide +kernel
def m_X12_firm (kap lam : Nat → Nat) (r0 : Nat) (a1 : Int32) (a2 : Int32) (S : fm_M) : Option (Int32 × fm_M) :=
  fm_ck (kap r0 == 12) <|
  fm_b1 (m_X12_isPane kap lam r0 a1 S) fun x2 =>
  if x2 = 0 then (
   some ((-1), S)
  ) else (
   fm_b1 (m_X12_in kap lam a2 0 1 S) fun x11 =>
   if x11 = 0 then (
    some ((-1), S)
   ) else (
    fm_ck (kap r0 == 12) <|
    fm_bi (m_X12_fitting kap lam r0 (34 + a1) 9 a2 S) fun x25 S25 =>
    some (x25, S25)
   )
  )
set_option maxHeartbeats 4000000 in
set_option maxRecDepth 100000 in
theorem c_X12_firm {l : Launch} {D : va_G} {ids kap lam : Nat → Nat} {RL : List Nat} {ad sk sv : Nat → Nat} {S : fm_M} {r0 : Nat} {a1 : Int32} {a2 : Int32} {r : Int32} {u : fm_M} (hE : fm_E kap RL ad) (hf : m_X12_firm kap lam r0 a1 a2 S = some (r, u)) (sz : Nat) : fm_MI l y_X12_firm prog_14_method_61_code 3 (Option.some Jvm.ClassFile.FieldType.int) 8 D ids kap lam RL ad sk sv S [.ref (ad r0), .int a1, .int a2] sz r u := by
  refine fm_open rfl hE (Nat.le_of_ble_eq_true rfl) (fun p e s m args below meth c ls Z hr hlk G F N hl hsz => ?_)
  subst hsz
  obtain ⟨hx, hb, hml, hown, hts⟩ := id Z
  have hl : lv_has ls 3 [(0, .ref (ad r0)), (1, .int a1), (2, .int a2)] := hl
  unfold m_X12_firm at hf
  refine lv_aload_n hx hb d_X12_firm_0 rfl (lv_at hl 0 rfl) ?_
  refine lv_iload_n hx hb d_X12_firm_1 rfl (lv_at hl 1 rfl) ?_
  obtain ⟨hk2, hf⟩ := fm_some hf
  refine fm_rcr G F hf (fun r ho => fm_runV (k := 1) Z G F N (As := [.int a1]) (rest := []) (c_X12_isPane hE ho _) (by rw [eq_of_beq hk2]; decide) (by rw [eq_of_beq hk2]; rfl) kw_1075 kw_1077 kp_37 kw_6 kw_1078 yd_X12_isPane rfl (by decide) (by decide) hl.1 (Nat.le_of_ble_eq_true rfl) d_X12_firm_2 (Nat.le_refl 0) (Nat.le_refl 0)) (fun x2 H locs _ F hf => ?_)
  refine lv_if_eq (tgt := 31) hx hb d_X12_firm_5 (by decide) (fun c5 => ?_) (fun c5 => ?_)
  · have hf := fm_ip c5 hf
    refine lv_iconst (v := (-1)) hx hb d_X12_firm_31 (by decide) ?_
    exact fm_reti Z hr hlk F d_X12_firm_32 (Prod.mk.inj (Option.some.inj hf)).1 (Prod.mk.inj (Option.some.inj hf)).2
  · have hf := fm_ig c5 hf
    refine lv_iload_n hx hb d_X12_firm_8 rfl (lv_at hl 2 rfl) ?_
    refine lv_iconst (v := 0) hx hb d_X12_firm_9 (by decide) ?_
    refine lv_iconst (v := 1) hx hb d_X12_firm_10 (by decide) ?_
    refine fm_rcr G F hf (fun r ho => fm_runS (k := 3) Z G F N (As := [.int a2, .int 0, .int 1]) (rest := []) (c_X12_in hE ho _) kw_1004 kw_1005 kw_6 kw_1006 yd_X12_in rfl (by decide) (by decide) hl.1 (Nat.le_of_ble_eq_true rfl) d_X12_firm_11 (Nat.le_refl 0) (Nat.le_refl 0)) (fun x11 H locs _ F hf => ?_)
    refine lv_if_eq (tgt := 31) hx hb d_X12_firm_14 (by decide) (fun c14 => ?_) (fun c14 => ?_)
    · have hf := fm_ip c14 hf
      refine lv_iconst (v := (-1)) hx hb d_X12_firm_31 (by decide) ?_
      exact fm_reti Z hr hlk F d_X12_firm_32 (Prod.mk.inj (Option.some.inj hf)).1 (Prod.mk.inj (Option.some.inj hf)).2
    · have hf := fm_ig c14 hf
      refine lv_aload_n hx hb d_X12_firm_17 rfl (lv_at hl 0 rfl) ?_
      refine lv_bipush (v := 34) hx hb d_X12_firm_18 (by decide) ?_
      refine lv_iload_n hx hb d_X12_firm_20 rfl (lv_at hl 1 rfl) ?_
      refine lv_iadd hx hb d_X12_firm_21 ?_
      refine lv_bipush (v := 9) hx hb d_X12_firm_22 (by decide) ?_
      refine lv_iload_n hx hb d_X12_firm_24 rfl (lv_at hl 2 rfl) ?_
      obtain ⟨hk25, hf⟩ := fm_some hf
      refine fm_rci G F hf (fun r u ho => fm_runV (k := 3) Z G F N (As := [.int (34 + a1), .int 9, .int a2]) (rest := []) (c_X12_fitting hE ho _) (by rw [eq_of_beq hk25]; decide) (by rw [eq_of_beq hk25]; rfl) kw_1228 kw_1230 kp_59 kw_6 kw_1231 yd_X12_fitting rfl (by decide) (by decide) hl.1 (Nat.le_of_ble_eq_true rfl) d_X12_firm_25 (Nat.le_refl 0) (Nat.le_refl 0)) (fun x25 S25 H locs _ F hf => ?_)
      refine lv_goto (tgt := 32) hx hb d_X12_firm_28 (by decide) ?_
      exact fm_reti Z hr hlk F d_X12_firm_32 (Prod.mk.inj (Option.some.inj hf)).1 (Prod.mk.inj (Option.some.inj hf)).2
theorem d_X12_lowest_0 : decode prog_14_method_62_code 0 = .ok (.lload_n 0, 1) := by decide +kernel
theorem d_X12_lowest_1 : decode prog_14_method_62_code 1 = .ok (.lconst 0, 1) := by decide +kernel
theorem d_X12_lowest_2 : decode prog_14_method_62_code 2 = .ok (.lcmp, 1) := by decide +kernel
theorem d_X12_lowest_3 : decode prog_14_method_62_code 3 = .ok (.ifCond .ge 8, 3) := by decide +kernel
theorem d_X12_lowest_6 : decode prog_14_method_62_code 6 = .ok (.lload_n 0, 1) := by decide +kernel
theorem d_X12_lowest_7 : decode prog_14_method_62_code 7 = .ok (.lneg, 1) := by decide +kernel
theorem d_X12_lowest_8 : decode prog_14_method_62_code 8 = .ok (.goto 4, 3) := by decide +kernel
theorem d_X12_lowest_11 : decode prog_14_method_62_code 11 = .ok (.lload_n 0, 1) := by decide +kernel
theorem d_X12_lowest_12 : decode prog_14_method_62_code 12 = .ok (.lstore 5, 2) := by decide +kernel
theorem d_X12_lowest_14 : decode prog_14_method_62_code 14 = .ok (.lload_n 2, 1) := by decide +kernel
theorem d_X12_lowest_15 : decode prog_14_method_62_code 15 = .ok (.lstore 7, 2) := by decide +kernel
theorem d_X12_lowest_17 : decode prog_14_method_62_code 17 = .ok (.lload 7, 2) := by decide +kernel
theorem d_X12_lowest_19 : decode prog_14_method_62_code 19 = .ok (.lconst 0, 1) := by decide +kernel
theorem d_X12_lowest_20 : decode prog_14_method_62_code 20 = .ok (.lcmp, 1) := by decide +kernel
theorem d_X12_lowest_21 : decode prog_14_method_62_code 21 = .ok (.ifCond .eq 21, 3) := by decide +kernel
theorem d_X12_lowest_24 : decode prog_14_method_62_code 24 = .ok (.lload 5, 2) := by decide +kernel
theorem d_X12_lowest_26 : decode prog_14_method_62_code 26 = .ok (.lload 7, 2) := by decide +kernel
theorem d_X12_lowest_28 : decode prog_14_method_62_code 28 = .ok (.lrem, 1) := by decide +kernel
theorem d_X12_lowest_29 : decode prog_14_method_62_code 29 = .ok (.lstore 9, 2) := by decide +kernel
theorem d_X12_lowest_31 : decode prog_14_method_62_code 31 = .ok (.lload 7, 2) := by decide +kernel
theorem d_X12_lowest_33 : decode prog_14_method_62_code 33 = .ok (.lstore 5, 2) := by decide +kernel
theorem d_X12_lowest_35 : decode prog_14_method_62_code 35 = .ok (.lload 9, 2) := by decide +kernel
theorem d_X12_lowest_37 : decode prog_14_method_62_code 37 = .ok (.lstore 7, 2) := by decide +kernel
theorem d_X12_lowest_39 : decode prog_14_method_62_code 39 = .ok (.goto (-22), 3) := by decide +kernel
theorem d_X12_lowest_42 : decode prog_14_method_62_code 42 = .ok (.iload 4, 2) := by decide +kernel
theorem d_X12_lowest_44 : decode prog_14_method_62_code 44 = .ok (.ifCond .ne 7, 3) := by decide +kernel
theorem d_X12_lowest_47 : decode prog_14_method_62_code 47 = .ok (.lload_n 0, 1) := by decide +kernel
theorem d_X12_lowest_48 : decode prog_14_method_62_code 48 = .ok (.goto 4, 3) := by decide +kernel
theorem d_X12_lowest_51 : decode prog_14_method_62_code 51 = .ok (.lload_n 2, 1) := by decide +kernel
theorem d_X12_lowest_52 : decode prog_14_method_62_code 52 = .ok (.lload 5, 2) := by decide +kernel
theorem d_X12_lowest_54 : decode prog_14_method_62_code 54 = .ok (.ldiv, 1) := by decide +kernel
theorem d_X12_lowest_55 : decode prog_14_method_62_code 55 = .ok (.lreturn, 1) := by decide +kernel
def k_X12_lowest_17 (kap lam : Nat → Nat) (S : fm_M) (go17 : Int64 → Int64 → Int32 → Int64 → Int64 → Option Int64) (j0 : Int64) (j2 : Int64) (a4 : Int32) (j5 : Int64) (j7 : Int64)  : Option Int64 :=
  if (lg_cmp j7 0) = 0 then (
   if a4 = 0 then (
    if j5 = 0 then none else (
     some (j0 / j5)
    )
   ) else (
    if j5 = 0 then none else (
     some (j2 / j5)
    )
   )
  ) else (
   if j7 = 0 then none else (
    fm_let (j5 - j5 / j7 * j7 : Int64) fun l29 =>
    go17 j0 j2 a4 j7 l29
   )
  )
def b_X12_lowest_17 (kap lam : Nat → Nat) (S : fm_M) : Nat → Int64 → Int64 → Int32 → Int64 → Int64 → Option Int64
  | 0 => fun _ _ _ _ _ => none
  | n + 1 => k_X12_lowest_17 kap lam S (b_X12_lowest_17 kap lam S n)
def m_X12_lowest (kap lam : Nat → Nat) (j0 : Int64) (j2 : Int64) (a4 : Int32) (S : fm_M) : Option Int64 :=
  if 0 ≤ (lg_cmp j0 0) then (
   b_X12_lowest_17 kap lam S fm_LF j0 j2 a4 j0 j2
  ) else (
   fm_let (-j0 : Int64) fun l12 =>
   b_X12_lowest_17 kap lam S fm_LF j0 j2 a4 l12 j2
  )
set_option maxHeartbeats 4000000 in
set_option maxRecDepth 100000 in
theorem c_X12_lowest {l : Launch} {D : va_G} {ids kap lam : Nat → Nat} {RL : List Nat} {ad sk sv : Nat → Nat} {S : fm_M} {j0 : Int64} {j2 : Int64} {a4 : Int32} {r : Int64} (hE : fm_E kap RL ad) (hf : m_X12_lowest kap lam j0 j2 a4 S = some r) (sz : Nat) : fm_ML l y_X12_lowest prog_14_method_62_code 11 (Option.some Jvm.ClassFile.FieldType.long) 0 D ids kap lam RL ad sk sv S [.long j0, .long j2, .int a4] sz r S := by
  refine fm_open rfl hE (Nat.le_of_ble_eq_true rfl) (fun p e s m args below meth c ls Z hr hlk G F N hl hsz => ?_)
  subst hsz
  obtain ⟨hx, hb, hml, hown, hts⟩ := id Z
  have hl : lv_has ls 11 [(0, .long j0), (2, .long j2), (4, .int a4)] := hl
  generalize hQ : MQ below _ args s 0 0 (fm_A RL ad s.heap.size) = Qf
  have hL : ∀ n : Nat, (∀ (j0 : Int64) (j2 : Int64) (a4 : Int32) (j5 : Int64) (j7 : Int64)  (H : Heap) (locs : List Loc) (ls : Array Slot), fm_F D ids kap lam RL ad S (fm_A RL ad s.heap.size) s.heap H locs → lv_has ls 11 [(0, .long j0), (2, .long j2), (4, .int a4), (5, .long j5), (7, .long j7)] → b_X12_lowest_17 kap lam S n j0 j2 a4 j5 j7 = some r → W p l e (fm_rm 0) s m args below meth c H locs 0 0 Qf (F0 m 17 ls [])) := by
    intro n
    induction n with
    | zero => exact fun _ _ _ _ _ _ _ _ _ _ hf => absurd hf (by intro h; cases h)
    | succ n ih =>
      intro j0 j2 a4 j5 j7 H locs ls F hl hf
      have hf : k_X12_lowest_17 kap lam S (b_X12_lowest_17 kap lam S n) j0 j2 a4 j5 j7 = some r := hf
      unfold k_X12_lowest_17 at hf
      refine lv_lload hx hb d_X12_lowest_17 (lv_at hl 4 rfl) ?_
      refine lv_lconst (v := 0) hx hb d_X12_lowest_19 (by decide) ?_
      refine W.lcmp hx hb d_X12_lowest_20 ?_
      refine lv_if_eq (tgt := 42) hx hb d_X12_lowest_21 (by decide) (fun c21 => ?_) (fun c21 => ?_)
      · have hf := fm_ip c21 hf
        refine lv_iload hx hb d_X12_lowest_42 (lv_at hl 2 rfl) ?_
        refine lv_if_ne (tgt := 51) hx hb d_X12_lowest_44 (by decide) (fun c44 => ?_) (fun c44 => ?_)
        · have hf := fm_ig c44 hf
          refine lv_lload_n hx hb d_X12_lowest_51 rfl (lv_at hl 1 rfl) ?_
          refine lv_lload hx hb d_X12_lowest_52 (lv_at hl 3 rfl) ?_
          by_cases hz54 : j5 = 0
          · rw [if_pos hz54] at hf; cases hf
          have hf := fm_ig hz54 hf
          refine lv_ldiv hx hb d_X12_lowest_54 hz54 ?_
          rw [← hQ]; exact fm_retl Z hr hlk F d_X12_lowest_55 (Option.some.inj hf) rfl
        · have hf := fm_ip c44 hf
          refine lv_lload_n hx hb d_X12_lowest_47 rfl (lv_at hl 0 rfl) ?_
          refine lv_goto (tgt := 52) hx hb d_X12_lowest_48 (by decide) ?_
          refine lv_lload hx hb d_X12_lowest_52 (lv_at hl 3 rfl) ?_
          by_cases hz54 : j5 = 0
          · rw [if_pos hz54] at hf; cases hf
          have hf := fm_ig hz54 hf
          refine lv_ldiv hx hb d_X12_lowest_54 hz54 ?_
          rw [← hQ]; exact fm_retl Z hr hlk F d_X12_lowest_55 (Option.some.inj hf) rfl
      · have hf := fm_ig c21 hf
        refine lv_lload hx hb d_X12_lowest_24 (lv_at hl 3 rfl) ?_
        refine lv_lload hx hb d_X12_lowest_26 (lv_at hl 4 rfl) ?_
        by_cases hz28 : j7 = 0
        · rw [if_pos hz28] at hf; cases hf
        have hf := fm_ig hz28 hf
        refine lv_lrem hx hb d_X12_lowest_28 hz28 ?_
        refine lv_topl (fun l29 el29 => ?_)
        have hf := fm_let_at el29 hf
        refine lv_lstore (lv' := [(9, .long l29), (0, .long j0), (2, .long j2), (4, .int a4), (5, .long j5), (7, .long j7)]) hx hb d_X12_lowest_29 hl (by decide) rfl (fun ls hl => ?_)
        refine lv_lload hx hb d_X12_lowest_31 (lv_at hl 5 rfl) ?_
        refine lv_lstore (lv' := [(5, .long j7), (9, .long l29), (0, .long j0), (2, .long j2), (4, .int a4), (7, .long j7)]) hx hb d_X12_lowest_33 hl (by decide) rfl (fun ls hl => ?_)
        refine lv_lload hx hb d_X12_lowest_35 (lv_at hl 1 rfl) ?_
        refine lv_lstore (lv' := [(7, .long l29), (5, .long j7), (9, .long l29), (0, .long j0), (2, .long j2), (4, .int a4)]) hx hb d_X12_lowest_37 hl (by decide) rfl (fun ls hl => ?_)
        refine lv_goto (tgt := 17) hx hb d_X12_lowest_39 (by decide) ?_
        exact ih j0 j2 a4 j7 l29 _ _ _ F (lv_sub hl [3, 4, 5, 1, 0] rfl) hf
  unfold m_X12_lowest at hf
  refine lv_lload_n hx hb d_X12_lowest_0 rfl (lv_at hl 0 rfl) ?_
  refine lv_lconst (v := 0) hx hb d_X12_lowest_1 (by decide) ?_
  refine W.lcmp hx hb d_X12_lowest_2 ?_
  refine lv_if_ge (tgt := 11) hx hb d_X12_lowest_3 (by decide) (fun c3 => ?_) (fun c3 => ?_)
  · have hf := fm_ip c3 hf
    refine lv_lload_n hx hb d_X12_lowest_11 rfl (lv_at hl 0 rfl) ?_
    refine lv_lstore (lv' := [(5, .long j0), (0, .long j0), (2, .long j2), (4, .int a4)]) hx hb d_X12_lowest_12 hl (by decide) rfl (fun ls hl => ?_)
    refine lv_lload_n hx hb d_X12_lowest_14 rfl (lv_at hl 2 rfl) ?_
    refine lv_lstore (lv' := [(7, .long j2), (5, .long j0), (0, .long j0), (2, .long j2), (4, .int a4)]) hx hb d_X12_lowest_15 hl (by decide) rfl (fun ls hl => ?_)
    exact (hL fm_LF) j0 j2 a4 j0 j2 _ _ _ F (lv_sub hl [2, 3, 4, 1, 0] rfl) hf
  · have hf := fm_ig c3 hf
    refine lv_lload_n hx hb d_X12_lowest_6 rfl (lv_at hl 0 rfl) ?_
    refine lv_lneg hx hb d_X12_lowest_7 ?_
    refine lv_goto (tgt := 12) hx hb d_X12_lowest_8 (by decide) ?_
    refine lv_topl (fun l12 el12 => ?_)
    have hf := fm_let_at el12 hf
    refine lv_lstore (lv' := [(5, .long l12), (0, .long j0), (2, .long j2), (4, .int a4)]) hx hb d_X12_lowest_12 hl (by decide) rfl (fun ls hl => ?_)
    refine lv_lload_n hx hb d_X12_lowest_14 rfl (lv_at hl 2 rfl) ?_
    refine lv_lstore (lv' := [(7, .long j2), (5, .long l12), (0, .long j0), (2, .long j2), (4, .int a4)]) hx hb d_X12_lowest_15 hl (by decide) rfl (fun ls hl => ?_)
    exact (hL fm_LF) j0 j2 a4 l12 j2 _ _ _ F (lv_sub hl [2, 3, 4, 1, 0] rfl) hf
theorem d_X12_odds_0 : decode prog_14_method_63_code 0 = .ok (.aload_n 0, 1) := by decide +kernel
theorem d_X12_odds_1 : decode prog_14_method_63_code 1 = .ok (.iload_n 1, 1) := by decide +kernel
theorem d_X12_odds_2 : decode prog_14_method_63_code 2 = .ok (.invokevirtual 140, 3) := by decide +kernel
theorem d_X12_odds_5 : decode prog_14_method_63_code 5 = .ok (.ifCond .eq 34, 3) := by decide +kernel
theorem d_X12_odds_8 : decode prog_14_method_63_code 8 = .ok (.iload_n 2, 1) := by decide +kernel
theorem d_X12_odds_9 : decode prog_14_method_63_code 9 = .ok (.iconst 0, 1) := by decide +kernel
theorem d_X12_odds_10 : decode prog_14_method_63_code 10 = .ok (.bipush 60, 2) := by decide +kernel
theorem d_X12_odds_12 : decode prog_14_method_63_code 12 = .ok (.invokestatic 44, 3) := by decide +kernel
theorem d_X12_odds_15 : decode prog_14_method_63_code 15 = .ok (.ifCond .eq 24, 3) := by decide +kernel
theorem d_X12_odds_18 : decode prog_14_method_63_code 18 = .ok (.iload_n 3, 1) := by decide +kernel
theorem d_X12_odds_19 : decode prog_14_method_63_code 19 = .ok (.iconst 0, 1) := by decide +kernel
theorem d_X12_odds_20 : decode prog_14_method_63_code 20 = .ok (.sipush 999, 3) := by decide +kernel
theorem d_X12_odds_23 : decode prog_14_method_63_code 23 = .ok (.invokestatic 44, 3) := by decide +kernel
theorem d_X12_odds_26 : decode prog_14_method_63_code 26 = .ok (.ifCond .eq 13, 3) := by decide +kernel
theorem d_X12_odds_29 : decode prog_14_method_63_code 29 = .ok (.iload 4, 2) := by decide +kernel
theorem d_X12_odds_31 : decode prog_14_method_63_code 31 = .ok (.iconst 0, 1) := by decide +kernel
theorem d_X12_odds_32 : decode prog_14_method_63_code 32 = .ok (.iconst 1, 1) := by decide +kernel
theorem d_X12_odds_33 : decode prog_14_method_63_code 33 = .ok (.invokestatic 44, 3) := by decide +kernel
theorem d_X12_odds_36 : decode prog_14_method_63_code 36 = .ok (.ifCond .ne 7, 3) := by decide +kernel
theorem d_X12_odds_39 : decode prog_14_method_63_code 39 = .ok (.ldc2_w 212, 3) := by decide +kernel
theorem d_X12_odds_42 : decode prog_14_method_63_code 42 = .ok (.lreturn, 1) := by decide +kernel
theorem d_X12_odds_43 : decode prog_14_method_63_code 43 = .ok (.lconst 0, 1) := by decide +kernel
theorem d_X12_odds_44 : decode prog_14_method_63_code 44 = .ok (.lstore 5, 2) := by decide +kernel
theorem d_X12_odds_46 : decode prog_14_method_63_code 46 = .ok (.iconst 0, 1) := by decide +kernel
theorem d_X12_odds_47 : decode prog_14_method_63_code 47 = .ok (.istore 7, 2) := by decide +kernel
theorem d_X12_odds_49 : decode prog_14_method_63_code 49 = .ok (.iload 7, 2) := by decide +kernel
theorem d_X12_odds_51 : decode prog_14_method_63_code 51 = .ok (.bipush 20, 2) := by decide +kernel
theorem d_X12_odds_53 : decode prog_14_method_63_code 53 = .ok (.if_icmp .gt 50, 3) := by decide +kernel
theorem d_X12_odds_56 : decode prog_14_method_63_code 56 = .ok (.aload_n 0, 1) := by decide +kernel
theorem d_X12_odds_57 : decode prog_14_method_63_code 57 = .ok (.invokevirtual 177, 3) := by decide +kernel
theorem d_X12_odds_60 : decode prog_14_method_63_code 60 = .ok (.aload_n 0, 1) := by decide +kernel
theorem d_X12_odds_61 : decode prog_14_method_63_code 61 = .ok (.getfield 9, 3) := by decide +kernel
theorem d_X12_odds_64 : decode prog_14_method_63_code 64 = .ok (.iconst 1, 1) := by decide +kernel
theorem d_X12_odds_65 : decode prog_14_method_63_code 65 = .ok (.iload 7, 2) := by decide +kernel
theorem d_X12_odds_67 : decode prog_14_method_63_code 67 = .ok (.iastore, 1) := by decide +kernel
theorem d_X12_odds_68 : decode prog_14_method_63_code 68 = .ok (.aload_n 0, 1) := by decide +kernel
theorem d_X12_odds_69 : decode prog_14_method_63_code 69 = .ok (.iload_n 1, 1) := by decide +kernel
theorem d_X12_odds_70 : decode prog_14_method_63_code 70 = .ok (.iload_n 2, 1) := by decide +kernel
theorem d_X12_odds_71 : decode prog_14_method_63_code 71 = .ok (.invokevirtual 183, 3) := by decide +kernel
theorem d_X12_odds_74 : decode prog_14_method_63_code 74 = .ok (.lload 5, 2) := by decide +kernel
theorem d_X12_odds_76 : decode prog_14_method_63_code 76 = .ok (.aload_n 0, 1) := by decide +kernel
theorem d_X12_odds_77 : decode prog_14_method_63_code 77 = .ok (.iload_n 1, 1) := by decide +kernel
theorem d_X12_odds_78 : decode prog_14_method_63_code 78 = .ok (.invokevirtual 136, 3) := by decide +kernel
theorem d_X12_odds_81 : decode prog_14_method_63_code 81 = .ok (.iload_n 3, 1) := by decide +kernel
theorem d_X12_odds_82 : decode prog_14_method_63_code 82 = .ok (.if_icmp .lt 7, 3) := by decide +kernel
theorem d_X12_odds_85 : decode prog_14_method_63_code 85 = .ok (.lconst 1, 1) := by decide +kernel
theorem d_X12_odds_86 : decode prog_14_method_63_code 86 = .ok (.goto 4, 3) := by decide +kernel
theorem d_X12_odds_89 : decode prog_14_method_63_code 89 = .ok (.lconst 0, 1) := by decide +kernel
theorem d_X12_odds_90 : decode prog_14_method_63_code 90 = .ok (.ladd, 1) := by decide +kernel
theorem d_X12_odds_91 : decode prog_14_method_63_code 91 = .ok (.lstore 5, 2) := by decide +kernel
theorem d_X12_odds_93 : decode prog_14_method_63_code 93 = .ok (.aload_n 0, 1) := by decide +kernel
theorem d_X12_odds_94 : decode prog_14_method_63_code 94 = .ok (.invokevirtual 180, 3) := by decide +kernel
theorem d_X12_odds_97 : decode prog_14_method_63_code 97 = .ok (.iinc 7 1, 3) := by decide +kernel
theorem d_X12_odds_100 : decode prog_14_method_63_code 100 = .ok (.goto (-51), 3) := by decide +kernel
theorem d_X12_odds_103 : decode prog_14_method_63_code 103 = .ok (.lload 5, 2) := by decide +kernel
theorem d_X12_odds_105 : decode prog_14_method_63_code 105 = .ok (.ldc2_w 214, 3) := by decide +kernel
theorem d_X12_odds_108 : decode prog_14_method_63_code 108 = .ok (.iload 4, 2) := by decide +kernel
theorem d_X12_odds_110 : decode prog_14_method_63_code 110 = .ok (.invokestatic 216, 3) := by decide +kernel
theorem d_X12_odds_113 : decode prog_14_method_63_code 113 = .ok (.lreturn, 1) := by decide +kernel
def k_X12_odds_49 (kap lam : Nat → Nat) (go49 : Nat → Int32 → Int32 → Int32 → Int32 → Int64 → Int32 → fm_M → Option (Int64 × fm_M)) (r0 : Nat) (a1 : Int32) (a2 : Int32) (a3 : Int32) (a4 : Int32) (j5 : Int64) (a7 : Int32)  (S : fm_M) : Option (Int64 × fm_M) :=
  if 20 < a7 then (
   fm_b1 (m_X12_lowest kap lam j5 21 a4 S) fun l110 =>
   some (l110, S)
  ) else (
   fm_ck (kap r0 == 12) <|
   fm_b1 (m_X12_keeps kap lam r0 S) fun S57 =>
   fm_gr kap 12 r0 1 S57 fun q61 =>
   fm_st kap lam q61 1 a7 S57 fun S67 =>
   fm_ck (kap r0 == 12) <|
   fm_b1 (m_X12_freezesOn kap lam r0 a1 a2 S67) fun S71 =>
   fm_ck (kap r0 == 12) <|
   fm_b1 (m_X12_offerOf kap lam r0 a1 S71) fun x78 =>
   if x78 < a3 then (
    fm_let (j5 + 0 : Int64) fun l91 =>
    fm_ck (kap r0 == 12) <|
    fm_b1 (m_X12_goesBack kap lam r0 S71) fun S94 =>
    fm_let (a7 + 1 : Int32) fun x97 =>
    go49 r0 a1 a2 a3 a4 l91 x97 S94
   ) else (
    fm_let (j5 + 1 : Int64) fun l91 =>
    fm_ck (kap r0 == 12) <|
    fm_b1 (m_X12_goesBack kap lam r0 S71) fun S94 =>
    fm_let (a7 + 1 : Int32) fun x97 =>
    go49 r0 a1 a2 a3 a4 l91 x97 S94
   )
  )
def b_X12_odds_49 (kap lam : Nat → Nat) : Nat → Nat → Int32 → Int32 → Int32 → Int32 → Int64 → Int32 → fm_M → Option (Int64 × fm_M)
  | 0 => fun _ _ _ _ _ _ _ _ => none
  | n + 1 => k_X12_odds_49 kap lam (b_X12_odds_49 kap lam n)
def m_X12_odds (kap lam : Nat → Nat) (r0 : Nat) (a1 : Int32) (a2 : Int32) (a3 : Int32) (a4 : Int32) (S : fm_M) : Option (Int64 × fm_M) :=
  fm_ck (kap r0 == 12) <|
  fm_b1 (m_X12_isPane kap lam r0 a1 S) fun x2 =>
  if x2 = 0 then (
   some ((-9223372036854775808), S)
  ) else (
   fm_b1 (m_X12_in kap lam a2 0 60 S) fun x12 =>
   if x12 = 0 then (
    some ((-9223372036854775808), S)
   ) else (
    fm_b1 (m_X12_in kap lam a3 0 999 S) fun x23 =>
    if x23 = 0 then (
     some ((-9223372036854775808), S)
    ) else (
     fm_b1 (m_X12_in kap lam a4 0 1 S) fun x33 =>
     if x33 = 0 then (
      some ((-9223372036854775808), S)
     ) else (
      fm_let (0 : Int64) fun l44 =>
      fm_let (0 : Int32) fun x47 =>
      b_X12_odds_49 kap lam fm_LF r0 a1 a2 a3 a4 l44 x47 S
     )
    )
   )
  )
set_option maxHeartbeats 4000000 in
set_option maxRecDepth 100000 in
theorem c_X12_odds {l : Launch} {D : va_G} {ids kap lam : Nat → Nat} {RL : List Nat} {ad sk sv : Nat → Nat} {S : fm_M} {r0 : Nat} {a1 : Int32} {a2 : Int32} {a3 : Int32} {a4 : Int32} {r : Int64} {u : fm_M} (hE : fm_E kap RL ad) (hf : m_X12_odds kap lam r0 a1 a2 a3 a4 S = some (r, u)) (sz : Nat) : fm_ML l y_X12_odds prog_14_method_63_code 8 (Option.some Jvm.ClassFile.FieldType.long) 6 D ids kap lam RL ad sk sv S [.ref (ad r0), .int a1, .int a2, .int a3, .int a4] sz r u := by
  refine fm_open rfl hE (Nat.le_of_ble_eq_true rfl) (fun p e s m args below meth c ls Z hr hlk G F N hl hsz => ?_)
  subst hsz
  obtain ⟨hx, hb, hml, hown, hts⟩ := id Z
  have hl : lv_has ls 8 [(0, .ref (ad r0)), (1, .int a1), (2, .int a2), (3, .int a3), (4, .int a4)] := hl
  generalize hQ : MQ below _ args s 0 0 (fm_A RL ad s.heap.size) = Qf
  have hL : ∀ n : Nat, (∀ (r0 : Nat) (a1 : Int32) (a2 : Int32) (a3 : Int32) (a4 : Int32) (j5 : Int64) (a7 : Int32)  (S : fm_M) (H : Heap) (locs : List Loc) (ls : Array Slot), fm_F D ids kap lam RL ad S (fm_A RL ad s.heap.size) s.heap H locs → lv_has ls 8 [(0, .ref (ad r0)), (1, .int a1), (2, .int a2), (3, .int a3), (4, .int a4), (5, .long j5), (7, .int a7)] → b_X12_odds_49 kap lam n r0 a1 a2 a3 a4 j5 a7 S = some (r, u) → W p l e (fm_rm 6) s m args below meth c H locs 0 0 Qf (F0 m 49 ls [])) := by
    intro n
    induction n with
    | zero => exact fun _ _ _ _ _ _ _ _ _ _ _ _ _ hf => absurd hf (by intro h; cases h)
    | succ n ih =>
      intro r0 a1 a2 a3 a4 j5 a7 S H locs ls F hl hf
      have hf : k_X12_odds_49 kap lam (b_X12_odds_49 kap lam n) r0 a1 a2 a3 a4 j5 a7 S = some (r, u) := hf
      unfold k_X12_odds_49 at hf
      refine lv_iload hx hb d_X12_odds_49 (lv_at hl 6 rfl) ?_
      refine lv_bipush (v := 20) hx hb d_X12_odds_51 (by decide) ?_
      refine lv_icmp_gt (tgt := 103) hx hb d_X12_odds_53 (by decide) (fun c53 => ?_) (fun c53 => ?_)
      · have hf := fm_ip c53 hf
        refine lv_lload hx hb d_X12_odds_103 (lv_at hl 5 rfl) ?_
        refine lv_ldc2 (v := 21) hx hb hown (hts _ (fm_in kw_1249 rfl)) d_X12_odds_105 ?_
        refine lv_iload hx hb d_X12_odds_108 (lv_at hl 4 rfl) ?_
        refine fm_rcl G F hf (fun r ho => fm_runS (k := 3) Z G F N (As := [.long j5, .long 21, .int a4]) (rest := []) (c_X12_lowest hE ho _) kw_1250 kw_1251 kw_6 kw_1252 yd_X12_lowest rfl (by decide) (by decide) hl.1 (Nat.le_of_ble_eq_true rfl) d_X12_odds_110 (Nat.le_refl 0) (Nat.le_refl 0)) (fun l110 H locs _ F hf => ?_)
        rw [← hQ]; exact fm_retl Z hr hlk F d_X12_odds_113 (Prod.mk.inj (Option.some.inj hf)).1 (Prod.mk.inj (Option.some.inj hf)).2
      · have hf := fm_ig c53 hf
        refine lv_aload_n hx hb d_X12_odds_56 rfl (lv_at hl 0 rfl) ?_
        obtain ⟨hk57, hf⟩ := fm_some hf
        refine fm_rcv G F hf (fun u ho => fm_runV (k := 0) Z G F N (As := []) (rest := []) (c_X12_keeps hE ho _) (by rw [eq_of_beq hk57]; decide) (by rw [eq_of_beq hk57]; rfl) kw_1173 kw_1175 kp_52 kw_6 kw_1176 yd_X12_keeps rfl (by decide) (by decide) hl.1 (Nat.le_of_ble_eq_true rfl) d_X12_odds_57 (Nat.le_refl 0) (Nat.le_refl 0)) (fun S57 H locs _ F hf => ?_)
        refine lv_aload_n hx hb d_X12_odds_60 rfl (lv_at hl 0 rfl) ?_
        refine fm_rgr Z G F hf fr_X12_9 d_X12_odds_61 (fun q61 _ hf => ?_)
        refine lv_iconst (v := 1) hx hb d_X12_odds_64 (by decide) ?_
        refine lv_iload hx hb d_X12_odds_65 (lv_at hl 6 rfl) ?_
        refine fm_rst Z G F hf d_X12_odds_67 (fun S67 H locs _ F hf => ?_)
        refine lv_aload_n hx hb d_X12_odds_68 rfl (lv_at hl 0 rfl) ?_
        refine lv_iload_n hx hb d_X12_odds_69 rfl (lv_at hl 1 rfl) ?_
        refine lv_iload_n hx hb d_X12_odds_70 rfl (lv_at hl 2 rfl) ?_
        obtain ⟨hk71, hf⟩ := fm_some hf
        refine fm_rcv G F hf (fun u ho => fm_runV (k := 2) Z G F N (As := [.int a1, .int a2]) (rest := []) (c_X12_freezesOn hE ho _) (by rw [eq_of_beq hk71]; decide) (by rw [eq_of_beq hk71]; rfl) kw_1185 kw_1187 kp_54 kw_6 kw_1188 yd_X12_freezesOn rfl (by decide) (by decide) hl.1 (Nat.le_of_ble_eq_true rfl) d_X12_odds_71 (Nat.le_refl 0) (Nat.le_refl 0)) (fun S71 H locs _ F hf => ?_)
        refine lv_lload hx hb d_X12_odds_74 (lv_at hl 5 rfl) ?_
        refine lv_aload_n hx hb d_X12_odds_76 rfl (lv_at hl 0 rfl) ?_
        refine lv_iload_n hx hb d_X12_odds_77 rfl (lv_at hl 1 rfl) ?_
        obtain ⟨hk78, hf⟩ := fm_some hf
        refine fm_rcr G F hf (fun r ho => fm_runV (k := 1) Z G F N (As := [.int a1]) (rest := [.long j5]) (c_X12_offerOf hE ho _) (by rw [eq_of_beq hk78]; decide) (by rw [eq_of_beq hk78]; rfl) kw_1079 kw_1081 kp_38 kw_6 kw_1082 yd_X12_offerOf rfl (by decide) (by decide) hl.1 (Nat.le_of_ble_eq_true rfl) d_X12_odds_78 (Nat.le_refl 0) (Nat.le_refl 0)) (fun x78 H locs _ F hf => ?_)
        refine lv_iload_n hx hb d_X12_odds_81 rfl (lv_at hl 3 rfl) ?_
        refine lv_icmp_lt (tgt := 89) hx hb d_X12_odds_82 (by decide) (fun c82 => ?_) (fun c82 => ?_)
        · have hf := fm_ip c82 hf
          refine lv_lconst (v := 0) hx hb d_X12_odds_89 (by decide) ?_
          refine lv_ladd hx hb d_X12_odds_90 ?_
          refine lv_topl (fun l91 el91 => ?_)
          have hf := fm_let_at el91 hf
          refine lv_lstore (lv' := [(5, .long l91), (0, .ref (ad r0)), (1, .int a1), (2, .int a2), (3, .int a3), (4, .int a4), (7, .int a7)]) hx hb d_X12_odds_91 hl (by decide) rfl (fun ls hl => ?_)
          refine lv_aload_n hx hb d_X12_odds_93 rfl (lv_at hl 1 rfl) ?_
          obtain ⟨hk94, hf⟩ := fm_some hf
          refine fm_rcv G F hf (fun u ho => fm_runV (k := 0) Z G F N (As := []) (rest := []) (c_X12_goesBack hE ho _) (by rw [eq_of_beq hk94]; decide) (by rw [eq_of_beq hk94]; rfl) kw_1177 kw_1179 kp_53 kw_6 kw_1180 yd_X12_goesBack rfl (by decide) (by decide) hl.1 (Nat.le_of_ble_eq_true rfl) d_X12_odds_94 (Nat.le_refl 0) (Nat.le_refl 0)) (fun S94 H locs _ F hf => ?_)
          obtain ⟨x97, ex97⟩ : ∃ y : Int32, y = a7 + 1 := ⟨_, rfl⟩
          have hf := fm_let_at ex97 hf
          refine lv_iinc (v := x97) (lv' := [(7, .int x97), (5, .long l91), (0, .ref (ad r0)), (1, .int a1), (2, .int a2), (3, .int a3), (4, .int a4)]) hx hb d_X12_odds_97 hl (k := 6) rfl (by rw [ex97]; rfl) (by decide) rfl (fun ls hl => ?_)
          refine lv_goto (tgt := 49) hx hb d_X12_odds_100 (by decide) ?_
          exact ih r0 a1 a2 a3 a4 l91 x97 S94 _ _ _ F (lv_sub hl [2, 3, 4, 5, 6, 1, 0] rfl) hf
        · have hf := fm_ig c82 hf
          refine lv_lconst (v := 1) hx hb d_X12_odds_85 (by decide) ?_
          refine lv_goto (tgt := 90) hx hb d_X12_odds_86 (by decide) ?_
          refine lv_ladd hx hb d_X12_odds_90 ?_
          refine lv_topl (fun l91 el91 => ?_)
          have hf := fm_let_at el91 hf
          refine lv_lstore (lv' := [(5, .long l91), (0, .ref (ad r0)), (1, .int a1), (2, .int a2), (3, .int a3), (4, .int a4), (7, .int a7)]) hx hb d_X12_odds_91 hl (by decide) rfl (fun ls hl => ?_)
          refine lv_aload_n hx hb d_X12_odds_93 rfl (lv_at hl 1 rfl) ?_
          obtain ⟨hk94, hf⟩ := fm_some hf
          refine fm_rcv G F hf (fun u ho => fm_runV (k := 0) Z G F N (As := []) (rest := []) (c_X12_goesBack hE ho _) (by rw [eq_of_beq hk94]; decide) (by rw [eq_of_beq hk94]; rfl) kw_1177 kw_1179 kp_53 kw_6 kw_1180 yd_X12_goesBack rfl (by decide) (by decide) hl.1 (Nat.le_of_ble_eq_true rfl) d_X12_odds_94 (Nat.le_refl 0) (Nat.le_refl 0)) (fun S94 H locs _ F hf => ?_)
          obtain ⟨x97, ex97⟩ : ∃ y : Int32, y = a7 + 1 := ⟨_, rfl⟩
          have hf := fm_let_at ex97 hf
          refine lv_iinc (v := x97) (lv' := [(7, .int x97), (5, .long l91), (0, .ref (ad r0)), (1, .int a1), (2, .int a2), (3, .int a3), (4, .int a4)]) hx hb d_X12_odds_97 hl (k := 6) rfl (by rw [ex97]; rfl) (by decide) rfl (fun ls hl => ?_)
          refine lv_goto (tgt := 49) hx hb d_X12_odds_100 (by decide) ?_
          exact ih r0 a1 a2 a3 a4 l91 x97 S94 _ _ _ F (lv_sub hl [2, 3, 4, 5, 6, 1, 0] rfl) hf
  unfold m_X12_odds at hf
  refine lv_aload_n hx hb d_X12_odds_0 rfl (lv_at hl 0 rfl) ?_
  refine lv_iload_n hx hb d_X12_odds_1 rfl (lv_at hl 1 rfl) ?_
  obtain ⟨hk2, hf⟩ := fm_some hf
  refine fm_rcr G F hf (fun r ho => fm_runV (k := 1) Z G F N (As := [.int a1]) (rest := []) (c_X12_isPane hE ho _) (by rw [eq_of_beq hk2]; decide) (by rw [eq_of_beq hk2]; rfl) kw_1075 kw_1077 kp_37 kw_6 kw_1078 yd_X12_isPane rfl (by decide) (by decide) hl.1 (Nat.le_of_ble_eq_true rfl) d_X12_odds_2 (Nat.le_refl 0) (Nat.le_refl 0)) (fun x2 H locs _ F hf => ?_)
  refine lv_if_eq (tgt := 39) hx hb d_X12_odds_5 (by decide) (fun c5 => ?_) (fun c5 => ?_)
  · have hf := fm_ip c5 hf
    refine lv_ldc2 (v := (-9223372036854775808)) hx hb hown (hts _ (fm_in kw_1248 rfl)) d_X12_odds_39 ?_
    rw [← hQ]; exact fm_retl Z hr hlk F d_X12_odds_42 (Prod.mk.inj (Option.some.inj hf)).1 (Prod.mk.inj (Option.some.inj hf)).2
  · have hf := fm_ig c5 hf
    refine lv_iload_n hx hb d_X12_odds_8 rfl (lv_at hl 2 rfl) ?_
    refine lv_iconst (v := 0) hx hb d_X12_odds_9 (by decide) ?_
    refine lv_bipush (v := 60) hx hb d_X12_odds_10 (by decide) ?_
    refine fm_rcr G F hf (fun r ho => fm_runS (k := 3) Z G F N (As := [.int a2, .int 0, .int 60]) (rest := []) (c_X12_in hE ho _) kw_1004 kw_1005 kw_6 kw_1006 yd_X12_in rfl (by decide) (by decide) hl.1 (Nat.le_of_ble_eq_true rfl) d_X12_odds_12 (Nat.le_refl 0) (Nat.le_refl 0)) (fun x12 H locs _ F hf => ?_)
    refine lv_if_eq (tgt := 39) hx hb d_X12_odds_15 (by decide) (fun c15 => ?_) (fun c15 => ?_)
    · have hf := fm_ip c15 hf
      refine lv_ldc2 (v := (-9223372036854775808)) hx hb hown (hts _ (fm_in kw_1248 rfl)) d_X12_odds_39 ?_
      rw [← hQ]; exact fm_retl Z hr hlk F d_X12_odds_42 (Prod.mk.inj (Option.some.inj hf)).1 (Prod.mk.inj (Option.some.inj hf)).2
    · have hf := fm_ig c15 hf
      refine lv_iload_n hx hb d_X12_odds_18 rfl (lv_at hl 3 rfl) ?_
      refine lv_iconst (v := 0) hx hb d_X12_odds_19 (by decide) ?_
      refine lv_sipush (v := 999) hx hb d_X12_odds_20 (by decide) ?_
      refine fm_rcr G F hf (fun r ho => fm_runS (k := 3) Z G F N (As := [.int a3, .int 0, .int 999]) (rest := []) (c_X12_in hE ho _) kw_1004 kw_1005 kw_6 kw_1006 yd_X12_in rfl (by decide) (by decide) hl.1 (Nat.le_of_ble_eq_true rfl) d_X12_odds_23 (Nat.le_refl 0) (Nat.le_refl 0)) (fun x23 H locs _ F hf => ?_)
      refine lv_if_eq (tgt := 39) hx hb d_X12_odds_26 (by decide) (fun c26 => ?_) (fun c26 => ?_)
      · have hf := fm_ip c26 hf
        refine lv_ldc2 (v := (-9223372036854775808)) hx hb hown (hts _ (fm_in kw_1248 rfl)) d_X12_odds_39 ?_
        rw [← hQ]; exact fm_retl Z hr hlk F d_X12_odds_42 (Prod.mk.inj (Option.some.inj hf)).1 (Prod.mk.inj (Option.some.inj hf)).2
      · have hf := fm_ig c26 hf
        refine lv_iload hx hb d_X12_odds_29 (lv_at hl 4 rfl) ?_
        refine lv_iconst (v := 0) hx hb d_X12_odds_31 (by decide) ?_
        refine lv_iconst (v := 1) hx hb d_X12_odds_32 (by decide) ?_
        refine fm_rcr G F hf (fun r ho => fm_runS (k := 3) Z G F N (As := [.int a4, .int 0, .int 1]) (rest := []) (c_X12_in hE ho _) kw_1004 kw_1005 kw_6 kw_1006 yd_X12_in rfl (by decide) (by decide) hl.1 (Nat.le_of_ble_eq_true rfl) d_X12_odds_33 (Nat.le_refl 0) (Nat.le_refl 0)) (fun x33 H locs _ F hf => ?_)
        refine lv_if_ne (tgt := 43) hx hb d_X12_odds_36 (by decide) (fun c36 => ?_) (fun c36 => ?_)
        · have hf := fm_ig c36 hf
          refine lv_lconst (v := 0) hx hb d_X12_odds_43 (by decide) ?_
          refine lv_topl (fun l44 el44 => ?_)
          have hf := fm_let_at el44 hf
          refine lv_lstore (lv' := [(5, .long l44), (0, .ref (ad r0)), (1, .int a1), (2, .int a2), (3, .int a3), (4, .int a4)]) hx hb d_X12_odds_44 hl (by decide) rfl (fun ls hl => ?_)
          refine lv_iconst (v := 0) hx hb d_X12_odds_46 (by decide) ?_
          refine lv_topi (fun x47 ex47 => ?_)
          have hf := fm_let_at ex47 hf
          refine lv_istore (lv' := [(7, .int x47), (5, .long l44), (0, .ref (ad r0)), (1, .int a1), (2, .int a2), (3, .int a3), (4, .int a4)]) hx hb d_X12_odds_47 hl (by decide) rfl (fun ls hl => ?_)
          exact (hL fm_LF) r0 a1 a2 a3 a4 l44 x47 S _ _ _ F (lv_sub hl [2, 3, 4, 5, 6, 1, 0] rfl) hf
        · have hf := fm_ip c36 hf
          refine lv_ldc2 (v := (-9223372036854775808)) hx hb hown (hts _ (fm_in kw_1248 rfl)) d_X12_odds_39 ?_
          rw [← hQ]; exact fm_retl Z hr hlk F d_X12_odds_42 (Prod.mk.inj (Option.some.inj hf)).1 (Prod.mk.inj (Option.some.inj hf)).2
theorem d_X12_mean_0 : decode prog_14_method_64_code 0 = .ok (.iload_n 1, 1) := by decide +kernel
theorem d_X12_mean_1 : decode prog_14_method_64_code 1 = .ok (.iconst 0, 1) := by decide +kernel
theorem d_X12_mean_2 : decode prog_14_method_64_code 2 = .ok (.iconst 1, 1) := by decide +kernel
theorem d_X12_mean_3 : decode prog_14_method_64_code 3 = .ok (.invokestatic 44, 3) := by decide +kernel
theorem d_X12_mean_6 : decode prog_14_method_64_code 6 = .ok (.ifCond .eq 13, 3) := by decide +kernel
theorem d_X12_mean_9 : decode prog_14_method_64_code 9 = .ok (.aload_n 0, 1) := by decide +kernel
theorem d_X12_mean_10 : decode prog_14_method_64_code 10 = .ok (.getfield 9, 3) := by decide +kernel
theorem d_X12_mean_13 : decode prog_14_method_64_code 13 = .ok (.bipush 21, 2) := by decide +kernel
theorem d_X12_mean_15 : decode prog_14_method_64_code 15 = .ok (.iaload, 1) := by decide +kernel
theorem d_X12_mean_16 : decode prog_14_method_64_code 16 = .ok (.ifCond .ne 9, 3) := by decide +kernel
theorem d_X12_mean_19 : decode prog_14_method_64_code 19 = .ok (.ldc2_w 212, 3) := by decide +kernel
theorem d_X12_mean_22 : decode prog_14_method_64_code 22 = .ok (.goto 20, 3) := by decide +kernel
theorem d_X12_mean_25 : decode prog_14_method_64_code 25 = .ok (.aload_n 0, 1) := by decide +kernel
theorem d_X12_mean_26 : decode prog_14_method_64_code 26 = .ok (.invokevirtual 158, 3) := by decide +kernel
theorem d_X12_mean_29 : decode prog_14_method_64_code 29 = .ok (.i2l, 1) := by decide +kernel
theorem d_X12_mean_30 : decode prog_14_method_64_code 30 = .ok (.aload_n 0, 1) := by decide +kernel
theorem d_X12_mean_31 : decode prog_14_method_64_code 31 = .ok (.getfield 9, 3) := by decide +kernel
theorem d_X12_mean_34 : decode prog_14_method_64_code 34 = .ok (.bipush 21, 2) := by decide +kernel
theorem d_X12_mean_36 : decode prog_14_method_64_code 36 = .ok (.iaload, 1) := by decide +kernel
theorem d_X12_mean_37 : decode prog_14_method_64_code 37 = .ok (.i2l, 1) := by decide +kernel
theorem d_X12_mean_38 : decode prog_14_method_64_code 38 = .ok (.iload_n 1, 1) := by decide +kernel
theorem d_X12_mean_39 : decode prog_14_method_64_code 39 = .ok (.invokestatic 216, 3) := by decide +kernel
theorem d_X12_mean_42 : decode prog_14_method_64_code 42 = .ok (.lreturn, 1) := by decide +kernel
def m_X12_mean (kap lam : Nat → Nat) (r0 : Nat) (a1 : Int32) (S : fm_M) : Option Int64 :=
  fm_b1 (m_X12_in kap lam a1 0 1 S) fun x3 =>
  if x3 = 0 then (
   some (-9223372036854775808)
  ) else (
   fm_gr kap 12 r0 1 S fun q10 =>
   fm_ld kap lam 13 q10 21 S fun x15 =>
   if x15 = 0 then (
    some (-9223372036854775808)
   ) else (
    fm_ck (kap r0 == 12) <|
    fm_b1 (m_X12_offers kap lam r0 S) fun x26 =>
    fm_gr kap 12 r0 1 S fun q31 =>
    fm_ld kap lam 13 q31 21 S fun x36 =>
    fm_b1 (m_X12_lowest kap lam (x26.toInt64) (x36.toInt64) a1 S) fun l39 =>
    some l39
   )
  )
set_option maxHeartbeats 4000000 in
set_option maxRecDepth 100000 in
theorem c_X12_mean {l : Launch} {D : va_G} {ids kap lam : Nat → Nat} {RL : List Nat} {ad sk sv : Nat → Nat} {S : fm_M} {r0 : Nat} {a1 : Int32} {r : Int64} (hE : fm_E kap RL ad) (hf : m_X12_mean kap lam r0 a1 S = some r) (sz : Nat) : fm_ML l y_X12_mean prog_14_method_64_code 2 (Option.some Jvm.ClassFile.FieldType.long) 3 D ids kap lam RL ad sk sv S [.ref (ad r0), .int a1] sz r S := by
  refine fm_open rfl hE (Nat.le_of_ble_eq_true rfl) (fun p e s m args below meth c ls Z hr hlk G F N hl hsz => ?_)
  subst hsz
  obtain ⟨hx, hb, hml, hown, hts⟩ := id Z
  have hl : lv_has ls 2 [(0, .ref (ad r0)), (1, .int a1)] := hl
  unfold m_X12_mean at hf
  refine lv_iload_n hx hb d_X12_mean_0 rfl (lv_at hl 1 rfl) ?_
  refine lv_iconst (v := 0) hx hb d_X12_mean_1 (by decide) ?_
  refine lv_iconst (v := 1) hx hb d_X12_mean_2 (by decide) ?_
  refine fm_rcr G F hf (fun r ho => fm_runS (k := 3) Z G F N (As := [.int a1, .int 0, .int 1]) (rest := []) (c_X12_in hE ho _) kw_1004 kw_1005 kw_6 kw_1006 yd_X12_in rfl (by decide) (by decide) hl.1 (Nat.le_of_ble_eq_true rfl) d_X12_mean_3 (Nat.le_refl 0) (Nat.le_refl 0)) (fun x3 H locs _ F hf => ?_)
  refine lv_if_eq (tgt := 19) hx hb d_X12_mean_6 (by decide) (fun c6 => ?_) (fun c6 => ?_)
  · have hf := fm_ip c6 hf
    refine lv_ldc2 (v := (-9223372036854775808)) hx hb hown (hts _ (fm_in kw_1248 rfl)) d_X12_mean_19 ?_
    refine lv_goto (tgt := 42) hx hb d_X12_mean_22 (by decide) ?_
    exact fm_retl Z hr hlk F d_X12_mean_42 (Option.some.inj hf) rfl
  · have hf := fm_ig c6 hf
    refine lv_aload_n hx hb d_X12_mean_9 rfl (lv_at hl 0 rfl) ?_
    refine fm_rgr Z G F hf fr_X12_9 d_X12_mean_10 (fun q10 _ hf => ?_)
    refine lv_bipush (v := 21) hx hb d_X12_mean_13 (by decide) ?_
    refine fm_rld Z G F hf d_X12_mean_15 (fun x15 _ hf => ?_)
    refine lv_if_ne (tgt := 25) hx hb d_X12_mean_16 (by decide) (fun c16 => ?_) (fun c16 => ?_)
    · have hf := fm_ig c16 hf
      refine lv_aload_n hx hb d_X12_mean_25 rfl (lv_at hl 0 rfl) ?_
      obtain ⟨hk26, hf⟩ := fm_some hf
      refine fm_rcr G F hf (fun r ho => fm_runV (k := 0) Z G F N (As := []) (rest := []) (c_X12_offers hE ho _) (by rw [eq_of_beq hk26]; decide) (by rw [eq_of_beq hk26]; rfl) kw_1141 kw_1143 kp_46 kw_6 kw_1144 yd_X12_offers rfl (by decide) (by decide) hl.1 (Nat.le_of_ble_eq_true rfl) d_X12_mean_26 (Nat.le_refl 0) (Nat.le_refl 0)) (fun x26 H locs _ F hf => ?_)
      refine lv_i2l hx hb d_X12_mean_29 rfl ?_
      refine lv_aload_n hx hb d_X12_mean_30 rfl (lv_at hl 0 rfl) ?_
      refine fm_rgr Z G F hf fr_X12_9 d_X12_mean_31 (fun q31 _ hf => ?_)
      refine lv_bipush (v := 21) hx hb d_X12_mean_34 (by decide) ?_
      refine fm_rld Z G F hf d_X12_mean_36 (fun x36 _ hf => ?_)
      refine lv_i2l hx hb d_X12_mean_37 rfl ?_
      refine lv_iload_n hx hb d_X12_mean_38 rfl (lv_at hl 1 rfl) ?_
      refine fm_rcl G F hf (fun r ho => fm_runS (k := 3) Z G F N (As := [.long (x26.toInt64), .long (x36.toInt64), .int a1]) (rest := []) (c_X12_lowest hE ho _) kw_1250 kw_1251 kw_6 kw_1252 yd_X12_lowest rfl (by decide) (by decide) hl.1 (Nat.le_of_ble_eq_true rfl) d_X12_mean_39 (Nat.le_refl 0) (Nat.le_refl 0)) (fun l39 H locs _ F hf => ?_)
      exact fm_retl Z hr hlk F d_X12_mean_42 (Option.some.inj hf) rfl
    · have hf := fm_ip c16 hf
      refine lv_ldc2 (v := (-9223372036854775808)) hx hb hown (hts _ (fm_in kw_1248 rfl)) d_X12_mean_19 ?_
      refine lv_goto (tgt := 42) hx hb d_X12_mean_22 (by decide) ?_
      exact fm_retl Z hr hlk F d_X12_mean_42 (Option.some.inj hf) rfl
theorem d_X12_plan_0 : decode prog_14_method_65_code 0 = .ok (.iload_n 1, 1) := by decide +kernel
theorem d_X12_plan_1 : decode prog_14_method_65_code 1 = .ok (.iconst (-1), 1) := by decide +kernel
theorem d_X12_plan_2 : decode prog_14_method_65_code 2 = .ok (.if_icmp .ne 13, 3) := by decide +kernel
theorem d_X12_plan_5 : decode prog_14_method_65_code 5 = .ok (.aload_n 0, 1) := by decide +kernel
theorem d_X12_plan_6 : decode prog_14_method_65_code 6 = .ok (.getfield 9, 3) := by decide +kernel
theorem d_X12_plan_9 : decode prog_14_method_65_code 9 = .ok (.bipush 24, 2) := by decide +kernel
theorem d_X12_plan_11 : decode prog_14_method_65_code 11 = .ok (.iconst 0, 1) := by decide +kernel
theorem d_X12_plan_12 : decode prog_14_method_65_code 12 = .ok (.iastore, 1) := by decide +kernel
theorem d_X12_plan_13 : decode prog_14_method_65_code 13 = .ok (.iconst 0, 1) := by decide +kernel
theorem d_X12_plan_14 : decode prog_14_method_65_code 14 = .ok (.ireturn, 1) := by decide +kernel
theorem d_X12_plan_15 : decode prog_14_method_65_code 15 = .ok (.iload_n 1, 1) := by decide +kernel
theorem d_X12_plan_16 : decode prog_14_method_65_code 16 = .ok (.iconst 0, 1) := by decide +kernel
theorem d_X12_plan_17 : decode prog_14_method_65_code 17 = .ok (.iconst 3, 1) := by decide +kernel
theorem d_X12_plan_18 : decode prog_14_method_65_code 18 = .ok (.invokestatic 44, 3) := by decide +kernel
theorem d_X12_plan_21 : decode prog_14_method_65_code 21 = .ok (.ifCond .eq 15, 3) := by decide +kernel
theorem d_X12_plan_24 : decode prog_14_method_65_code 24 = .ok (.iload_n 1, 1) := by decide +kernel
theorem d_X12_plan_25 : decode prog_14_method_65_code 25 = .ok (.ifCond .le 13, 3) := by decide +kernel
theorem d_X12_plan_28 : decode prog_14_method_65_code 28 = .ok (.aload_n 0, 1) := by decide +kernel
theorem d_X12_plan_29 : decode prog_14_method_65_code 29 = .ok (.iload_n 2, 1) := by decide +kernel
theorem d_X12_plan_30 : decode prog_14_method_65_code 30 = .ok (.invokevirtual 140, 3) := by decide +kernel
theorem d_X12_plan_33 : decode prog_14_method_65_code 33 = .ok (.ifCond .ne 5, 3) := by decide +kernel
theorem d_X12_plan_36 : decode prog_14_method_65_code 36 = .ok (.iconst (-1), 1) := by decide +kernel
theorem d_X12_plan_37 : decode prog_14_method_65_code 37 = .ok (.ireturn, 1) := by decide +kernel
theorem d_X12_plan_38 : decode prog_14_method_65_code 38 = .ok (.aload_n 0, 1) := by decide +kernel
theorem d_X12_plan_39 : decode prog_14_method_65_code 39 = .ok (.getfield 9, 3) := by decide +kernel
theorem d_X12_plan_42 : decode prog_14_method_65_code 42 = .ok (.bipush 24, 2) := by decide +kernel
theorem d_X12_plan_44 : decode prog_14_method_65_code 44 = .ok (.iaload, 1) := by decide +kernel
theorem d_X12_plan_45 : decode prog_14_method_65_code 45 = .ok (.bipush 8, 2) := by decide +kernel
theorem d_X12_plan_47 : decode prog_14_method_65_code 47 = .ok (.if_icmp .ne 6, 3) := by decide +kernel
theorem d_X12_plan_50 : decode prog_14_method_65_code 50 = .ok (.bipush (-4), 2) := by decide +kernel
theorem d_X12_plan_52 : decode prog_14_method_65_code 52 = .ok (.ireturn, 1) := by decide +kernel
theorem d_X12_plan_53 : decode prog_14_method_65_code 53 = .ok (.aload_n 0, 1) := by decide +kernel
theorem d_X12_plan_54 : decode prog_14_method_65_code 54 = .ok (.getfield 9, 3) := by decide +kernel
theorem d_X12_plan_57 : decode prog_14_method_65_code 57 = .ok (.bipush 79, 2) := by decide +kernel
theorem d_X12_plan_59 : decode prog_14_method_65_code 59 = .ok (.aload_n 0, 1) := by decide +kernel
theorem d_X12_plan_60 : decode prog_14_method_65_code 60 = .ok (.getfield 9, 3) := by decide +kernel
theorem d_X12_plan_63 : decode prog_14_method_65_code 63 = .ok (.bipush 24, 2) := by decide +kernel
theorem d_X12_plan_65 : decode prog_14_method_65_code 65 = .ok (.iaload, 1) := by decide +kernel
theorem d_X12_plan_66 : decode prog_14_method_65_code 66 = .ok (.iadd, 1) := by decide +kernel
theorem d_X12_plan_67 : decode prog_14_method_65_code 67 = .ok (.iload_n 1, 1) := by decide +kernel
theorem d_X12_plan_68 : decode prog_14_method_65_code 68 = .ok (.iastore, 1) := by decide +kernel
theorem d_X12_plan_69 : decode prog_14_method_65_code 69 = .ok (.aload_n 0, 1) := by decide +kernel
theorem d_X12_plan_70 : decode prog_14_method_65_code 70 = .ok (.getfield 9, 3) := by decide +kernel
theorem d_X12_plan_73 : decode prog_14_method_65_code 73 = .ok (.bipush 87, 2) := by decide +kernel
theorem d_X12_plan_75 : decode prog_14_method_65_code 75 = .ok (.aload_n 0, 1) := by decide +kernel
theorem d_X12_plan_76 : decode prog_14_method_65_code 76 = .ok (.getfield 9, 3) := by decide +kernel
theorem d_X12_plan_79 : decode prog_14_method_65_code 79 = .ok (.bipush 24, 2) := by decide +kernel
theorem d_X12_plan_81 : decode prog_14_method_65_code 81 = .ok (.iaload, 1) := by decide +kernel
theorem d_X12_plan_82 : decode prog_14_method_65_code 82 = .ok (.iadd, 1) := by decide +kernel
theorem d_X12_plan_83 : decode prog_14_method_65_code 83 = .ok (.iload_n 2, 1) := by decide +kernel
theorem d_X12_plan_84 : decode prog_14_method_65_code 84 = .ok (.iastore, 1) := by decide +kernel
theorem d_X12_plan_85 : decode prog_14_method_65_code 85 = .ok (.aload_n 0, 1) := by decide +kernel
theorem d_X12_plan_86 : decode prog_14_method_65_code 86 = .ok (.getfield 9, 3) := by decide +kernel
theorem d_X12_plan_89 : decode prog_14_method_65_code 89 = .ok (.bipush 24, 2) := by decide +kernel
theorem d_X12_plan_91 : decode prog_14_method_65_code 91 = .ok (.dup2, 1) := by decide +kernel
theorem d_X12_plan_92 : decode prog_14_method_65_code 92 = .ok (.iaload, 1) := by decide +kernel
theorem d_X12_plan_93 : decode prog_14_method_65_code 93 = .ok (.iconst 1, 1) := by decide +kernel
theorem d_X12_plan_94 : decode prog_14_method_65_code 94 = .ok (.iadd, 1) := by decide +kernel
theorem d_X12_plan_95 : decode prog_14_method_65_code 95 = .ok (.iastore, 1) := by decide +kernel
theorem d_X12_plan_96 : decode prog_14_method_65_code 96 = .ok (.aload_n 0, 1) := by decide +kernel
theorem d_X12_plan_97 : decode prog_14_method_65_code 97 = .ok (.getfield 9, 3) := by decide +kernel
theorem d_X12_plan_100 : decode prog_14_method_65_code 100 = .ok (.bipush 24, 2) := by decide +kernel
theorem d_X12_plan_102 : decode prog_14_method_65_code 102 = .ok (.iaload, 1) := by decide +kernel
theorem d_X12_plan_103 : decode prog_14_method_65_code 103 = .ok (.ireturn, 1) := by decide +kernel
def m_X12_plan (kap lam : Nat → Nat) (r0 : Nat) (a1 : Int32) (a2 : Int32) (S : fm_M) : Option (Int32 × fm_M) :=
  if a1 = (-1) then (
   fm_gr kap 12 r0 1 S fun q6 =>
   fm_st kap lam q6 24 0 S fun S12 =>
   some (0, S12)
  ) else (
   fm_b1 (m_X12_in kap lam a1 0 3 S) fun x18 =>
   if x18 = 0 then (
    some ((-1), S)
   ) else (
    if a1 ≤ 0 then (
     fm_gr kap 12 r0 1 S fun q39 =>
     fm_ld kap lam 13 q39 24 S fun x44 =>
     if x44 = 8 then (
      some ((-4), S)
     ) else (
      fm_gr kap 12 r0 1 S fun q54 =>
      fm_gr kap 12 r0 1 S fun q60 =>
      fm_ld kap lam 13 q60 24 S fun x65 =>
      fm_st kap lam q54 (79 + x65) a1 S fun S68 =>
      fm_gr kap 12 r0 1 S68 fun q70 =>
      fm_gr kap 12 r0 1 S68 fun q76 =>
      fm_ld kap lam 13 q76 24 S68 fun x81 =>
      fm_st kap lam q70 (87 + x81) a2 S68 fun S84 =>
      fm_gr kap 12 r0 1 S84 fun q86 =>
      fm_ld kap lam 13 q86 24 S84 fun x92 =>
      fm_st kap lam q86 24 (x92 + 1) S84 fun S95 =>
      fm_gr kap 12 r0 1 S95 fun q97 =>
      fm_ld kap lam 13 q97 24 S95 fun x102 =>
      some (x102, S95)
     )
    ) else (
     fm_ck (kap r0 == 12) <|
     fm_b1 (m_X12_isPane kap lam r0 a2 S) fun x30 =>
     if x30 = 0 then (
      some ((-1), S)
     ) else (
      fm_gr kap 12 r0 1 S fun q39 =>
      fm_ld kap lam 13 q39 24 S fun x44 =>
      if x44 = 8 then (
       some ((-4), S)
      ) else (
       fm_gr kap 12 r0 1 S fun q54 =>
       fm_gr kap 12 r0 1 S fun q60 =>
       fm_ld kap lam 13 q60 24 S fun x65 =>
       fm_st kap lam q54 (79 + x65) a1 S fun S68 =>
       fm_gr kap 12 r0 1 S68 fun q70 =>
       fm_gr kap 12 r0 1 S68 fun q76 =>
       fm_ld kap lam 13 q76 24 S68 fun x81 =>
       fm_st kap lam q70 (87 + x81) a2 S68 fun S84 =>
       fm_gr kap 12 r0 1 S84 fun q86 =>
       fm_ld kap lam 13 q86 24 S84 fun x92 =>
       fm_st kap lam q86 24 (x92 + 1) S84 fun S95 =>
       fm_gr kap 12 r0 1 S95 fun q97 =>
       fm_ld kap lam 13 q97 24 S95 fun x102 =>
       some (x102, S95)
      )
     )
    )
   )
  )
set_option maxHeartbeats 4000000 in
set_option maxRecDepth 100000 in
theorem c_X12_plan {l : Launch} {D : va_G} {ids kap lam : Nat → Nat} {RL : List Nat} {ad sk sv : Nat → Nat} {S : fm_M} {r0 : Nat} {a1 : Int32} {a2 : Int32} {r : Int32} {u : fm_M} (hE : fm_E kap RL ad) (hf : m_X12_plan kap lam r0 a1 a2 S = some (r, u)) (sz : Nat) : fm_MI l y_X12_plan prog_14_method_65_code 3 (Option.some Jvm.ClassFile.FieldType.int) 2 D ids kap lam RL ad sk sv S [.ref (ad r0), .int a1, .int a2] sz r u := by
  refine fm_open rfl hE (Nat.le_of_ble_eq_true rfl) (fun p e s m args below meth c ls Z hr hlk G F N hl hsz => ?_)
  subst hsz
  obtain ⟨hx, hb, hml, hown, hts⟩ := id Z
  have hl : lv_has ls 3 [(0, .ref (ad r0)), (1, .int a1), (2, .int a2)] := hl
  unfold m_X12_plan at hf
  refine lv_iload_n hx hb d_X12_plan_0 rfl (lv_at hl 1 rfl) ?_
  refine lv_iconst (v := (-1)) hx hb d_X12_plan_1 (by decide) ?_
  refine lv_icmp_ne (tgt := 15) hx hb d_X12_plan_2 (by decide) (fun c2 => ?_) (fun c2 => ?_)
  · have hf := fm_ig c2 hf
    refine lv_iload_n hx hb d_X12_plan_15 rfl (lv_at hl 1 rfl) ?_
    refine lv_iconst (v := 0) hx hb d_X12_plan_16 (by decide) ?_
    refine lv_iconst (v := 3) hx hb d_X12_plan_17 (by decide) ?_
    refine fm_rcr G F hf (fun r ho => fm_runS (k := 3) Z G F N (As := [.int a1, .int 0, .int 3]) (rest := []) (c_X12_in hE ho _) kw_1004 kw_1005 kw_6 kw_1006 yd_X12_in rfl (by decide) (by decide) hl.1 (Nat.le_of_ble_eq_true rfl) d_X12_plan_18 (Nat.le_refl 0) (Nat.le_refl 0)) (fun x18 H locs _ F hf => ?_)
    refine lv_if_eq (tgt := 36) hx hb d_X12_plan_21 (by decide) (fun c21 => ?_) (fun c21 => ?_)
    · have hf := fm_ip c21 hf
      refine lv_iconst (v := (-1)) hx hb d_X12_plan_36 (by decide) ?_
      exact fm_reti Z hr hlk F d_X12_plan_37 (Prod.mk.inj (Option.some.inj hf)).1 (Prod.mk.inj (Option.some.inj hf)).2
    · have hf := fm_ig c21 hf
      refine lv_iload_n hx hb d_X12_plan_24 rfl (lv_at hl 1 rfl) ?_
      refine lv_if_le (tgt := 38) hx hb d_X12_plan_25 (by decide) (fun c25 => ?_) (fun c25 => ?_)
      · have hf := fm_ip c25 hf
        refine lv_aload_n hx hb d_X12_plan_38 rfl (lv_at hl 0 rfl) ?_
        refine fm_rgr Z G F hf fr_X12_9 d_X12_plan_39 (fun q39 _ hf => ?_)
        refine lv_bipush (v := 24) hx hb d_X12_plan_42 (by decide) ?_
        refine fm_rld Z G F hf d_X12_plan_44 (fun x44 _ hf => ?_)
        refine lv_bipush (v := 8) hx hb d_X12_plan_45 (by decide) ?_
        refine lv_icmp_ne (tgt := 53) hx hb d_X12_plan_47 (by decide) (fun c47 => ?_) (fun c47 => ?_)
        · have hf := fm_ig c47 hf
          refine lv_aload_n hx hb d_X12_plan_53 rfl (lv_at hl 0 rfl) ?_
          refine fm_rgr Z G F hf fr_X12_9 d_X12_plan_54 (fun q54 _ hf => ?_)
          refine lv_bipush (v := 79) hx hb d_X12_plan_57 (by decide) ?_
          refine lv_aload_n hx hb d_X12_plan_59 rfl (lv_at hl 0 rfl) ?_
          refine fm_rgr Z G F hf fr_X12_9 d_X12_plan_60 (fun q60 _ hf => ?_)
          refine lv_bipush (v := 24) hx hb d_X12_plan_63 (by decide) ?_
          refine fm_rld Z G F hf d_X12_plan_65 (fun x65 _ hf => ?_)
          refine lv_iadd hx hb d_X12_plan_66 ?_
          refine lv_iload_n hx hb d_X12_plan_67 rfl (lv_at hl 1 rfl) ?_
          refine fm_rst Z G F hf d_X12_plan_68 (fun S68 H locs _ F hf => ?_)
          refine lv_aload_n hx hb d_X12_plan_69 rfl (lv_at hl 0 rfl) ?_
          refine fm_rgr Z G F hf fr_X12_9 d_X12_plan_70 (fun q70 _ hf => ?_)
          refine lv_bipush (v := 87) hx hb d_X12_plan_73 (by decide) ?_
          refine lv_aload_n hx hb d_X12_plan_75 rfl (lv_at hl 0 rfl) ?_
          refine fm_rgr Z G F hf fr_X12_9 d_X12_plan_76 (fun q76 _ hf => ?_)
          refine lv_bipush (v := 24) hx hb d_X12_plan_79 (by decide) ?_
          refine fm_rld Z G F hf d_X12_plan_81 (fun x81 _ hf => ?_)
          refine lv_iadd hx hb d_X12_plan_82 ?_
          refine lv_iload_n hx hb d_X12_plan_83 rfl (lv_at hl 2 rfl) ?_
          refine fm_rst Z G F hf d_X12_plan_84 (fun S84 H locs _ F hf => ?_)
          refine lv_aload_n hx hb d_X12_plan_85 rfl (lv_at hl 0 rfl) ?_
          refine fm_rgr Z G F hf fr_X12_9 d_X12_plan_86 (fun q86 _ hf => ?_)
          refine lv_bipush (v := 24) hx hb d_X12_plan_89 (by decide) ?_
          refine lv_dup2_11 hx hb d_X12_plan_91 rfl rfl ?_
          refine fm_rld Z G F hf d_X12_plan_92 (fun x92 _ hf => ?_)
          refine lv_iconst (v := 1) hx hb d_X12_plan_93 (by decide) ?_
          refine lv_iadd hx hb d_X12_plan_94 ?_
          refine fm_rst Z G F hf d_X12_plan_95 (fun S95 H locs _ F hf => ?_)
          refine lv_aload_n hx hb d_X12_plan_96 rfl (lv_at hl 0 rfl) ?_
          refine fm_rgr Z G F hf fr_X12_9 d_X12_plan_97 (fun q97 _ hf => ?_)
          refine lv_bipush (v := 24) hx hb d_X12_plan_100 (by decide) ?_
          refine fm_rld Z G F hf d_X12_plan_102 (fun x102 _ hf => ?_)
          exact fm_reti Z hr hlk F d_X12_plan_103 (Prod.mk.inj (Option.some.inj hf)).1 (Prod.mk.inj (Option.some.inj hf)).2
        · have hf := fm_ip c47 hf
          refine lv_bipush (v := (-4)) hx hb d_X12_plan_50 (by decide) ?_
          exact fm_reti Z hr hlk F d_X12_plan_52 (Prod.mk.inj (Option.some.inj hf)).1 (Prod.mk.inj (Option.some.inj hf)).2
      · have hf := fm_ig c25 hf
        refine lv_aload_n hx hb d_X12_plan_28 rfl (lv_at hl 0 rfl) ?_
        refine lv_iload_n hx hb d_X12_plan_29 rfl (lv_at hl 2 rfl) ?_
        obtain ⟨hk30, hf⟩ := fm_some hf
        refine fm_rcr G F hf (fun r ho => fm_runV (k := 1) Z G F N (As := [.int a2]) (rest := []) (c_X12_isPane hE ho _) (by rw [eq_of_beq hk30]; decide) (by rw [eq_of_beq hk30]; rfl) kw_1075 kw_1077 kp_37 kw_6 kw_1078 yd_X12_isPane rfl (by decide) (by decide) hl.1 (Nat.le_of_ble_eq_true rfl) d_X12_plan_30 (Nat.le_refl 0) (Nat.le_refl 0)) (fun x30 H locs _ F hf => ?_)
        refine lv_if_ne (tgt := 38) hx hb d_X12_plan_33 (by decide) (fun c33 => ?_) (fun c33 => ?_)
        · have hf := fm_ig c33 hf
          refine lv_aload_n hx hb d_X12_plan_38 rfl (lv_at hl 0 rfl) ?_
          refine fm_rgr Z G F hf fr_X12_9 d_X12_plan_39 (fun q39 _ hf => ?_)
          refine lv_bipush (v := 24) hx hb d_X12_plan_42 (by decide) ?_
          refine fm_rld Z G F hf d_X12_plan_44 (fun x44 _ hf => ?_)
          refine lv_bipush (v := 8) hx hb d_X12_plan_45 (by decide) ?_
          refine lv_icmp_ne (tgt := 53) hx hb d_X12_plan_47 (by decide) (fun c47 => ?_) (fun c47 => ?_)
          · have hf := fm_ig c47 hf
            refine lv_aload_n hx hb d_X12_plan_53 rfl (lv_at hl 0 rfl) ?_
            refine fm_rgr Z G F hf fr_X12_9 d_X12_plan_54 (fun q54 _ hf => ?_)
            refine lv_bipush (v := 79) hx hb d_X12_plan_57 (by decide) ?_
            refine lv_aload_n hx hb d_X12_plan_59 rfl (lv_at hl 0 rfl) ?_
            refine fm_rgr Z G F hf fr_X12_9 d_X12_plan_60 (fun q60 _ hf => ?_)
            refine lv_bipush (v := 24) hx hb d_X12_plan_63 (by decide) ?_
            refine fm_rld Z G F hf d_X12_plan_65 (fun x65 _ hf => ?_)
            refine lv_iadd hx hb d_X12_plan_66 ?_
            refine lv_iload_n hx hb d_X12_plan_67 rfl (lv_at hl 1 rfl) ?_
            refine fm_rst Z G F hf d_X12_plan_68 (fun S68 H locs _ F hf => ?_)
            refine lv_aload_n hx hb d_X12_plan_69 rfl (lv_at hl 0 rfl) ?_
            refine fm_rgr Z G F hf fr_X12_9 d_X12_plan_70 (fun q70 _ hf => ?_)
            refine lv_bipush (v := 87) hx hb d_X12_plan_73 (by decide) ?_
            refine lv_aload_n hx hb d_X12_plan_75 rfl (lv_at hl 0 rfl) ?_
            refine fm_rgr Z G F hf fr_X12_9 d_X12_plan_76 (fun q76 _ hf => ?_)
            refine lv_bipush (v := 24) hx hb d_X12_plan_79 (by decide) ?_
            refine fm_rld Z G F hf d_X12_plan_81 (fun x81 _ hf => ?_)
            refine lv_iadd hx hb d_X12_plan_82 ?_
            refine lv_iload_n hx hb d_X12_plan_83 rfl (lv_at hl 2 rfl) ?_
            refine fm_rst Z G F hf d_X12_plan_84 (fun S84 H locs _ F hf => ?_)
            refine lv_aload_n hx hb d_X12_plan_85 rfl (lv_at hl 0 rfl) ?_
            refine fm_rgr Z G F hf fr_X12_9 d_X12_plan_86 (fun q86 _ hf => ?_)
            refine lv_bipush (v := 24) hx hb d_X12_plan_89 (by decide) ?_
            refine lv_dup2_11 hx hb d_X12_plan_91 rfl rfl ?_
            refine fm_rld Z G F hf d_X12_plan_92 (fun x92 _ hf => ?_)
            refine lv_iconst (v := 1) hx hb d_X12_plan_93 (by decide) ?_
            refine lv_iadd hx hb d_X12_plan_94 ?_
            refine fm_rst Z G F hf d_X12_plan_95 (fun S95 H locs _ F hf => ?_)
            refine lv_aload_n hx hb d_X12_plan_96 rfl (lv_at hl 0 rfl) ?_
            refine fm_rgr Z G F hf fr_X12_9 d_X12_plan_97 (fun q97 _ hf => ?_)
            refine lv_bipush (v := 24) hx hb d_X12_plan_100 (by decide) ?_
            refine fm_rld Z G F hf d_X12_plan_102 (fun x102 _ hf => ?_)
            exact fm_reti Z hr hlk F d_X12_plan_103 (Prod.mk.inj (Option.some.inj hf)).1 (Prod.mk.inj (Option.some.inj hf)).2
          · have hf := fm_ip c47 hf
            refine lv_bipush (v := (-4)) hx hb d_X12_plan_50 (by decide) ?_
            exact fm_reti Z hr hlk F d_X12_plan_52 (Prod.mk.inj (Option.some.inj hf)).1 (Prod.mk.inj (Option.some.inj hf)).2
        · have hf := fm_ip c33 hf
          refine lv_iconst (v := (-1)) hx hb d_X12_plan_36 (by decide) ?_
          exact fm_reti Z hr hlk F d_X12_plan_37 (Prod.mk.inj (Option.some.inj hf)).1 (Prod.mk.inj (Option.some.inj hf)).2
  · have hf := fm_ip c2 hf
    refine lv_aload_n hx hb d_X12_plan_5 rfl (lv_at hl 0 rfl) ?_
    refine fm_rgr Z G F hf fr_X12_9 d_X12_plan_6 (fun q6 _ hf => ?_)
    refine lv_bipush (v := 24) hx hb d_X12_plan_9 (by decide) ?_
    refine lv_iconst (v := 0) hx hb d_X12_plan_11 (by decide) ?_
    refine fm_rst Z G F hf d_X12_plan_12 (fun S12 H locs _ F hf => ?_)
    refine lv_iconst (v := 0) hx hb d_X12_plan_13 (by decide) ?_
    exact fm_reti Z hr hlk F d_X12_plan_14 (Prod.mk.inj (Option.some.inj hf)).1 (Prod.mk.inj (Option.some.inj hf)).2
theorem d_X12_goesBy_0 : decode prog_14_method_66_code 0 = .ok (.iload_n 1, 1) := by decide +kernel
theorem d_X12_goesBy_1 : decode prog_14_method_66_code 1 = .ok (.ifCond .ne 10, 3) := by decide +kernel
theorem d_X12_goesBy_4 : decode prog_14_method_66_code 4 = .ok (.aload_n 0, 1) := by decide +kernel
theorem d_X12_goesBy_5 : decode prog_14_method_66_code 5 = .ok (.invokevirtual 171, 3) := by decide +kernel
theorem d_X12_goesBy_8 : decode prog_14_method_66_code 8 = .ok (.goto 36, 3) := by decide +kernel
theorem d_X12_goesBy_11 : decode prog_14_method_66_code 11 = .ok (.iload_n 1, 1) := by decide +kernel
theorem d_X12_goesBy_12 : decode prog_14_method_66_code 12 = .ok (.iconst 1, 1) := by decide +kernel
theorem d_X12_goesBy_13 : decode prog_14_method_66_code 13 = .ok (.if_icmp .ne 12, 3) := by decide +kernel
theorem d_X12_goesBy_16 : decode prog_14_method_66_code 16 = .ok (.aload_n 0, 1) := by decide +kernel
theorem d_X12_goesBy_17 : decode prog_14_method_66_code 17 = .ok (.iload_n 2, 1) := by decide +kernel
theorem d_X12_goesBy_18 : decode prog_14_method_66_code 18 = .ok (.invokevirtual 152, 3) := by decide +kernel
theorem d_X12_goesBy_21 : decode prog_14_method_66_code 21 = .ok (.pop, 1) := by decide +kernel
theorem d_X12_goesBy_22 : decode prog_14_method_66_code 22 = .ok (.goto 22, 3) := by decide +kernel
theorem d_X12_goesBy_25 : decode prog_14_method_66_code 25 = .ok (.aload_n 0, 1) := by decide +kernel
theorem d_X12_goesBy_26 : decode prog_14_method_66_code 26 = .ok (.getfield 9, 3) := by decide +kernel
theorem d_X12_goesBy_29 : decode prog_14_method_66_code 29 = .ok (.bipush 9, 2) := by decide +kernel
theorem d_X12_goesBy_31 : decode prog_14_method_66_code 31 = .ok (.iload_n 2, 1) := by decide +kernel
theorem d_X12_goesBy_32 : decode prog_14_method_66_code 32 = .ok (.iadd, 1) := by decide +kernel
theorem d_X12_goesBy_33 : decode prog_14_method_66_code 33 = .ok (.iload_n 1, 1) := by decide +kernel
theorem d_X12_goesBy_34 : decode prog_14_method_66_code 34 = .ok (.iconst 2, 1) := by decide +kernel
theorem d_X12_goesBy_35 : decode prog_14_method_66_code 35 = .ok (.if_icmp .ne 7, 3) := by decide +kernel
theorem d_X12_goesBy_38 : decode prog_14_method_66_code 38 = .ok (.iconst 1, 1) := by decide +kernel
theorem d_X12_goesBy_39 : decode prog_14_method_66_code 39 = .ok (.goto 4, 3) := by decide +kernel
theorem d_X12_goesBy_42 : decode prog_14_method_66_code 42 = .ok (.iconst 0, 1) := by decide +kernel
theorem d_X12_goesBy_43 : decode prog_14_method_66_code 43 = .ok (.iastore, 1) := by decide +kernel
theorem d_X12_goesBy_44 : decode prog_14_method_66_code 44 = .ok (.return_, 1) := by decide +kernel
def m_X12_goesBy (kap lam : Nat → Nat) (r0 : Nat) (a1 : Int32) (a2 : Int32) (S : fm_M) : Option fm_M :=
  if a1 = 0 then (
   fm_ck (kap r0 == 12) <|
   fm_b1 (m_X12_goes kap lam r0 S) fun S5 =>
   some S5
  ) else (
   if a1 = 1 then (
    fm_ck (kap r0 == 12) <|
    fm_bi (m_X12_breathes kap lam r0 a2 S) fun x18 S18 =>
    some S18
   ) else (
    fm_gr kap 12 r0 1 S fun q26 =>
    if a1 = 2 then (
     fm_st kap lam q26 (9 + a2) 1 S fun S43 =>
     some S43
    ) else (
     fm_st kap lam q26 (9 + a2) 0 S fun S43 =>
     some S43
    )
   )
  )
set_option maxHeartbeats 4000000 in
set_option maxRecDepth 100000 in
theorem c_X12_goesBy {l : Launch} {D : va_G} {ids kap lam : Nat → Nat} {RL : List Nat} {ad sk sv : Nat → Nat} {S : fm_M} {r0 : Nat} {a1 : Int32} {a2 : Int32} {u : fm_M} (hE : fm_E kap RL ad) (hf : m_X12_goesBy kap lam r0 a1 a2 S = some u) (sz : Nat) : fm_MV l y_X12_goesBy prog_14_method_66_code 3 (Option.none : Option Jvm.ClassFile.FieldType) 6 D ids kap lam RL ad sk sv S [.ref (ad r0), .int a1, .int a2] sz u := by
  refine fm_open rfl hE (Nat.le_of_ble_eq_true rfl) (fun p e s m args below meth c ls Z hr hlk G F N hl hsz => ?_)
  subst hsz
  obtain ⟨hx, hb, hml, hown, hts⟩ := id Z
  have hl : lv_has ls 3 [(0, .ref (ad r0)), (1, .int a1), (2, .int a2)] := hl
  unfold m_X12_goesBy at hf
  refine lv_iload_n hx hb d_X12_goesBy_0 rfl (lv_at hl 1 rfl) ?_
  refine lv_if_ne (tgt := 11) hx hb d_X12_goesBy_1 (by decide) (fun c1 => ?_) (fun c1 => ?_)
  · have hf := fm_ig c1 hf
    refine lv_iload_n hx hb d_X12_goesBy_11 rfl (lv_at hl 1 rfl) ?_
    refine lv_iconst (v := 1) hx hb d_X12_goesBy_12 (by decide) ?_
    refine lv_icmp_ne (tgt := 25) hx hb d_X12_goesBy_13 (by decide) (fun c13 => ?_) (fun c13 => ?_)
    · have hf := fm_ig c13 hf
      refine lv_aload_n hx hb d_X12_goesBy_25 rfl (lv_at hl 0 rfl) ?_
      refine fm_rgr Z G F hf fr_X12_9 d_X12_goesBy_26 (fun q26 _ hf => ?_)
      refine lv_bipush (v := 9) hx hb d_X12_goesBy_29 (by decide) ?_
      refine lv_iload_n hx hb d_X12_goesBy_31 rfl (lv_at hl 2 rfl) ?_
      refine lv_iadd hx hb d_X12_goesBy_32 ?_
      refine lv_iload_n hx hb d_X12_goesBy_33 rfl (lv_at hl 1 rfl) ?_
      refine lv_iconst (v := 2) hx hb d_X12_goesBy_34 (by decide) ?_
      refine lv_icmp_ne (tgt := 42) hx hb d_X12_goesBy_35 (by decide) (fun c35 => ?_) (fun c35 => ?_)
      · have hf := fm_ig c35 hf
        refine lv_iconst (v := 0) hx hb d_X12_goesBy_42 (by decide) ?_
        refine fm_rst Z G F hf d_X12_goesBy_43 (fun S43 H locs _ F hf => ?_)
        exact fm_retv Z hr hlk F d_X12_goesBy_44 (Option.some.inj hf)
      · have hf := fm_ip c35 hf
        refine lv_iconst (v := 1) hx hb d_X12_goesBy_38 (by decide) ?_
        refine lv_goto (tgt := 43) hx hb d_X12_goesBy_39 (by decide) ?_
        refine fm_rst Z G F hf d_X12_goesBy_43 (fun S43 H locs _ F hf => ?_)
        exact fm_retv Z hr hlk F d_X12_goesBy_44 (Option.some.inj hf)
    · have hf := fm_ip c13 hf
      refine lv_aload_n hx hb d_X12_goesBy_16 rfl (lv_at hl 0 rfl) ?_
      refine lv_iload_n hx hb d_X12_goesBy_17 rfl (lv_at hl 2 rfl) ?_
      obtain ⟨hk18, hf⟩ := fm_some hf
      refine fm_rci G F hf (fun r u ho => fm_runV (k := 1) Z G F N (As := [.int a2]) (rest := []) (c_X12_breathes hE ho _) (by rw [eq_of_beq hk18]; decide) (by rw [eq_of_beq hk18]; rfl) kw_1128 kw_1130 kp_44 kw_6 kw_1131 yd_X12_breathes rfl (by decide) (by decide) hl.1 (Nat.le_of_ble_eq_true rfl) d_X12_goesBy_18 (Nat.le_refl 0) (Nat.le_refl 0)) (fun x18 S18 H locs _ F hf => ?_)
      refine lv_pop hx hb d_X12_goesBy_21 rfl ?_
      refine lv_goto (tgt := 44) hx hb d_X12_goesBy_22 (by decide) ?_
      exact fm_retv Z hr hlk F d_X12_goesBy_44 (Option.some.inj hf)
  · have hf := fm_ip c1 hf
    refine lv_aload_n hx hb d_X12_goesBy_4 rfl (lv_at hl 0 rfl) ?_
    obtain ⟨hk5, hf⟩ := fm_some hf
    refine fm_rcv G F hf (fun u ho => fm_runV (k := 0) Z G F N (As := []) (rest := []) (c_X12_goes hE ho _) (by rw [eq_of_beq hk5]; decide) (by rw [eq_of_beq hk5]; rfl) kw_1157 kw_1159 kp_49 kw_6 kw_1160 yd_X12_goes rfl (by decide) (by decide) hl.1 (Nat.le_of_ble_eq_true rfl) d_X12_goesBy_5 (Nat.le_refl 0) (Nat.le_refl 0)) (fun S5 H locs _ F hf => ?_)
    refine lv_goto (tgt := 44) hx hb d_X12_goesBy_8 (by decide) ?_
    exact fm_retv Z hr hlk F d_X12_goesBy_44 (Option.some.inj hf)
theorem d_X12_done_0 : decode prog_14_method_67_code 0 = .ok (.iload_n 1, 1) := by decide +kernel
theorem d_X12_done_1 : decode prog_14_method_67_code 1 = .ok (.iconst 0, 1) := by decide +kernel
theorem d_X12_done_2 : decode prog_14_method_67_code 2 = .ok (.iconst 1, 1) := by decide +kernel
theorem d_X12_done_3 : decode prog_14_method_67_code 3 = .ok (.invokestatic 44, 3) := by decide +kernel
theorem d_X12_done_6 : decode prog_14_method_67_code 6 = .ok (.ifCond .ne 5, 3) := by decide +kernel
theorem d_X12_done_9 : decode prog_14_method_67_code 9 = .ok (.iconst (-1), 1) := by decide +kernel
theorem d_X12_done_10 : decode prog_14_method_67_code 10 = .ok (.ireturn, 1) := by decide +kernel
theorem d_X12_done_11 : decode prog_14_method_67_code 11 = .ok (.aload_n 0, 1) := by decide +kernel
theorem d_X12_done_12 : decode prog_14_method_67_code 12 = .ok (.invokevirtual 177, 3) := by decide +kernel
theorem d_X12_done_15 : decode prog_14_method_67_code 15 = .ok (.iconst 0, 1) := by decide +kernel
theorem d_X12_done_16 : decode prog_14_method_67_code 16 = .ok (.istore_n 2, 1) := by decide +kernel
theorem d_X12_done_17 : decode prog_14_method_67_code 17 = .ok (.iload_n 2, 1) := by decide +kernel
theorem d_X12_done_18 : decode prog_14_method_67_code 18 = .ok (.aload_n 0, 1) := by decide +kernel
theorem d_X12_done_19 : decode prog_14_method_67_code 19 = .ok (.getfield 9, 3) := by decide +kernel
theorem d_X12_done_22 : decode prog_14_method_67_code 22 = .ok (.bipush 24, 2) := by decide +kernel
theorem d_X12_done_24 : decode prog_14_method_67_code 24 = .ok (.iaload, 1) := by decide +kernel
theorem d_X12_done_25 : decode prog_14_method_67_code 25 = .ok (.if_icmp .ge 31, 3) := by decide +kernel
theorem d_X12_done_28 : decode prog_14_method_67_code 28 = .ok (.aload_n 0, 1) := by decide +kernel
theorem d_X12_done_29 : decode prog_14_method_67_code 29 = .ok (.aload_n 0, 1) := by decide +kernel
theorem d_X12_done_30 : decode prog_14_method_67_code 30 = .ok (.getfield 9, 3) := by decide +kernel
theorem d_X12_done_33 : decode prog_14_method_67_code 33 = .ok (.bipush 79, 2) := by decide +kernel
theorem d_X12_done_35 : decode prog_14_method_67_code 35 = .ok (.iload_n 2, 1) := by decide +kernel
theorem d_X12_done_36 : decode prog_14_method_67_code 36 = .ok (.iadd, 1) := by decide +kernel
theorem d_X12_done_37 : decode prog_14_method_67_code 37 = .ok (.iaload, 1) := by decide +kernel
theorem d_X12_done_38 : decode prog_14_method_67_code 38 = .ok (.aload_n 0, 1) := by decide +kernel
theorem d_X12_done_39 : decode prog_14_method_67_code 39 = .ok (.getfield 9, 3) := by decide +kernel
theorem d_X12_done_42 : decode prog_14_method_67_code 42 = .ok (.bipush 87, 2) := by decide +kernel
theorem d_X12_done_44 : decode prog_14_method_67_code 44 = .ok (.iload_n 2, 1) := by decide +kernel
theorem d_X12_done_45 : decode prog_14_method_67_code 45 = .ok (.iadd, 1) := by decide +kernel
theorem d_X12_done_46 : decode prog_14_method_67_code 46 = .ok (.iaload, 1) := by decide +kernel
theorem d_X12_done_47 : decode prog_14_method_67_code 47 = .ok (.invokevirtual 220, 3) := by decide +kernel
theorem d_X12_done_50 : decode prog_14_method_67_code 50 = .ok (.iinc 2 1, 3) := by decide +kernel
theorem d_X12_done_53 : decode prog_14_method_67_code 53 = .ok (.goto (-36), 3) := by decide +kernel
theorem d_X12_done_56 : decode prog_14_method_67_code 56 = .ok (.iload_n 1, 1) := by decide +kernel
theorem d_X12_done_57 : decode prog_14_method_67_code 57 = .ok (.ifCond .ne 12, 3) := by decide +kernel
theorem d_X12_done_60 : decode prog_14_method_67_code 60 = .ok (.aload_n 0, 1) := by decide +kernel
theorem d_X12_done_61 : decode prog_14_method_67_code 61 = .ok (.getfield 9, 3) := by decide +kernel
theorem d_X12_done_64 : decode prog_14_method_67_code 64 = .ok (.iconst 2, 1) := by decide +kernel
theorem d_X12_done_65 : decode prog_14_method_67_code 65 = .ok (.iaload, 1) := by decide +kernel
theorem d_X12_done_66 : decode prog_14_method_67_code 66 = .ok (.goto 7, 3) := by decide +kernel
theorem d_X12_done_69 : decode prog_14_method_67_code 69 = .ok (.aload_n 0, 1) := by decide +kernel
theorem d_X12_done_70 : decode prog_14_method_67_code 70 = .ok (.invokevirtual 158, 3) := by decide +kernel
theorem d_X12_done_73 : decode prog_14_method_67_code 73 = .ok (.istore_n 2, 1) := by decide +kernel
theorem d_X12_done_74 : decode prog_14_method_67_code 74 = .ok (.aload_n 0, 1) := by decide +kernel
theorem d_X12_done_75 : decode prog_14_method_67_code 75 = .ok (.invokevirtual 180, 3) := by decide +kernel
theorem d_X12_done_78 : decode prog_14_method_67_code 78 = .ok (.iload_n 2, 1) := by decide +kernel
theorem d_X12_done_79 : decode prog_14_method_67_code 79 = .ok (.ireturn, 1) := by decide +kernel
def k_X12_done_17 (kap lam : Nat → Nat) (go17 : Nat → Int32 → Int32 → fm_M → Option (Int32 × fm_M)) (r0 : Nat) (a1 : Int32) (a2 : Int32)  (S : fm_M) : Option (Int32 × fm_M) :=
  fm_gr kap 12 r0 1 S fun q19 =>
  fm_ld kap lam 13 q19 24 S fun x24 =>
  if x24 ≤ a2 then (
   if a1 = 0 then (
    fm_gr kap 12 r0 1 S fun q61 =>
    fm_ld kap lam 13 q61 2 S fun x65 =>
    fm_ck (kap r0 == 12) <|
    fm_b1 (m_X12_goesBack kap lam r0 S) fun S75 =>
    some (x65, S75)
   ) else (
    fm_ck (kap r0 == 12) <|
    fm_b1 (m_X12_offers kap lam r0 S) fun x70 =>
    fm_ck (kap r0 == 12) <|
    fm_b1 (m_X12_goesBack kap lam r0 S) fun S75 =>
    some (x70, S75)
   )
  ) else (
   fm_gr kap 12 r0 1 S fun q30 =>
   fm_ld kap lam 13 q30 (79 + a2) S fun x37 =>
   fm_gr kap 12 r0 1 S fun q39 =>
   fm_ld kap lam 13 q39 (87 + a2) S fun x46 =>
   fm_ck (kap r0 == 12) <|
   fm_b1 (m_X12_goesBy kap lam r0 x37 x46 S) fun S47 =>
   fm_let (a2 + 1 : Int32) fun x50 =>
   go17 r0 a1 x50 S47
  )
def b_X12_done_17 (kap lam : Nat → Nat) : Nat → Nat → Int32 → Int32 → fm_M → Option (Int32 × fm_M)
  | 0 => fun _ _ _ _ => none
  | n + 1 => k_X12_done_17 kap lam (b_X12_done_17 kap lam n)
def m_X12_done (kap lam : Nat → Nat) (r0 : Nat) (a1 : Int32) (S : fm_M) : Option (Int32 × fm_M) :=
  fm_b1 (m_X12_in kap lam a1 0 1 S) fun x3 =>
  if x3 = 0 then (
   some ((-1), S)
  ) else (
   fm_ck (kap r0 == 12) <|
   fm_b1 (m_X12_keeps kap lam r0 S) fun S12 =>
   fm_let (0 : Int32) fun x16 =>
   b_X12_done_17 kap lam fm_LF r0 a1 x16 S12
  )
set_option maxHeartbeats 4000000 in
set_option maxRecDepth 100000 in
theorem c_X12_done {l : Launch} {D : va_G} {ids kap lam : Nat → Nat} {RL : List Nat} {ad sk sv : Nat → Nat} {S : fm_M} {r0 : Nat} {a1 : Int32} {r : Int32} {u : fm_M} (hE : fm_E kap RL ad) (hf : m_X12_done kap lam r0 a1 S = some (r, u)) (sz : Nat) : fm_MI l y_X12_done prog_14_method_67_code 3 (Option.some Jvm.ClassFile.FieldType.int) 7 D ids kap lam RL ad sk sv S [.ref (ad r0), .int a1] sz r u := by
  refine fm_open rfl hE (Nat.le_of_ble_eq_true rfl) (fun p e s m args below meth c ls Z hr hlk G F N hl hsz => ?_)
  subst hsz
  obtain ⟨hx, hb, hml, hown, hts⟩ := id Z
  have hl : lv_has ls 3 [(0, .ref (ad r0)), (1, .int a1)] := hl
  generalize hQ : MQ below _ args s 0 0 (fm_A RL ad s.heap.size) = Qf
  have hL : ∀ n : Nat, (∀ (r0 : Nat) (a1 : Int32) (a2 : Int32)  (S : fm_M) (H : Heap) (locs : List Loc) (ls : Array Slot), fm_F D ids kap lam RL ad S (fm_A RL ad s.heap.size) s.heap H locs → lv_has ls 3 [(0, .ref (ad r0)), (1, .int a1), (2, .int a2)] → b_X12_done_17 kap lam n r0 a1 a2 S = some (r, u) → W p l e (fm_rm 7) s m args below meth c H locs 0 0 Qf (F0 m 17 ls [])) := by
    intro n
    induction n with
    | zero => exact fun _ _ _ _ _ _ _ _ _ hf => absurd hf (by intro h; cases h)
    | succ n ih =>
      intro r0 a1 a2 S H locs ls F hl hf
      have hf : k_X12_done_17 kap lam (b_X12_done_17 kap lam n) r0 a1 a2 S = some (r, u) := hf
      unfold k_X12_done_17 at hf
      refine lv_iload_n hx hb d_X12_done_17 rfl (lv_at hl 2 rfl) ?_
      refine lv_aload_n hx hb d_X12_done_18 rfl (lv_at hl 0 rfl) ?_
      refine fm_rgr Z G F hf fr_X12_9 d_X12_done_19 (fun q19 _ hf => ?_)
      refine lv_bipush (v := 24) hx hb d_X12_done_22 (by decide) ?_
      refine fm_rld Z G F hf d_X12_done_24 (fun x24 _ hf => ?_)
      refine lv_icmp_ge (tgt := 56) hx hb d_X12_done_25 (by decide) (fun c25 => ?_) (fun c25 => ?_)
      · have hf := fm_ip c25 hf
        refine lv_iload_n hx hb d_X12_done_56 rfl (lv_at hl 1 rfl) ?_
        refine lv_if_ne (tgt := 69) hx hb d_X12_done_57 (by decide) (fun c57 => ?_) (fun c57 => ?_)
        · have hf := fm_ig c57 hf
          refine lv_aload_n hx hb d_X12_done_69 rfl (lv_at hl 0 rfl) ?_
          obtain ⟨hk70, hf⟩ := fm_some hf
          refine fm_rcr G F hf (fun r ho => fm_runV (k := 0) Z G F N (As := []) (rest := []) (c_X12_offers hE ho _) (by rw [eq_of_beq hk70]; decide) (by rw [eq_of_beq hk70]; rfl) kw_1141 kw_1143 kp_46 kw_6 kw_1144 yd_X12_offers rfl (by decide) (by decide) hl.1 (Nat.le_of_ble_eq_true rfl) d_X12_done_70 (Nat.le_refl 0) (Nat.le_refl 0)) (fun x70 H locs _ F hf => ?_)
          refine lv_istore_n (lv' := [(2, .int x70), (0, .ref (ad r0)), (1, .int a1)]) hx hb d_X12_done_73 rfl hl (by decide) rfl (fun ls hl => ?_)
          refine lv_aload_n hx hb d_X12_done_74 rfl (lv_at hl 1 rfl) ?_
          obtain ⟨hk75, hf⟩ := fm_some hf
          refine fm_rcv G F hf (fun u ho => fm_runV (k := 0) Z G F N (As := []) (rest := []) (c_X12_goesBack hE ho _) (by rw [eq_of_beq hk75]; decide) (by rw [eq_of_beq hk75]; rfl) kw_1177 kw_1179 kp_53 kw_6 kw_1180 yd_X12_goesBack rfl (by decide) (by decide) hl.1 (Nat.le_of_ble_eq_true rfl) d_X12_done_75 (Nat.le_refl 0) (Nat.le_refl 0)) (fun S75 H locs _ F hf => ?_)
          refine lv_iload_n hx hb d_X12_done_78 rfl (lv_at hl 0 rfl) ?_
          rw [← hQ]; exact fm_reti Z hr hlk F d_X12_done_79 (Prod.mk.inj (Option.some.inj hf)).1 (Prod.mk.inj (Option.some.inj hf)).2
        · have hf := fm_ip c57 hf
          refine lv_aload_n hx hb d_X12_done_60 rfl (lv_at hl 0 rfl) ?_
          refine fm_rgr Z G F hf fr_X12_9 d_X12_done_61 (fun q61 _ hf => ?_)
          refine lv_iconst (v := 2) hx hb d_X12_done_64 (by decide) ?_
          refine fm_rld Z G F hf d_X12_done_65 (fun x65 _ hf => ?_)
          refine lv_goto (tgt := 73) hx hb d_X12_done_66 (by decide) ?_
          refine lv_istore_n (lv' := [(2, .int x65), (0, .ref (ad r0)), (1, .int a1)]) hx hb d_X12_done_73 rfl hl (by decide) rfl (fun ls hl => ?_)
          refine lv_aload_n hx hb d_X12_done_74 rfl (lv_at hl 1 rfl) ?_
          obtain ⟨hk75, hf⟩ := fm_some hf
          refine fm_rcv G F hf (fun u ho => fm_runV (k := 0) Z G F N (As := []) (rest := []) (c_X12_goesBack hE ho _) (by rw [eq_of_beq hk75]; decide) (by rw [eq_of_beq hk75]; rfl) kw_1177 kw_1179 kp_53 kw_6 kw_1180 yd_X12_goesBack rfl (by decide) (by decide) hl.1 (Nat.le_of_ble_eq_true rfl) d_X12_done_75 (Nat.le_refl 0) (Nat.le_refl 0)) (fun S75 H locs _ F hf => ?_)
          refine lv_iload_n hx hb d_X12_done_78 rfl (lv_at hl 0 rfl) ?_
          rw [← hQ]; exact fm_reti Z hr hlk F d_X12_done_79 (Prod.mk.inj (Option.some.inj hf)).1 (Prod.mk.inj (Option.some.inj hf)).2
      · have hf := fm_ig c25 hf
        refine lv_aload_n hx hb d_X12_done_28 rfl (lv_at hl 0 rfl) ?_
        refine lv_aload_n hx hb d_X12_done_29 rfl (lv_at hl 0 rfl) ?_
        refine fm_rgr Z G F hf fr_X12_9 d_X12_done_30 (fun q30 _ hf => ?_)
        refine lv_bipush (v := 79) hx hb d_X12_done_33 (by decide) ?_
        refine lv_iload_n hx hb d_X12_done_35 rfl (lv_at hl 2 rfl) ?_
        refine lv_iadd hx hb d_X12_done_36 ?_
        refine fm_rld Z G F hf d_X12_done_37 (fun x37 _ hf => ?_)
        refine lv_aload_n hx hb d_X12_done_38 rfl (lv_at hl 0 rfl) ?_
        refine fm_rgr Z G F hf fr_X12_9 d_X12_done_39 (fun q39 _ hf => ?_)
        refine lv_bipush (v := 87) hx hb d_X12_done_42 (by decide) ?_
        refine lv_iload_n hx hb d_X12_done_44 rfl (lv_at hl 2 rfl) ?_
        refine lv_iadd hx hb d_X12_done_45 ?_
        refine fm_rld Z G F hf d_X12_done_46 (fun x46 _ hf => ?_)
        obtain ⟨hk47, hf⟩ := fm_some hf
        refine fm_rcv G F hf (fun u ho => fm_runV (k := 2) Z G F N (As := [.int x37, .int x46]) (rest := []) (c_X12_goesBy hE ho _) (by rw [eq_of_beq hk47]; decide) (by rw [eq_of_beq hk47]; rfl) kw_1265 kw_1267 kp_61 kw_6 kw_1268 yd_X12_goesBy rfl (by decide) (by decide) hl.1 (Nat.le_of_ble_eq_true rfl) d_X12_done_47 (Nat.le_refl 0) (Nat.le_refl 0)) (fun S47 H locs _ F hf => ?_)
        obtain ⟨x50, ex50⟩ : ∃ y : Int32, y = a2 + 1 := ⟨_, rfl⟩
        have hf := fm_let_at ex50 hf
        refine lv_iinc (v := x50) (lv' := [(2, .int x50), (0, .ref (ad r0)), (1, .int a1)]) hx hb d_X12_done_50 hl (k := 2) rfl (by rw [ex50]; rfl) (by decide) rfl (fun ls hl => ?_)
        refine lv_goto (tgt := 17) hx hb d_X12_done_53 (by decide) ?_
        exact ih r0 a1 x50 S47 _ _ _ F (lv_sub hl [1, 2, 0] rfl) hf
  unfold m_X12_done at hf
  refine lv_iload_n hx hb d_X12_done_0 rfl (lv_at hl 1 rfl) ?_
  refine lv_iconst (v := 0) hx hb d_X12_done_1 (by decide) ?_
  refine lv_iconst (v := 1) hx hb d_X12_done_2 (by decide) ?_
  refine fm_rcr G F hf (fun r ho => fm_runS (k := 3) Z G F N (As := [.int a1, .int 0, .int 1]) (rest := []) (c_X12_in hE ho _) kw_1004 kw_1005 kw_6 kw_1006 yd_X12_in rfl (by decide) (by decide) hl.1 (Nat.le_of_ble_eq_true rfl) d_X12_done_3 (Nat.le_refl 0) (Nat.le_refl 0)) (fun x3 H locs _ F hf => ?_)
  refine lv_if_ne (tgt := 11) hx hb d_X12_done_6 (by decide) (fun c6 => ?_) (fun c6 => ?_)
  · have hf := fm_ig c6 hf
    refine lv_aload_n hx hb d_X12_done_11 rfl (lv_at hl 0 rfl) ?_
    obtain ⟨hk12, hf⟩ := fm_some hf
    refine fm_rcv G F hf (fun u ho => fm_runV (k := 0) Z G F N (As := []) (rest := []) (c_X12_keeps hE ho _) (by rw [eq_of_beq hk12]; decide) (by rw [eq_of_beq hk12]; rfl) kw_1173 kw_1175 kp_52 kw_6 kw_1176 yd_X12_keeps rfl (by decide) (by decide) hl.1 (Nat.le_of_ble_eq_true rfl) d_X12_done_12 (Nat.le_refl 0) (Nat.le_refl 0)) (fun S12 H locs _ F hf => ?_)
    refine lv_iconst (v := 0) hx hb d_X12_done_15 (by decide) ?_
    refine lv_topi (fun x16 ex16 => ?_)
    have hf := fm_let_at ex16 hf
    refine lv_istore_n (lv' := [(2, .int x16), (0, .ref (ad r0)), (1, .int a1)]) hx hb d_X12_done_16 rfl hl (by decide) rfl (fun ls hl => ?_)
    exact (hL fm_LF) r0 a1 x16 S12 _ _ _ F (lv_sub hl [1, 2, 0] rfl) hf
  · have hf := fm_ip c6 hf
    refine lv_iconst (v := (-1)) hx hb d_X12_done_9 (by decide) ?_
    rw [← hQ]; exact fm_reti Z hr hlk F d_X12_done_10 (Prod.mk.inj (Option.some.inj hf)).1 (Prod.mk.inj (Option.some.inj hf)).2
theorem d_X12_book_0 : decode prog_14_method_68_code 0 = .ok (.iload_n 1, 1) := by decide +kernel
theorem d_X12_book_1 : decode prog_14_method_68_code 1 = .ok (.iconst (-1), 1) := by decide +kernel
theorem d_X12_book_2 : decode prog_14_method_68_code 2 = .ok (.if_icmp .ne 13, 3) := by decide +kernel
theorem d_X12_book_5 : decode prog_14_method_68_code 5 = .ok (.aload_n 0, 1) := by decide +kernel
theorem d_X12_book_6 : decode prog_14_method_68_code 6 = .ok (.getfield 9, 3) := by decide +kernel
theorem d_X12_book_9 : decode prog_14_method_68_code 9 = .ok (.bipush 25, 2) := by decide +kernel
theorem d_X12_book_11 : decode prog_14_method_68_code 11 = .ok (.iconst 0, 1) := by decide +kernel
theorem d_X12_book_12 : decode prog_14_method_68_code 12 = .ok (.iastore, 1) := by decide +kernel
theorem d_X12_book_13 : decode prog_14_method_68_code 13 = .ok (.iconst 0, 1) := by decide +kernel
theorem d_X12_book_14 : decode prog_14_method_68_code 14 = .ok (.ireturn, 1) := by decide +kernel
theorem d_X12_book_15 : decode prog_14_method_68_code 15 = .ok (.aload_n 0, 1) := by decide +kernel
theorem d_X12_book_16 : decode prog_14_method_68_code 16 = .ok (.iload_n 1, 1) := by decide +kernel
theorem d_X12_book_17 : decode prog_14_method_68_code 17 = .ok (.invokevirtual 140, 3) := by decide +kernel
theorem d_X12_book_20 : decode prog_14_method_68_code 20 = .ok (.ifCond .ne 5, 3) := by decide +kernel
theorem d_X12_book_23 : decode prog_14_method_68_code 23 = .ok (.iconst (-1), 1) := by decide +kernel
theorem d_X12_book_24 : decode prog_14_method_68_code 24 = .ok (.ireturn, 1) := by decide +kernel
theorem d_X12_book_25 : decode prog_14_method_68_code 25 = .ok (.iload_n 2, 1) := by decide +kernel
theorem d_X12_book_26 : decode prog_14_method_68_code 26 = .ok (.invokestatic 187, 3) := by decide +kernel
theorem d_X12_book_29 : decode prog_14_method_68_code 29 = .ok (.ifCond .ne 6, 3) := by decide +kernel
theorem d_X12_book_32 : decode prog_14_method_68_code 32 = .ok (.bipush (-2), 2) := by decide +kernel
theorem d_X12_book_34 : decode prog_14_method_68_code 34 = .ok (.ireturn, 1) := by decide +kernel
theorem d_X12_book_35 : decode prog_14_method_68_code 35 = .ok (.aload_n 0, 1) := by decide +kernel
theorem d_X12_book_36 : decode prog_14_method_68_code 36 = .ok (.getfield 9, 3) := by decide +kernel
theorem d_X12_book_39 : decode prog_14_method_68_code 39 = .ok (.bipush 25, 2) := by decide +kernel
theorem d_X12_book_41 : decode prog_14_method_68_code 41 = .ok (.iaload, 1) := by decide +kernel
theorem d_X12_book_42 : decode prog_14_method_68_code 42 = .ok (.bipush 8, 2) := by decide +kernel
theorem d_X12_book_44 : decode prog_14_method_68_code 44 = .ok (.if_icmp .ne 6, 3) := by decide +kernel
theorem d_X12_book_47 : decode prog_14_method_68_code 47 = .ok (.bipush (-4), 2) := by decide +kernel
theorem d_X12_book_49 : decode prog_14_method_68_code 49 = .ok (.ireturn, 1) := by decide +kernel
theorem d_X12_book_50 : decode prog_14_method_68_code 50 = .ok (.aload_n 0, 1) := by decide +kernel
theorem d_X12_book_51 : decode prog_14_method_68_code 51 = .ok (.getfield 9, 3) := by decide +kernel
theorem d_X12_book_54 : decode prog_14_method_68_code 54 = .ok (.bipush 95, 2) := by decide +kernel
theorem d_X12_book_56 : decode prog_14_method_68_code 56 = .ok (.aload_n 0, 1) := by decide +kernel
theorem d_X12_book_57 : decode prog_14_method_68_code 57 = .ok (.getfield 9, 3) := by decide +kernel
theorem d_X12_book_60 : decode prog_14_method_68_code 60 = .ok (.bipush 25, 2) := by decide +kernel
theorem d_X12_book_62 : decode prog_14_method_68_code 62 = .ok (.iaload, 1) := by decide +kernel
theorem d_X12_book_63 : decode prog_14_method_68_code 63 = .ok (.iadd, 1) := by decide +kernel
theorem d_X12_book_64 : decode prog_14_method_68_code 64 = .ok (.iload_n 1, 1) := by decide +kernel
theorem d_X12_book_65 : decode prog_14_method_68_code 65 = .ok (.iastore, 1) := by decide +kernel
theorem d_X12_book_66 : decode prog_14_method_68_code 66 = .ok (.aload_n 0, 1) := by decide +kernel
theorem d_X12_book_67 : decode prog_14_method_68_code 67 = .ok (.getfield 9, 3) := by decide +kernel
theorem d_X12_book_70 : decode prog_14_method_68_code 70 = .ok (.bipush 103, 2) := by decide +kernel
theorem d_X12_book_72 : decode prog_14_method_68_code 72 = .ok (.aload_n 0, 1) := by decide +kernel
theorem d_X12_book_73 : decode prog_14_method_68_code 73 = .ok (.getfield 9, 3) := by decide +kernel
theorem d_X12_book_76 : decode prog_14_method_68_code 76 = .ok (.bipush 25, 2) := by decide +kernel
theorem d_X12_book_78 : decode prog_14_method_68_code 78 = .ok (.iaload, 1) := by decide +kernel
theorem d_X12_book_79 : decode prog_14_method_68_code 79 = .ok (.iadd, 1) := by decide +kernel
theorem d_X12_book_80 : decode prog_14_method_68_code 80 = .ok (.iload_n 2, 1) := by decide +kernel
theorem d_X12_book_81 : decode prog_14_method_68_code 81 = .ok (.iastore, 1) := by decide +kernel
theorem d_X12_book_82 : decode prog_14_method_68_code 82 = .ok (.aload_n 0, 1) := by decide +kernel
theorem d_X12_book_83 : decode prog_14_method_68_code 83 = .ok (.getfield 9, 3) := by decide +kernel
theorem d_X12_book_86 : decode prog_14_method_68_code 86 = .ok (.bipush 25, 2) := by decide +kernel
theorem d_X12_book_88 : decode prog_14_method_68_code 88 = .ok (.dup2, 1) := by decide +kernel
theorem d_X12_book_89 : decode prog_14_method_68_code 89 = .ok (.iaload, 1) := by decide +kernel
theorem d_X12_book_90 : decode prog_14_method_68_code 90 = .ok (.iconst 1, 1) := by decide +kernel
theorem d_X12_book_91 : decode prog_14_method_68_code 91 = .ok (.iadd, 1) := by decide +kernel
theorem d_X12_book_92 : decode prog_14_method_68_code 92 = .ok (.iastore, 1) := by decide +kernel
theorem d_X12_book_93 : decode prog_14_method_68_code 93 = .ok (.aload_n 0, 1) := by decide +kernel
theorem d_X12_book_94 : decode prog_14_method_68_code 94 = .ok (.getfield 9, 3) := by decide +kernel
theorem d_X12_book_97 : decode prog_14_method_68_code 97 = .ok (.bipush 25, 2) := by decide +kernel
theorem d_X12_book_99 : decode prog_14_method_68_code 99 = .ok (.iaload, 1) := by decide +kernel
theorem d_X12_book_100 : decode prog_14_method_68_code 100 = .ok (.ireturn, 1) := by decide +kernel
def m_X12_book (kap lam : Nat → Nat) (r0 : Nat) (a1 : Int32) (a2 : Int32) (S : fm_M) : Option (Int32 × fm_M) :=
  if a1 = (-1) then (
   fm_gr kap 12 r0 1 S fun q6 =>
   fm_st kap lam q6 25 0 S fun S12 =>
   some (0, S12)
  ) else (
   fm_ck (kap r0 == 12) <|
   fm_b1 (m_X12_isPane kap lam r0 a1 S) fun x17 =>
   if x17 = 0 then (
    some ((-1), S)
   ) else (
    fm_b1 (m_X12_isIce kap lam a2 S) fun x26 =>
    if x26 = 0 then (
     some ((-2), S)
    ) else (
     fm_gr kap 12 r0 1 S fun q36 =>
     fm_ld kap lam 13 q36 25 S fun x41 =>
     if x41 = 8 then (
      some ((-4), S)
     ) else (
      fm_gr kap 12 r0 1 S fun q51 =>
      fm_gr kap 12 r0 1 S fun q57 =>
      fm_ld kap lam 13 q57 25 S fun x62 =>
      fm_st kap lam q51 (95 + x62) a1 S fun S65 =>
      fm_gr kap 12 r0 1 S65 fun q67 =>
      fm_gr kap 12 r0 1 S65 fun q73 =>
      fm_ld kap lam 13 q73 25 S65 fun x78 =>
      fm_st kap lam q67 (103 + x78) a2 S65 fun S81 =>
      fm_gr kap 12 r0 1 S81 fun q83 =>
      fm_ld kap lam 13 q83 25 S81 fun x89 =>
      fm_st kap lam q83 25 (x89 + 1) S81 fun S92 =>
      fm_gr kap 12 r0 1 S92 fun q94 =>
      fm_ld kap lam 13 q94 25 S92 fun x99 =>
      some (x99, S92)
     )
    )
   )
  )
set_option maxHeartbeats 4000000 in
set_option maxRecDepth 100000 in
theorem c_X12_book {l : Launch} {D : va_G} {ids kap lam : Nat → Nat} {RL : List Nat} {ad sk sv : Nat → Nat} {S : fm_M} {r0 : Nat} {a1 : Int32} {a2 : Int32} {r : Int32} {u : fm_M} (hE : fm_E kap RL ad) (hf : m_X12_book kap lam r0 a1 a2 S = some (r, u)) (sz : Nat) : fm_MI l y_X12_book prog_14_method_68_code 3 (Option.some Jvm.ClassFile.FieldType.int) 2 D ids kap lam RL ad sk sv S [.ref (ad r0), .int a1, .int a2] sz r u := by
  refine fm_open rfl hE (Nat.le_of_ble_eq_true rfl) (fun p e s m args below meth c ls Z hr hlk G F N hl hsz => ?_)
  subst hsz
  obtain ⟨hx, hb, hml, hown, hts⟩ := id Z
  have hl : lv_has ls 3 [(0, .ref (ad r0)), (1, .int a1), (2, .int a2)] := hl
  unfold m_X12_book at hf
  refine lv_iload_n hx hb d_X12_book_0 rfl (lv_at hl 1 rfl) ?_
  refine lv_iconst (v := (-1)) hx hb d_X12_book_1 (by decide) ?_
  refine lv_icmp_ne (tgt := 15) hx hb d_X12_book_2 (by decide) (fun c2 => ?_) (fun c2 => ?_)
  · have hf := fm_ig c2 hf
    refine lv_aload_n hx hb d_X12_book_15 rfl (lv_at hl 0 rfl) ?_
    refine lv_iload_n hx hb d_X12_book_16 rfl (lv_at hl 1 rfl) ?_
    obtain ⟨hk17, hf⟩ := fm_some hf
    refine fm_rcr G F hf (fun r ho => fm_runV (k := 1) Z G F N (As := [.int a1]) (rest := []) (c_X12_isPane hE ho _) (by rw [eq_of_beq hk17]; decide) (by rw [eq_of_beq hk17]; rfl) kw_1075 kw_1077 kp_37 kw_6 kw_1078 yd_X12_isPane rfl (by decide) (by decide) hl.1 (Nat.le_of_ble_eq_true rfl) d_X12_book_17 (Nat.le_refl 0) (Nat.le_refl 0)) (fun x17 H locs _ F hf => ?_)
    refine lv_if_ne (tgt := 25) hx hb d_X12_book_20 (by decide) (fun c20 => ?_) (fun c20 => ?_)
    · have hf := fm_ig c20 hf
      refine lv_iload_n hx hb d_X12_book_25 rfl (lv_at hl 2 rfl) ?_
      refine fm_rcr G F hf (fun r ho => fm_runS (k := 1) Z G F N (As := [.int a2]) (rest := []) (c_X12_isIce hE ho _) kw_1197 kw_1198 kw_6 kw_1199 yd_X12_isIce rfl (by decide) (by decide) hl.1 (Nat.le_of_ble_eq_true rfl) d_X12_book_26 (Nat.le_refl 0) (Nat.le_refl 0)) (fun x26 H locs _ F hf => ?_)
      refine lv_if_ne (tgt := 35) hx hb d_X12_book_29 (by decide) (fun c29 => ?_) (fun c29 => ?_)
      · have hf := fm_ig c29 hf
        refine lv_aload_n hx hb d_X12_book_35 rfl (lv_at hl 0 rfl) ?_
        refine fm_rgr Z G F hf fr_X12_9 d_X12_book_36 (fun q36 _ hf => ?_)
        refine lv_bipush (v := 25) hx hb d_X12_book_39 (by decide) ?_
        refine fm_rld Z G F hf d_X12_book_41 (fun x41 _ hf => ?_)
        refine lv_bipush (v := 8) hx hb d_X12_book_42 (by decide) ?_
        refine lv_icmp_ne (tgt := 50) hx hb d_X12_book_44 (by decide) (fun c44 => ?_) (fun c44 => ?_)
        · have hf := fm_ig c44 hf
          refine lv_aload_n hx hb d_X12_book_50 rfl (lv_at hl 0 rfl) ?_
          refine fm_rgr Z G F hf fr_X12_9 d_X12_book_51 (fun q51 _ hf => ?_)
          refine lv_bipush (v := 95) hx hb d_X12_book_54 (by decide) ?_
          refine lv_aload_n hx hb d_X12_book_56 rfl (lv_at hl 0 rfl) ?_
          refine fm_rgr Z G F hf fr_X12_9 d_X12_book_57 (fun q57 _ hf => ?_)
          refine lv_bipush (v := 25) hx hb d_X12_book_60 (by decide) ?_
          refine fm_rld Z G F hf d_X12_book_62 (fun x62 _ hf => ?_)
          refine lv_iadd hx hb d_X12_book_63 ?_
          refine lv_iload_n hx hb d_X12_book_64 rfl (lv_at hl 1 rfl) ?_
          refine fm_rst Z G F hf d_X12_book_65 (fun S65 H locs _ F hf => ?_)
          refine lv_aload_n hx hb d_X12_book_66 rfl (lv_at hl 0 rfl) ?_
          refine fm_rgr Z G F hf fr_X12_9 d_X12_book_67 (fun q67 _ hf => ?_)
          refine lv_bipush (v := 103) hx hb d_X12_book_70 (by decide) ?_
          refine lv_aload_n hx hb d_X12_book_72 rfl (lv_at hl 0 rfl) ?_
          refine fm_rgr Z G F hf fr_X12_9 d_X12_book_73 (fun q73 _ hf => ?_)
          refine lv_bipush (v := 25) hx hb d_X12_book_76 (by decide) ?_
          refine fm_rld Z G F hf d_X12_book_78 (fun x78 _ hf => ?_)
          refine lv_iadd hx hb d_X12_book_79 ?_
          refine lv_iload_n hx hb d_X12_book_80 rfl (lv_at hl 2 rfl) ?_
          refine fm_rst Z G F hf d_X12_book_81 (fun S81 H locs _ F hf => ?_)
          refine lv_aload_n hx hb d_X12_book_82 rfl (lv_at hl 0 rfl) ?_
          refine fm_rgr Z G F hf fr_X12_9 d_X12_book_83 (fun q83 _ hf => ?_)
          refine lv_bipush (v := 25) hx hb d_X12_book_86 (by decide) ?_
          refine lv_dup2_11 hx hb d_X12_book_88 rfl rfl ?_
          refine fm_rld Z G F hf d_X12_book_89 (fun x89 _ hf => ?_)
          refine lv_iconst (v := 1) hx hb d_X12_book_90 (by decide) ?_
          refine lv_iadd hx hb d_X12_book_91 ?_
          refine fm_rst Z G F hf d_X12_book_92 (fun S92 H locs _ F hf => ?_)
          refine lv_aload_n hx hb d_X12_book_93 rfl (lv_at hl 0 rfl) ?_
          refine fm_rgr Z G F hf fr_X12_9 d_X12_book_94 (fun q94 _ hf => ?_)
          refine lv_bipush (v := 25) hx hb d_X12_book_97 (by decide) ?_
          refine fm_rld Z G F hf d_X12_book_99 (fun x99 _ hf => ?_)
          exact fm_reti Z hr hlk F d_X12_book_100 (Prod.mk.inj (Option.some.inj hf)).1 (Prod.mk.inj (Option.some.inj hf)).2
        · have hf := fm_ip c44 hf
          refine lv_bipush (v := (-4)) hx hb d_X12_book_47 (by decide) ?_
          exact fm_reti Z hr hlk F d_X12_book_49 (Prod.mk.inj (Option.some.inj hf)).1 (Prod.mk.inj (Option.some.inj hf)).2
      · have hf := fm_ip c29 hf
        refine lv_bipush (v := (-2)) hx hb d_X12_book_32 (by decide) ?_
        exact fm_reti Z hr hlk F d_X12_book_34 (Prod.mk.inj (Option.some.inj hf)).1 (Prod.mk.inj (Option.some.inj hf)).2
    · have hf := fm_ip c20 hf
      refine lv_iconst (v := (-1)) hx hb d_X12_book_23 (by decide) ?_
      exact fm_reti Z hr hlk F d_X12_book_24 (Prod.mk.inj (Option.some.inj hf)).1 (Prod.mk.inj (Option.some.inj hf)).2
  · have hf := fm_ip c2 hf
    refine lv_aload_n hx hb d_X12_book_5 rfl (lv_at hl 0 rfl) ?_
    refine fm_rgr Z G F hf fr_X12_9 d_X12_book_6 (fun q6 _ hf => ?_)
    refine lv_bipush (v := 25) hx hb d_X12_book_9 (by decide) ?_
    refine lv_iconst (v := 0) hx hb d_X12_book_11 (by decide) ?_
    refine fm_rst Z G F hf d_X12_book_12 (fun S12 H locs _ F hf => ?_)
    refine lv_iconst (v := 0) hx hb d_X12_book_13 (by decide) ?_
    exact fm_reti Z hr hlk F d_X12_book_14 (Prod.mk.inj (Option.some.inj hf)).1 (Prod.mk.inj (Option.some.inj hf)).2
theorem d_X12_looked_0 : decode prog_14_method_69_code 0 = .ok (.iconst 0, 1) := by decide +kernel
theorem d_X12_looked_1 : decode prog_14_method_69_code 1 = .ok (.istore_n 1, 1) := by decide +kernel
theorem d_X12_looked_2 : decode prog_14_method_69_code 2 = .ok (.iload_n 1, 1) := by decide +kernel
theorem d_X12_looked_3 : decode prog_14_method_69_code 3 = .ok (.aload_n 0, 1) := by decide +kernel
theorem d_X12_looked_4 : decode prog_14_method_69_code 4 = .ok (.getfield 9, 3) := by decide +kernel
theorem d_X12_looked_7 : decode prog_14_method_69_code 7 = .ok (.bipush 25, 2) := by decide +kernel
theorem d_X12_looked_9 : decode prog_14_method_69_code 9 = .ok (.iaload, 1) := by decide +kernel
theorem d_X12_looked_10 : decode prog_14_method_69_code 10 = .ok (.if_icmp .ge 39, 3) := by decide +kernel
theorem d_X12_looked_13 : decode prog_14_method_69_code 13 = .ok (.aload_n 0, 1) := by decide +kernel
theorem d_X12_looked_14 : decode prog_14_method_69_code 14 = .ok (.getfield 9, 3) := by decide +kernel
theorem d_X12_looked_17 : decode prog_14_method_69_code 17 = .ok (.iconst 3, 1) := by decide +kernel
theorem d_X12_looked_18 : decode prog_14_method_69_code 18 = .ok (.aload_n 0, 1) := by decide +kernel
theorem d_X12_looked_19 : decode prog_14_method_69_code 19 = .ok (.getfield 9, 3) := by decide +kernel
theorem d_X12_looked_22 : decode prog_14_method_69_code 22 = .ok (.bipush 95, 2) := by decide +kernel
theorem d_X12_looked_24 : decode prog_14_method_69_code 24 = .ok (.iload_n 1, 1) := by decide +kernel
theorem d_X12_looked_25 : decode prog_14_method_69_code 25 = .ok (.iadd, 1) := by decide +kernel
theorem d_X12_looked_26 : decode prog_14_method_69_code 26 = .ok (.iaload, 1) := by decide +kernel
theorem d_X12_looked_27 : decode prog_14_method_69_code 27 = .ok (.iadd, 1) := by decide +kernel
theorem d_X12_looked_28 : decode prog_14_method_69_code 28 = .ok (.iaload, 1) := by decide +kernel
theorem d_X12_looked_29 : decode prog_14_method_69_code 29 = .ok (.aload_n 0, 1) := by decide +kernel
theorem d_X12_looked_30 : decode prog_14_method_69_code 30 = .ok (.getfield 9, 3) := by decide +kernel
theorem d_X12_looked_33 : decode prog_14_method_69_code 33 = .ok (.bipush 103, 2) := by decide +kernel
theorem d_X12_looked_35 : decode prog_14_method_69_code 35 = .ok (.iload_n 1, 1) := by decide +kernel
theorem d_X12_looked_36 : decode prog_14_method_69_code 36 = .ok (.iadd, 1) := by decide +kernel
theorem d_X12_looked_37 : decode prog_14_method_69_code 37 = .ok (.iaload, 1) := by decide +kernel
theorem d_X12_looked_38 : decode prog_14_method_69_code 38 = .ok (.if_icmp .eq 5, 3) := by decide +kernel
theorem d_X12_looked_41 : decode prog_14_method_69_code 41 = .ok (.iload_n 1, 1) := by decide +kernel
theorem d_X12_looked_42 : decode prog_14_method_69_code 42 = .ok (.ireturn, 1) := by decide +kernel
theorem d_X12_looked_43 : decode prog_14_method_69_code 43 = .ok (.iinc 1 1, 3) := by decide +kernel
theorem d_X12_looked_46 : decode prog_14_method_69_code 46 = .ok (.goto (-44), 3) := by decide +kernel
theorem d_X12_looked_49 : decode prog_14_method_69_code 49 = .ok (.bipush (-5), 2) := by decide +kernel
theorem d_X12_looked_51 : decode prog_14_method_69_code 51 = .ok (.ireturn, 1) := by decide +kernel
def k_X12_looked_2 (kap lam : Nat → Nat) (S : fm_M) (go2 : Nat → Int32 → Option Int32) (r0 : Nat) (a1 : Int32)  : Option Int32 :=
  fm_gr kap 12 r0 1 S fun q4 =>
  fm_ld kap lam 13 q4 25 S fun x9 =>
  if x9 ≤ a1 then (
   some (-5)
  ) else (
   fm_gr kap 12 r0 1 S fun q14 =>
   fm_gr kap 12 r0 1 S fun q19 =>
   fm_ld kap lam 13 q19 (95 + a1) S fun x26 =>
   fm_ld kap lam 13 q14 (3 + x26) S fun x28 =>
   fm_gr kap 12 r0 1 S fun q30 =>
   fm_ld kap lam 13 q30 (103 + a1) S fun x37 =>
   if x28 = x37 then (
    fm_let (a1 + 1 : Int32) fun x43 =>
    go2 r0 x43
   ) else (
    some a1
   )
  )
def b_X12_looked_2 (kap lam : Nat → Nat) (S : fm_M) : Nat → Nat → Int32 → Option Int32
  | 0 => fun _ _ => none
  | n + 1 => k_X12_looked_2 kap lam S (b_X12_looked_2 kap lam S n)
def m_X12_looked (kap lam : Nat → Nat) (r0 : Nat) (S : fm_M) : Option Int32 :=
  fm_let (0 : Int32) fun x1 =>
  b_X12_looked_2 kap lam S fm_LF r0 x1
set_option maxHeartbeats 4000000 in
set_option maxRecDepth 100000 in
theorem c_X12_looked {l : Launch} {D : va_G} {ids kap lam : Nat → Nat} {RL : List Nat} {ad sk sv : Nat → Nat} {S : fm_M} {r0 : Nat} {r : Int32} (hE : fm_E kap RL ad) (hf : m_X12_looked kap lam r0 S = some r) (sz : Nat) : fm_MI l y_X12_looked prog_14_method_69_code 2 (Option.some Jvm.ClassFile.FieldType.int) 0 D ids kap lam RL ad sk sv S [.ref (ad r0)] sz r S := by
  refine fm_open rfl hE (Nat.le_of_ble_eq_true rfl) (fun p e s m args below meth c ls Z hr hlk G F N hl hsz => ?_)
  subst hsz
  obtain ⟨hx, hb, hml, hown, hts⟩ := id Z
  have hl : lv_has ls 2 [(0, .ref (ad r0))] := hl
  generalize hQ : MQ below _ args s 0 0 (fm_A RL ad s.heap.size) = Qf
  have hL : ∀ n : Nat, (∀ (r0 : Nat) (a1 : Int32)  (H : Heap) (locs : List Loc) (ls : Array Slot), fm_F D ids kap lam RL ad S (fm_A RL ad s.heap.size) s.heap H locs → lv_has ls 2 [(0, .ref (ad r0)), (1, .int a1)] → b_X12_looked_2 kap lam S n r0 a1 = some r → W p l e (fm_rm 0) s m args below meth c H locs 0 0 Qf (F0 m 2 ls [])) := by
    intro n
    induction n with
    | zero => exact fun _ _ _ _ _ _ _ hf => absurd hf (by intro h; cases h)
    | succ n ih =>
      intro r0 a1 H locs ls F hl hf
      have hf : k_X12_looked_2 kap lam S (b_X12_looked_2 kap lam S n) r0 a1 = some r := hf
      unfold k_X12_looked_2 at hf
      refine lv_iload_n hx hb d_X12_looked_2 rfl (lv_at hl 1 rfl) ?_
      refine lv_aload_n hx hb d_X12_looked_3 rfl (lv_at hl 0 rfl) ?_
      refine fm_rgr Z G F hf fr_X12_9 d_X12_looked_4 (fun q4 _ hf => ?_)
      refine lv_bipush (v := 25) hx hb d_X12_looked_7 (by decide) ?_
      refine fm_rld Z G F hf d_X12_looked_9 (fun x9 _ hf => ?_)
      refine lv_icmp_ge (tgt := 49) hx hb d_X12_looked_10 (by decide) (fun c10 => ?_) (fun c10 => ?_)
      · have hf := fm_ip c10 hf
        refine lv_bipush (v := (-5)) hx hb d_X12_looked_49 (by decide) ?_
        rw [← hQ]; exact fm_reti Z hr hlk F d_X12_looked_51 (Option.some.inj hf) rfl
      · have hf := fm_ig c10 hf
        refine lv_aload_n hx hb d_X12_looked_13 rfl (lv_at hl 0 rfl) ?_
        refine fm_rgr Z G F hf fr_X12_9 d_X12_looked_14 (fun q14 _ hf => ?_)
        refine lv_iconst (v := 3) hx hb d_X12_looked_17 (by decide) ?_
        refine lv_aload_n hx hb d_X12_looked_18 rfl (lv_at hl 0 rfl) ?_
        refine fm_rgr Z G F hf fr_X12_9 d_X12_looked_19 (fun q19 _ hf => ?_)
        refine lv_bipush (v := 95) hx hb d_X12_looked_22 (by decide) ?_
        refine lv_iload_n hx hb d_X12_looked_24 rfl (lv_at hl 1 rfl) ?_
        refine lv_iadd hx hb d_X12_looked_25 ?_
        refine fm_rld Z G F hf d_X12_looked_26 (fun x26 _ hf => ?_)
        refine lv_iadd hx hb d_X12_looked_27 ?_
        refine fm_rld Z G F hf d_X12_looked_28 (fun x28 _ hf => ?_)
        refine lv_aload_n hx hb d_X12_looked_29 rfl (lv_at hl 0 rfl) ?_
        refine fm_rgr Z G F hf fr_X12_9 d_X12_looked_30 (fun q30 _ hf => ?_)
        refine lv_bipush (v := 103) hx hb d_X12_looked_33 (by decide) ?_
        refine lv_iload_n hx hb d_X12_looked_35 rfl (lv_at hl 1 rfl) ?_
        refine lv_iadd hx hb d_X12_looked_36 ?_
        refine fm_rld Z G F hf d_X12_looked_37 (fun x37 _ hf => ?_)
        refine lv_icmp_eq (tgt := 43) hx hb d_X12_looked_38 (by decide) (fun c38 => ?_) (fun c38 => ?_)
        · have hf := fm_ip c38 hf
          obtain ⟨x43, ex43⟩ : ∃ y : Int32, y = a1 + 1 := ⟨_, rfl⟩
          have hf := fm_let_at ex43 hf
          refine lv_iinc (v := x43) (lv' := [(1, .int x43), (0, .ref (ad r0))]) hx hb d_X12_looked_43 hl (k := 1) rfl (by rw [ex43]; rfl) (by decide) rfl (fun ls hl => ?_)
          refine lv_goto (tgt := 2) hx hb d_X12_looked_46 (by decide) ?_
          exact ih r0 x43 _ _ _ F (lv_sub hl [1, 0] rfl) hf
        · have hf := fm_ig c38 hf
          refine lv_iload_n hx hb d_X12_looked_41 rfl (lv_at hl 1 rfl) ?_
          rw [← hQ]; exact fm_reti Z hr hlk F d_X12_looked_42 (Option.some.inj hf) rfl
  unfold m_X12_looked at hf
  refine lv_iconst (v := 0) hx hb d_X12_looked_0 (by decide) ?_
  refine lv_topi (fun x1 ex1 => ?_)
  have hf := fm_let_at ex1 hf
  refine lv_istore_n (lv' := [(1, .int x1), (0, .ref (ad r0))]) hx hb d_X12_looked_1 rfl hl (by decide) rfl (fun ls hl => ?_)
  exact (hL fm_LF) r0 x1 _ _ _ F (lv_sub hl [1, 0] rfl) hf
theorem d_X12_ranBody_0 : decode prog_14_method_70_code 0 = .ok (.aload_n 0, 1) := by decide +kernel
theorem d_X12_ranBody_1 : decode prog_14_method_70_code 1 = .ok (.getfield 223, 3) := by decide +kernel
theorem d_X12_ranBody_4 : decode prog_14_method_70_code 4 = .ok (.bipush 20, 2) := by decide +kernel
theorem d_X12_ranBody_6 : decode prog_14_method_70_code 6 = .ok (.if_icmp .ge 13, 3) := by decide +kernel
theorem d_X12_ranBody_9 : decode prog_14_method_70_code 9 = .ok (.aload_n 0, 1) := by decide +kernel
theorem d_X12_ranBody_10 : decode prog_14_method_70_code 10 = .ok (.getfield 37, 3) := by decide +kernel
theorem d_X12_ranBody_13 : decode prog_14_method_70_code 13 = .ok (.aload_n 0, 1) := by decide +kernel
theorem d_X12_ranBody_14 : decode prog_14_method_70_code 14 = .ok (.getfield 223, 3) := by decide +kernel
theorem d_X12_ranBody_17 : decode prog_14_method_70_code 17 = .ok (.iload_n 1, 1) := by decide +kernel
theorem d_X12_ranBody_18 : decode prog_14_method_70_code 18 = .ok (.iastore, 1) := by decide +kernel
theorem d_X12_ranBody_19 : decode prog_14_method_70_code 19 = .ok (.aload_n 0, 1) := by decide +kernel
theorem d_X12_ranBody_20 : decode prog_14_method_70_code 20 = .ok (.dup, 1) := by decide +kernel
theorem d_X12_ranBody_21 : decode prog_14_method_70_code 21 = .ok (.getfield 223, 3) := by decide +kernel
theorem d_X12_ranBody_24 : decode prog_14_method_70_code 24 = .ok (.iconst 1, 1) := by decide +kernel
theorem d_X12_ranBody_25 : decode prog_14_method_70_code 25 = .ok (.iadd, 1) := by decide +kernel
theorem d_X12_ranBody_26 : decode prog_14_method_70_code 26 = .ok (.putfield 223, 3) := by decide +kernel
theorem d_X12_ranBody_29 : decode prog_14_method_70_code 29 = .ok (.return_, 1) := by decide +kernel
def m_X12_ranBody (kap lam : Nat → Nat) (r0 : Nat) (a1 : Int32) (S : fm_M) : Option fm_M :=
  fm_gi kap 12 r0 17 S fun x1 =>
  if 20 ≤ x1 then (
   fm_gi kap 12 r0 17 S fun x21 =>
   fm_pi kap 12 r0 17 S (x21 + 1) fun S26 =>
   some S26
  ) else (
   fm_gr kap 12 r0 16 S fun q10 =>
   fm_gi kap 12 r0 17 S fun x14 =>
   fm_st kap lam q10 x14 a1 S fun S18 =>
   fm_gi kap 12 r0 17 S18 fun x21 =>
   fm_pi kap 12 r0 17 S18 (x21 + 1) fun S26 =>
   some S26
  )
set_option maxHeartbeats 4000000 in
set_option maxRecDepth 100000 in
theorem c_X12_ranBody {l : Launch} {D : va_G} {ids kap lam : Nat → Nat} {RL : List Nat} {ad sk sv : Nat → Nat} {S : fm_M} {r0 : Nat} {a1 : Int32} {u : fm_M} (hE : fm_E kap RL ad) (hf : m_X12_ranBody kap lam r0 a1 S = some u) (sz : Nat) : fm_MV l y_X12_ranBody prog_14_method_70_code 2 (Option.none : Option Jvm.ClassFile.FieldType) 0 D ids kap lam RL ad sk sv S [.ref (ad r0), .int a1] sz u := by
  refine fm_open rfl hE (Nat.le_of_ble_eq_true rfl) (fun p e s m args below meth c ls Z hr hlk G F N hl hsz => ?_)
  subst hsz
  obtain ⟨hx, hb, hml, hown, hts⟩ := id Z
  have hl : lv_has ls 2 [(0, .ref (ad r0)), (1, .int a1)] := hl
  unfold m_X12_ranBody at hf
  refine lv_aload_n hx hb d_X12_ranBody_0 rfl (lv_at hl 0 rfl) ?_
  refine fm_rgi Z G F hf fr_X12_223 d_X12_ranBody_1 (fun x1 _ hf => ?_)
  refine lv_bipush (v := 20) hx hb d_X12_ranBody_4 (by decide) ?_
  refine lv_icmp_ge (tgt := 19) hx hb d_X12_ranBody_6 (by decide) (fun c6 => ?_) (fun c6 => ?_)
  · have hf := fm_ip c6 hf
    refine lv_aload_n hx hb d_X12_ranBody_19 rfl (lv_at hl 0 rfl) ?_
    refine lv_dup hx hb d_X12_ranBody_20 rfl ?_
    refine fm_rgi Z G F hf fr_X12_223 d_X12_ranBody_21 (fun x21 _ hf => ?_)
    refine lv_iconst (v := 1) hx hb d_X12_ranBody_24 (by decide) ?_
    refine lv_iadd hx hb d_X12_ranBody_25 ?_
    refine fm_rpi Z G F hf fs_X12_223 d_X12_ranBody_26 (fun c h => by have h := eq_of_beq (show (c == 12) = true from h); subst h; rfl) (fun S26 H locs _ F hf => ?_)
    exact fm_retv Z hr hlk F d_X12_ranBody_29 (Option.some.inj hf)
  · have hf := fm_ig c6 hf
    refine lv_aload_n hx hb d_X12_ranBody_9 rfl (lv_at hl 0 rfl) ?_
    refine fm_rgr Z G F hf fr_X12_37 d_X12_ranBody_10 (fun q10 _ hf => ?_)
    refine lv_aload_n hx hb d_X12_ranBody_13 rfl (lv_at hl 0 rfl) ?_
    refine fm_rgi Z G F hf fr_X12_223 d_X12_ranBody_14 (fun x14 _ hf => ?_)
    refine lv_iload_n hx hb d_X12_ranBody_17 rfl (lv_at hl 1 rfl) ?_
    refine fm_rst Z G F hf d_X12_ranBody_18 (fun S18 H locs _ F hf => ?_)
    refine lv_aload_n hx hb d_X12_ranBody_19 rfl (lv_at hl 0 rfl) ?_
    refine lv_dup hx hb d_X12_ranBody_20 rfl ?_
    refine fm_rgi Z G F hf fr_X12_223 d_X12_ranBody_21 (fun x21 _ hf => ?_)
    refine lv_iconst (v := 1) hx hb d_X12_ranBody_24 (by decide) ?_
    refine lv_iadd hx hb d_X12_ranBody_25 ?_
    refine fm_rpi Z G F hf fs_X12_223 d_X12_ranBody_26 (fun c h => by have h := eq_of_beq (show (c == 12) = true from h); subst h; rfl) (fun S26 H locs _ F hf => ?_)
    exact fm_retv Z hr hlk F d_X12_ranBody_29 (Option.some.inj hf)
theorem d_X12_isUnder_0 : decode prog_14_method_71_code 0 = .ok (.iload_n 1, 1) := by decide +kernel
theorem d_X12_isUnder_1 : decode prog_14_method_71_code 1 = .ok (.ifCond .eq 24, 3) := by decide +kernel
theorem d_X12_isUnder_4 : decode prog_14_method_71_code 4 = .ok (.iload_n 1, 1) := by decide +kernel
theorem d_X12_isUnder_5 : decode prog_14_method_71_code 5 = .ok (.iload_n 0, 1) := by decide +kernel
theorem d_X12_isUnder_6 : decode prog_14_method_71_code 6 = .ok (.if_icmp .eq 19, 3) := by decide +kernel
theorem d_X12_isUnder_9 : decode prog_14_method_71_code 9 = .ok (.iload_n 1, 1) := by decide +kernel
theorem d_X12_isUnder_10 : decode prog_14_method_71_code 10 = .ok (.ifCond .le 19, 3) := by decide +kernel
theorem d_X12_isUnder_13 : decode prog_14_method_71_code 13 = .ok (.iload_n 1, 1) := by decide +kernel
theorem d_X12_isUnder_14 : decode prog_14_method_71_code 14 = .ok (.iconst 4, 1) := by decide +kernel
theorem d_X12_isUnder_15 : decode prog_14_method_71_code 15 = .ok (.if_icmp .ge 14, 3) := by decide +kernel
theorem d_X12_isUnder_18 : decode prog_14_method_71_code 18 = .ok (.iload_n 0, 1) := by decide +kernel
theorem d_X12_isUnder_19 : decode prog_14_method_71_code 19 = .ok (.iload_n 1, 1) := by decide +kernel
theorem d_X12_isUnder_20 : decode prog_14_method_71_code 20 = .ok (.iconst 3, 1) := by decide +kernel
theorem d_X12_isUnder_21 : decode prog_14_method_71_code 21 = .ok (.iadd, 1) := by decide +kernel
theorem d_X12_isUnder_22 : decode prog_14_method_71_code 22 = .ok (.if_icmp .ne 7, 3) := by decide +kernel
theorem d_X12_isUnder_25 : decode prog_14_method_71_code 25 = .ok (.iconst 1, 1) := by decide +kernel
theorem d_X12_isUnder_26 : decode prog_14_method_71_code 26 = .ok (.goto 4, 3) := by decide +kernel
theorem d_X12_isUnder_29 : decode prog_14_method_71_code 29 = .ok (.iconst 0, 1) := by decide +kernel
theorem d_X12_isUnder_30 : decode prog_14_method_71_code 30 = .ok (.ireturn, 1) := by decide +kernel
def m_X12_isUnder (kap lam : Nat → Nat) (a0 : Int32) (a1 : Int32) (S : fm_M) : Option Int32 :=
  if a1 = 0 then (
   fm_z 1 (some 1)
  ) else (
   if a1 = a0 then (
    fm_z 1 (some 1)
   ) else (
    if a1 ≤ 0 then (
     fm_z 0 (some 0)
    ) else (
     if 4 ≤ a1 then (
      fm_z 0 (some 0)
     ) else (
      if a0 = (a1 + 3) then (
       fm_z 1 (some 1)
      ) else (
       fm_z 0 (some 0)
      )
     )
    )
   )
  )
set_option maxHeartbeats 4000000 in
set_option maxRecDepth 100000 in
theorem c_X12_isUnder {l : Launch} {D : va_G} {ids kap lam : Nat → Nat} {RL : List Nat} {ad sk sv : Nat → Nat} {S : fm_M} {a0 : Int32} {a1 : Int32} {r : Int32} (hE : fm_E kap RL ad) (hf : m_X12_isUnder kap lam a0 a1 S = some r) (sz : Nat) : fm_MI l y_X12_isUnder prog_14_method_71_code 2 (Option.some Jvm.ClassFile.FieldType.boolean) 0 D ids kap lam RL ad sk sv S [.int a0, .int a1] sz r S := by
  refine fm_open rfl hE (Nat.le_of_ble_eq_true rfl) (fun p e s m args below meth c ls Z hr hlk G F N hl hsz => ?_)
  subst hsz
  obtain ⟨hx, hb, hml, hown, hts⟩ := id Z
  have hl : lv_has ls 2 [(0, .int a0), (1, .int a1)] := hl
  unfold m_X12_isUnder at hf
  refine lv_iload_n hx hb d_X12_isUnder_0 rfl (lv_at hl 1 rfl) ?_
  refine lv_if_eq (tgt := 25) hx hb d_X12_isUnder_1 (by decide) (fun c1 => ?_) (fun c1 => ?_)
  · have hf := fm_ip c1 hf
    refine lv_iconst (v := 1) hx hb d_X12_isUnder_25 (by decide) ?_
    refine lv_goto (tgt := 30) hx hb d_X12_isUnder_26 (by decide) ?_
    obtain ⟨hz, hf⟩ := fm_some hf
    exact fm_retz Z hr hlk F d_X12_isUnder_30 hz (Option.some.inj hf) rfl
  · have hf := fm_ig c1 hf
    refine lv_iload_n hx hb d_X12_isUnder_4 rfl (lv_at hl 1 rfl) ?_
    refine lv_iload_n hx hb d_X12_isUnder_5 rfl (lv_at hl 0 rfl) ?_
    refine lv_icmp_eq (tgt := 25) hx hb d_X12_isUnder_6 (by decide) (fun c6 => ?_) (fun c6 => ?_)
    · have hf := fm_ip c6 hf
      refine lv_iconst (v := 1) hx hb d_X12_isUnder_25 (by decide) ?_
      refine lv_goto (tgt := 30) hx hb d_X12_isUnder_26 (by decide) ?_
      obtain ⟨hz, hf⟩ := fm_some hf
      exact fm_retz Z hr hlk F d_X12_isUnder_30 hz (Option.some.inj hf) rfl
    · have hf := fm_ig c6 hf
      refine lv_iload_n hx hb d_X12_isUnder_9 rfl (lv_at hl 1 rfl) ?_
      refine lv_if_le (tgt := 29) hx hb d_X12_isUnder_10 (by decide) (fun c10 => ?_) (fun c10 => ?_)
      · have hf := fm_ip c10 hf
        refine lv_iconst (v := 0) hx hb d_X12_isUnder_29 (by decide) ?_
        obtain ⟨hz, hf⟩ := fm_some hf
        exact fm_retz Z hr hlk F d_X12_isUnder_30 hz (Option.some.inj hf) rfl
      · have hf := fm_ig c10 hf
        refine lv_iload_n hx hb d_X12_isUnder_13 rfl (lv_at hl 1 rfl) ?_
        refine lv_iconst (v := 4) hx hb d_X12_isUnder_14 (by decide) ?_
        refine lv_icmp_ge (tgt := 29) hx hb d_X12_isUnder_15 (by decide) (fun c15 => ?_) (fun c15 => ?_)
        · have hf := fm_ip c15 hf
          refine lv_iconst (v := 0) hx hb d_X12_isUnder_29 (by decide) ?_
          obtain ⟨hz, hf⟩ := fm_some hf
          exact fm_retz Z hr hlk F d_X12_isUnder_30 hz (Option.some.inj hf) rfl
        · have hf := fm_ig c15 hf
          refine lv_iload_n hx hb d_X12_isUnder_18 rfl (lv_at hl 0 rfl) ?_
          refine lv_iload_n hx hb d_X12_isUnder_19 rfl (lv_at hl 1 rfl) ?_
          refine lv_iconst (v := 3) hx hb d_X12_isUnder_20 (by decide) ?_
          refine lv_iadd hx hb d_X12_isUnder_21 ?_
          refine lv_icmp_ne (tgt := 29) hx hb d_X12_isUnder_22 (by decide) (fun c22 => ?_) (fun c22 => ?_)
          · have hf := fm_ig c22 hf
            refine lv_iconst (v := 0) hx hb d_X12_isUnder_29 (by decide) ?_
            obtain ⟨hz, hf⟩ := fm_some hf
            exact fm_retz Z hr hlk F d_X12_isUnder_30 hz (Option.some.inj hf) rfl
          · have hf := fm_ip c22 hf
            refine lv_iconst (v := 1) hx hb d_X12_isUnder_25 (by decide) ?_
            refine lv_goto (tgt := 30) hx hb d_X12_isUnder_26 (by decide) ?_
            obtain ⟨hz, hf⟩ := fm_some hf
            exact fm_retz Z hr hlk F d_X12_isUnder_30 hz (Option.some.inj hf) rfl
theorem d_X12_plainDrips_0 : decode prog_14_method_72_code 0 = .ok (.aload_n 0, 1) := by decide +kernel
theorem d_X12_plainDrips_1 : decode prog_14_method_72_code 1 = .ok (.iconst 1, 1) := by decide +kernel
theorem d_X12_plainDrips_2 : decode prog_14_method_72_code 2 = .ok (.invokevirtual 226, 3) := by decide +kernel
theorem d_X12_plainDrips_5 : decode prog_14_method_72_code 5 = .ok (.iload_n 1, 1) := by decide +kernel
theorem d_X12_plainDrips_6 : decode prog_14_method_72_code 6 = .ok (.aload_n 0, 1) := by decide +kernel
theorem d_X12_plainDrips_7 : decode prog_14_method_72_code 7 = .ok (.getfield 229, 3) := by decide +kernel
theorem d_X12_plainDrips_10 : decode prog_14_method_72_code 10 = .ok (.iadd, 1) := by decide +kernel
theorem d_X12_plainDrips_11 : decode prog_14_method_72_code 11 = .ok (.ireturn, 1) := by decide +kernel
def m_X12_plainDrips (kap lam : Nat → Nat) (r0 : Nat) (a1 : Int32) (S : fm_M) : Option (Int32 × fm_M) :=
  fm_ck (kap r0 == 12) <|
  fm_b1 (m_X12_ranBody kap lam r0 1 S) fun S2 =>
  fm_gi kap 12 r0 19 S2 fun x7 =>
  some (a1 + x7, S2)
set_option maxHeartbeats 4000000 in
set_option maxRecDepth 100000 in
theorem c_X12_plainDrips {l : Launch} {D : va_G} {ids kap lam : Nat → Nat} {RL : List Nat} {ad sk sv : Nat → Nat} {S : fm_M} {r0 : Nat} {a1 : Int32} {r : Int32} {u : fm_M} (hE : fm_E kap RL ad) (hf : m_X12_plainDrips kap lam r0 a1 S = some (r, u)) (sz : Nat) : fm_MI l y_X12_plainDrips prog_14_method_72_code 2 (Option.some Jvm.ClassFile.FieldType.int) 1 D ids kap lam RL ad sk sv S [.ref (ad r0), .int a1] sz r u := by
  refine fm_open rfl hE (Nat.le_of_ble_eq_true rfl) (fun p e s m args below meth c ls Z hr hlk G F N hl hsz => ?_)
  subst hsz
  obtain ⟨hx, hb, hml, hown, hts⟩ := id Z
  have hl : lv_has ls 2 [(0, .ref (ad r0)), (1, .int a1)] := hl
  unfold m_X12_plainDrips at hf
  refine lv_aload_n hx hb d_X12_plainDrips_0 rfl (lv_at hl 0 rfl) ?_
  refine lv_iconst (v := 1) hx hb d_X12_plainDrips_1 (by decide) ?_
  obtain ⟨hk2, hf⟩ := fm_some hf
  refine fm_rcv G F hf (fun u ho => fm_runV (k := 1) Z G F N (As := [.int 1]) (rest := []) (c_X12_ranBody hE ho _) (by rw [eq_of_beq hk2]; decide) (by rw [eq_of_beq hk2]; rfl) kw_1288 kw_1290 kp_63 kw_6 kw_1291 yd_X12_ranBody rfl (by decide) (by decide) hl.1 (Nat.le_of_ble_eq_true rfl) d_X12_plainDrips_2 (Nat.le_refl 0) (Nat.le_refl 0)) (fun S2 H locs _ F hf => ?_)
  refine lv_iload_n hx hb d_X12_plainDrips_5 rfl (lv_at hl 1 rfl) ?_
  refine lv_aload_n hx hb d_X12_plainDrips_6 rfl (lv_at hl 0 rfl) ?_
  refine fm_rgi Z G F hf fr_X12_229 d_X12_plainDrips_7 (fun x7 _ hf => ?_)
  refine lv_iadd hx hb d_X12_plainDrips_10 ?_
  exact fm_reti Z hr hlk F d_X12_plainDrips_11 (Prod.mk.inj (Option.some.inj hf)).1 (Prod.mk.inj (Option.some.inj hf)).2
theorem d_X12_dripsActs_0 : decode prog_14_method_73_code 0 = .ok (.aload_n 0, 1) := by decide +kernel
theorem d_X12_dripsActs_1 : decode prog_14_method_73_code 1 = .ok (.getfield 232, 3) := by decide +kernel
theorem d_X12_dripsActs_4 : decode prog_14_method_73_code 4 = .ok (.iconst 1, 1) := by decide +kernel
theorem d_X12_dripsActs_5 : decode prog_14_method_73_code 5 = .ok (.invokestatic 235, 3) := by decide +kernel
theorem d_X12_dripsActs_8 : decode prog_14_method_73_code 8 = .ok (.ifCond .eq 17, 3) := by decide +kernel
theorem d_X12_dripsActs_11 : decode prog_14_method_73_code 11 = .ok (.aload_n 0, 1) := by decide +kernel
theorem d_X12_dripsActs_12 : decode prog_14_method_73_code 12 = .ok (.bipush 11, 2) := by decide +kernel
theorem d_X12_dripsActs_14 : decode prog_14_method_73_code 14 = .ok (.invokevirtual 226, 3) := by decide +kernel
theorem d_X12_dripsActs_17 : decode prog_14_method_73_code 17 = .ok (.aload_n 0, 1) := by decide +kernel
theorem d_X12_dripsActs_18 : decode prog_14_method_73_code 18 = .ok (.iload_n 1, 1) := by decide +kernel
theorem d_X12_dripsActs_19 : decode prog_14_method_73_code 19 = .ok (.iconst 3, 1) := by decide +kernel
theorem d_X12_dripsActs_20 : decode prog_14_method_73_code 20 = .ok (.imul, 1) := by decide +kernel
theorem d_X12_dripsActs_21 : decode prog_14_method_73_code 21 = .ok (.invokevirtual 238, 3) := by decide +kernel
theorem d_X12_dripsActs_24 : decode prog_14_method_73_code 24 = .ok (.ireturn, 1) := by decide +kernel
theorem d_X12_dripsActs_25 : decode prog_14_method_73_code 25 = .ok (.aload_n 0, 1) := by decide +kernel
theorem d_X12_dripsActs_26 : decode prog_14_method_73_code 26 = .ok (.getfield 232, 3) := by decide +kernel
theorem d_X12_dripsActs_29 : decode prog_14_method_73_code 29 = .ok (.iconst 5, 1) := by decide +kernel
theorem d_X12_dripsActs_30 : decode prog_14_method_73_code 30 = .ok (.if_icmp .ne 20, 3) := by decide +kernel
theorem d_X12_dripsActs_33 : decode prog_14_method_73_code 33 = .ok (.aload_n 0, 1) := by decide +kernel
theorem d_X12_dripsActs_34 : decode prog_14_method_73_code 34 = .ok (.bipush 51, 2) := by decide +kernel
theorem d_X12_dripsActs_36 : decode prog_14_method_73_code 36 = .ok (.invokevirtual 226, 3) := by decide +kernel
theorem d_X12_dripsActs_39 : decode prog_14_method_73_code 39 = .ok (.aload_n 0, 1) := by decide +kernel
theorem d_X12_dripsActs_40 : decode prog_14_method_73_code 40 = .ok (.iload_n 1, 1) := by decide +kernel
theorem d_X12_dripsActs_41 : decode prog_14_method_73_code 41 = .ok (.invokevirtual 238, 3) := by decide +kernel
theorem d_X12_dripsActs_44 : decode prog_14_method_73_code 44 = .ok (.aload_n 0, 1) := by decide +kernel
theorem d_X12_dripsActs_45 : decode prog_14_method_73_code 45 = .ok (.getfield 229, 3) := by decide +kernel
theorem d_X12_dripsActs_48 : decode prog_14_method_73_code 48 = .ok (.ixor, 1) := by decide +kernel
theorem d_X12_dripsActs_49 : decode prog_14_method_73_code 49 = .ok (.ireturn, 1) := by decide +kernel
theorem d_X12_dripsActs_50 : decode prog_14_method_73_code 50 = .ok (.aload_n 0, 1) := by decide +kernel
theorem d_X12_dripsActs_51 : decode prog_14_method_73_code 51 = .ok (.iload_n 1, 1) := by decide +kernel
theorem d_X12_dripsActs_52 : decode prog_14_method_73_code 52 = .ok (.invokevirtual 238, 3) := by decide +kernel
theorem d_X12_dripsActs_55 : decode prog_14_method_73_code 55 = .ok (.ireturn, 1) := by decide +kernel
def m_X12_dripsActs (kap lam : Nat → Nat) (r0 : Nat) (a1 : Int32) (S : fm_M) : Option (Int32 × fm_M) :=
  fm_gi kap 12 r0 18 S fun x1 =>
  fm_b1 (m_X12_isUnder kap lam x1 1 S) fun x5 =>
  if x5 = 0 then (
   fm_gi kap 12 r0 18 S fun x26 =>
   if x26 = 5 then (
    fm_ck (kap r0 == 12) <|
    fm_b1 (m_X12_ranBody kap lam r0 51 S) fun S36 =>
    fm_ck (kap r0 == 12) <|
    fm_bi (m_X12_plainDrips kap lam r0 a1 S36) fun x41 S41 =>
    fm_gi kap 12 r0 19 S41 fun x45 =>
    some (x41 ^^^ x45, S41)
   ) else (
    fm_ck (kap r0 == 12) <|
    fm_bi (m_X12_plainDrips kap lam r0 a1 S) fun x52 S52 =>
    some (x52, S52)
   )
  ) else (
   fm_ck (kap r0 == 12) <|
   fm_b1 (m_X12_ranBody kap lam r0 11 S) fun S14 =>
   fm_ck (kap r0 == 12) <|
   fm_bi (m_X12_plainDrips kap lam r0 (a1 * 3) S14) fun x21 S21 =>
   some (x21, S21)
  )
set_option maxHeartbeats 4000000 in
set_option maxRecDepth 100000 in
theorem c_X12_dripsActs {l : Launch} {D : va_G} {ids kap lam : Nat → Nat} {RL : List Nat} {ad sk sv : Nat → Nat} {S : fm_M} {r0 : Nat} {a1 : Int32} {r : Int32} {u : fm_M} (hE : fm_E kap RL ad) (hf : m_X12_dripsActs kap lam r0 a1 S = some (r, u)) (sz : Nat) : fm_MI l y_X12_dripsActs prog_14_method_73_code 2 (Option.some Jvm.ClassFile.FieldType.int) 2 D ids kap lam RL ad sk sv S [.ref (ad r0), .int a1] sz r u := by
  refine fm_open rfl hE (Nat.le_of_ble_eq_true rfl) (fun p e s m args below meth c ls Z hr hlk G F N hl hsz => ?_)
  subst hsz
  obtain ⟨hx, hb, hml, hown, hts⟩ := id Z
  have hl : lv_has ls 2 [(0, .ref (ad r0)), (1, .int a1)] := hl
  unfold m_X12_dripsActs at hf
  refine lv_aload_n hx hb d_X12_dripsActs_0 rfl (lv_at hl 0 rfl) ?_
  refine fm_rgi Z G F hf fr_X12_232 d_X12_dripsActs_1 (fun x1 _ hf => ?_)
  refine lv_iconst (v := 1) hx hb d_X12_dripsActs_4 (by decide) ?_
  refine fm_rcr G F hf (fun r ho => fm_runS (k := 2) Z G F N (As := [.int x1, .int 1]) (rest := []) (c_X12_isUnder hE ho _) kw_1285 kw_1286 kw_6 kw_1287 yd_X12_isUnder rfl (by decide) (by decide) hl.1 (Nat.le_of_ble_eq_true rfl) d_X12_dripsActs_5 (Nat.le_refl 0) (Nat.le_refl 0)) (fun x5 H locs _ F hf => ?_)
  refine lv_if_eq (tgt := 25) hx hb d_X12_dripsActs_8 (by decide) (fun c8 => ?_) (fun c8 => ?_)
  · have hf := fm_ip c8 hf
    refine lv_aload_n hx hb d_X12_dripsActs_25 rfl (lv_at hl 0 rfl) ?_
    refine fm_rgi Z G F hf fr_X12_232 d_X12_dripsActs_26 (fun x26 _ hf => ?_)
    refine lv_iconst (v := 5) hx hb d_X12_dripsActs_29 (by decide) ?_
    refine lv_icmp_ne (tgt := 50) hx hb d_X12_dripsActs_30 (by decide) (fun c30 => ?_) (fun c30 => ?_)
    · have hf := fm_ig c30 hf
      refine lv_aload_n hx hb d_X12_dripsActs_50 rfl (lv_at hl 0 rfl) ?_
      refine lv_iload_n hx hb d_X12_dripsActs_51 rfl (lv_at hl 1 rfl) ?_
      obtain ⟨hk52, hf⟩ := fm_some hf
      refine fm_rci G F hf (fun r u ho => fm_runV (k := 1) Z G F N (As := [.int a1]) (rest := []) (c_X12_plainDrips hE ho _) (by rw [eq_of_beq hk52]; decide) (by rw [eq_of_beq hk52]; rfl) kw_1292 kw_1294 kp_64 kw_6 kw_1295 yd_X12_plainDrips rfl (by decide) (by decide) hl.1 (Nat.le_of_ble_eq_true rfl) d_X12_dripsActs_52 (Nat.le_refl 0) (Nat.le_refl 0)) (fun x52 S52 H locs _ F hf => ?_)
      exact fm_reti Z hr hlk F d_X12_dripsActs_55 (Prod.mk.inj (Option.some.inj hf)).1 (Prod.mk.inj (Option.some.inj hf)).2
    · have hf := fm_ip c30 hf
      refine lv_aload_n hx hb d_X12_dripsActs_33 rfl (lv_at hl 0 rfl) ?_
      refine lv_bipush (v := 51) hx hb d_X12_dripsActs_34 (by decide) ?_
      obtain ⟨hk36, hf⟩ := fm_some hf
      refine fm_rcv G F hf (fun u ho => fm_runV (k := 1) Z G F N (As := [.int 51]) (rest := []) (c_X12_ranBody hE ho _) (by rw [eq_of_beq hk36]; decide) (by rw [eq_of_beq hk36]; rfl) kw_1288 kw_1290 kp_63 kw_6 kw_1291 yd_X12_ranBody rfl (by decide) (by decide) hl.1 (Nat.le_of_ble_eq_true rfl) d_X12_dripsActs_36 (Nat.le_refl 0) (Nat.le_refl 0)) (fun S36 H locs _ F hf => ?_)
      refine lv_aload_n hx hb d_X12_dripsActs_39 rfl (lv_at hl 0 rfl) ?_
      refine lv_iload_n hx hb d_X12_dripsActs_40 rfl (lv_at hl 1 rfl) ?_
      obtain ⟨hk41, hf⟩ := fm_some hf
      refine fm_rci G F hf (fun r u ho => fm_runV (k := 1) Z G F N (As := [.int a1]) (rest := []) (c_X12_plainDrips hE ho _) (by rw [eq_of_beq hk41]; decide) (by rw [eq_of_beq hk41]; rfl) kw_1292 kw_1294 kp_64 kw_6 kw_1295 yd_X12_plainDrips rfl (by decide) (by decide) hl.1 (Nat.le_of_ble_eq_true rfl) d_X12_dripsActs_41 (Nat.le_refl 0) (Nat.le_refl 0)) (fun x41 S41 H locs _ F hf => ?_)
      refine lv_aload_n hx hb d_X12_dripsActs_44 rfl (lv_at hl 0 rfl) ?_
      refine fm_rgi Z G F hf fr_X12_229 d_X12_dripsActs_45 (fun x45 _ hf => ?_)
      refine lv_ixor hx hb d_X12_dripsActs_48 ?_
      exact fm_reti Z hr hlk F d_X12_dripsActs_49 (Prod.mk.inj (Option.some.inj hf)).1 (Prod.mk.inj (Option.some.inj hf)).2
  · have hf := fm_ig c8 hf
    refine lv_aload_n hx hb d_X12_dripsActs_11 rfl (lv_at hl 0 rfl) ?_
    refine lv_bipush (v := 11) hx hb d_X12_dripsActs_12 (by decide) ?_
    obtain ⟨hk14, hf⟩ := fm_some hf
    refine fm_rcv G F hf (fun u ho => fm_runV (k := 1) Z G F N (As := [.int 11]) (rest := []) (c_X12_ranBody hE ho _) (by rw [eq_of_beq hk14]; decide) (by rw [eq_of_beq hk14]; rfl) kw_1288 kw_1290 kp_63 kw_6 kw_1291 yd_X12_ranBody rfl (by decide) (by decide) hl.1 (Nat.le_of_ble_eq_true rfl) d_X12_dripsActs_14 (Nat.le_refl 0) (Nat.le_refl 0)) (fun S14 H locs _ F hf => ?_)
    refine lv_aload_n hx hb d_X12_dripsActs_17 rfl (lv_at hl 0 rfl) ?_
    refine lv_iload_n hx hb d_X12_dripsActs_18 rfl (lv_at hl 1 rfl) ?_
    refine lv_iconst (v := 3) hx hb d_X12_dripsActs_19 (by decide) ?_
    refine lv_imul hx hb d_X12_dripsActs_20 ?_
    obtain ⟨hk21, hf⟩ := fm_some hf
    refine fm_rci G F hf (fun r u ho => fm_runV (k := 1) Z G F N (As := [.int (a1 * 3)]) (rest := []) (c_X12_plainDrips hE ho _) (by rw [eq_of_beq hk21]; decide) (by rw [eq_of_beq hk21]; rfl) kw_1292 kw_1294 kp_64 kw_6 kw_1295 yd_X12_plainDrips rfl (by decide) (by decide) hl.1 (Nat.le_of_ble_eq_true rfl) d_X12_dripsActs_21 (Nat.le_refl 0) (Nat.le_refl 0)) (fun x21 S21 H locs _ F hf => ?_)
    exact fm_reti Z hr hlk F d_X12_dripsActs_24 (Prod.mk.inj (Option.some.inj hf)).1 (Prod.mk.inj (Option.some.inj hf)).2
theorem d_X12_plainCreaks_0 : decode prog_14_method_74_code 0 = .ok (.aload_n 0, 1) := by decide +kernel
theorem d_X12_plainCreaks_1 : decode prog_14_method_74_code 1 = .ok (.iconst 2, 1) := by decide +kernel
theorem d_X12_plainCreaks_2 : decode prog_14_method_74_code 2 = .ok (.invokevirtual 226, 3) := by decide +kernel
theorem d_X12_plainCreaks_5 : decode prog_14_method_74_code 5 = .ok (.aload_n 0, 1) := by decide +kernel
theorem d_X12_plainCreaks_6 : decode prog_14_method_74_code 6 = .ok (.iload_n 1, 1) := by decide +kernel
theorem d_X12_plainCreaks_7 : decode prog_14_method_74_code 7 = .ok (.invokevirtual 241, 3) := by decide +kernel
theorem d_X12_plainCreaks_10 : decode prog_14_method_74_code 10 = .ok (.aload_n 0, 1) := by decide +kernel
theorem d_X12_plainCreaks_11 : decode prog_14_method_74_code 11 = .ok (.getfield 244, 3) := by decide +kernel
theorem d_X12_plainCreaks_14 : decode prog_14_method_74_code 14 = .ok (.isub, 1) := by decide +kernel
theorem d_X12_plainCreaks_15 : decode prog_14_method_74_code 15 = .ok (.ireturn, 1) := by decide +kernel
def m_X12_plainCreaks (kap lam : Nat → Nat) (r0 : Nat) (a1 : Int32) (S : fm_M) : Option (Int32 × fm_M) :=
  fm_ck (kap r0 == 12) <|
  fm_b1 (m_X12_ranBody kap lam r0 2 S) fun S2 =>
  fm_ck (kap r0 == 12) <|
  fm_bi (m_X12_dripsActs kap lam r0 a1 S2) fun x7 S7 =>
  fm_gi kap 12 r0 20 S7 fun x11 =>
  some (x7 - x11, S7)
set_option maxHeartbeats 4000000 in
set_option maxRecDepth 100000 in
theorem c_X12_plainCreaks {l : Launch} {D : va_G} {ids kap lam : Nat → Nat} {RL : List Nat} {ad sk sv : Nat → Nat} {S : fm_M} {r0 : Nat} {a1 : Int32} {r : Int32} {u : fm_M} (hE : fm_E kap RL ad) (hf : m_X12_plainCreaks kap lam r0 a1 S = some (r, u)) (sz : Nat) : fm_MI l y_X12_plainCreaks prog_14_method_74_code 2 (Option.some Jvm.ClassFile.FieldType.int) 3 D ids kap lam RL ad sk sv S [.ref (ad r0), .int a1] sz r u := by
  refine fm_open rfl hE (Nat.le_of_ble_eq_true rfl) (fun p e s m args below meth c ls Z hr hlk G F N hl hsz => ?_)
  subst hsz
  obtain ⟨hx, hb, hml, hown, hts⟩ := id Z
  have hl : lv_has ls 2 [(0, .ref (ad r0)), (1, .int a1)] := hl
  unfold m_X12_plainCreaks at hf
  refine lv_aload_n hx hb d_X12_plainCreaks_0 rfl (lv_at hl 0 rfl) ?_
  refine lv_iconst (v := 2) hx hb d_X12_plainCreaks_1 (by decide) ?_
  obtain ⟨hk2, hf⟩ := fm_some hf
  refine fm_rcv G F hf (fun u ho => fm_runV (k := 1) Z G F N (As := [.int 2]) (rest := []) (c_X12_ranBody hE ho _) (by rw [eq_of_beq hk2]; decide) (by rw [eq_of_beq hk2]; rfl) kw_1288 kw_1290 kp_63 kw_6 kw_1291 yd_X12_ranBody rfl (by decide) (by decide) hl.1 (Nat.le_of_ble_eq_true rfl) d_X12_plainCreaks_2 (Nat.le_refl 0) (Nat.le_refl 0)) (fun S2 H locs _ F hf => ?_)
  refine lv_aload_n hx hb d_X12_plainCreaks_5 rfl (lv_at hl 0 rfl) ?_
  refine lv_iload_n hx hb d_X12_plainCreaks_6 rfl (lv_at hl 1 rfl) ?_
  obtain ⟨hk7, hf⟩ := fm_some hf
  refine fm_rci G F hf (fun r u ho => fm_runV (k := 1) Z G F N (As := [.int a1]) (rest := []) (c_X12_dripsActs hE ho _) (by rw [eq_of_beq hk7]; decide) (by rw [eq_of_beq hk7]; rfl) kw_1281 kw_1283 kp_62 kw_6 kw_1284 yd_X12_dripsActs rfl (by decide) (by decide) hl.1 (Nat.le_of_ble_eq_true rfl) d_X12_plainCreaks_7 (Nat.le_refl 0) (Nat.le_refl 0)) (fun x7 S7 H locs _ F hf => ?_)
  refine lv_aload_n hx hb d_X12_plainCreaks_10 rfl (lv_at hl 0 rfl) ?_
  refine fm_rgi Z G F hf fr_X12_244 d_X12_plainCreaks_11 (fun x11 _ hf => ?_)
  refine lv_isub hx hb d_X12_plainCreaks_14 ?_
  exact fm_reti Z hr hlk F d_X12_plainCreaks_15 (Prod.mk.inj (Option.some.inj hf)).1 (Prod.mk.inj (Option.some.inj hf)).2
theorem d_X12_creaksActs_0 : decode prog_14_method_75_code 0 = .ok (.aload_n 0, 1) := by decide +kernel
theorem d_X12_creaksActs_1 : decode prog_14_method_75_code 1 = .ok (.getfield 232, 3) := by decide +kernel
theorem d_X12_creaksActs_4 : decode prog_14_method_75_code 4 = .ok (.iconst 2, 1) := by decide +kernel
theorem d_X12_creaksActs_5 : decode prog_14_method_75_code 5 = .ok (.invokestatic 235, 3) := by decide +kernel
theorem d_X12_creaksActs_8 : decode prog_14_method_75_code 8 = .ok (.ifCond .eq 16, 3) := by decide +kernel
theorem d_X12_creaksActs_11 : decode prog_14_method_75_code 11 = .ok (.aload_n 0, 1) := by decide +kernel
theorem d_X12_creaksActs_12 : decode prog_14_method_75_code 12 = .ok (.bipush 21, 2) := by decide +kernel
theorem d_X12_creaksActs_14 : decode prog_14_method_75_code 14 = .ok (.invokevirtual 226, 3) := by decide +kernel
theorem d_X12_creaksActs_17 : decode prog_14_method_75_code 17 = .ok (.aload_n 0, 1) := by decide +kernel
theorem d_X12_creaksActs_18 : decode prog_14_method_75_code 18 = .ok (.iload_n 1, 1) := by decide +kernel
theorem d_X12_creaksActs_19 : decode prog_14_method_75_code 19 = .ok (.invokevirtual 247, 3) := by decide +kernel
theorem d_X12_creaksActs_22 : decode prog_14_method_75_code 22 = .ok (.ineg, 1) := by decide +kernel
theorem d_X12_creaksActs_23 : decode prog_14_method_75_code 23 = .ok (.ireturn, 1) := by decide +kernel
theorem d_X12_creaksActs_24 : decode prog_14_method_75_code 24 = .ok (.aload_n 0, 1) := by decide +kernel
theorem d_X12_creaksActs_25 : decode prog_14_method_75_code 25 = .ok (.getfield 232, 3) := by decide +kernel
theorem d_X12_creaksActs_28 : decode prog_14_method_75_code 28 = .ok (.bipush 6, 2) := by decide +kernel
theorem d_X12_creaksActs_30 : decode prog_14_method_75_code 30 = .ok (.if_icmp .ne 20, 3) := by decide +kernel
theorem d_X12_creaksActs_33 : decode prog_14_method_75_code 33 = .ok (.aload_n 0, 1) := by decide +kernel
theorem d_X12_creaksActs_34 : decode prog_14_method_75_code 34 = .ok (.bipush 61, 2) := by decide +kernel
theorem d_X12_creaksActs_36 : decode prog_14_method_75_code 36 = .ok (.invokevirtual 226, 3) := by decide +kernel
theorem d_X12_creaksActs_39 : decode prog_14_method_75_code 39 = .ok (.aload_n 0, 1) := by decide +kernel
theorem d_X12_creaksActs_40 : decode prog_14_method_75_code 40 = .ok (.iload_n 1, 1) := by decide +kernel
theorem d_X12_creaksActs_41 : decode prog_14_method_75_code 41 = .ok (.invokevirtual 247, 3) := by decide +kernel
theorem d_X12_creaksActs_44 : decode prog_14_method_75_code 44 = .ok (.aload_n 0, 1) := by decide +kernel
theorem d_X12_creaksActs_45 : decode prog_14_method_75_code 45 = .ok (.getfield 244, 3) := by decide +kernel
theorem d_X12_creaksActs_48 : decode prog_14_method_75_code 48 = .ok (.iadd, 1) := by decide +kernel
theorem d_X12_creaksActs_49 : decode prog_14_method_75_code 49 = .ok (.ireturn, 1) := by decide +kernel
theorem d_X12_creaksActs_50 : decode prog_14_method_75_code 50 = .ok (.aload_n 0, 1) := by decide +kernel
theorem d_X12_creaksActs_51 : decode prog_14_method_75_code 51 = .ok (.iload_n 1, 1) := by decide +kernel
theorem d_X12_creaksActs_52 : decode prog_14_method_75_code 52 = .ok (.invokevirtual 247, 3) := by decide +kernel
theorem d_X12_creaksActs_55 : decode prog_14_method_75_code 55 = .ok (.ireturn, 1) := by decide +kernel
def m_X12_creaksActs (kap lam : Nat → Nat) (r0 : Nat) (a1 : Int32) (S : fm_M) : Option (Int32 × fm_M) :=
  fm_gi kap 12 r0 18 S fun x1 =>
  fm_b1 (m_X12_isUnder kap lam x1 2 S) fun x5 =>
  if x5 = 0 then (
   fm_gi kap 12 r0 18 S fun x25 =>
   if x25 = 6 then (
    fm_ck (kap r0 == 12) <|
    fm_b1 (m_X12_ranBody kap lam r0 61 S) fun S36 =>
    fm_ck (kap r0 == 12) <|
    fm_bi (m_X12_plainCreaks kap lam r0 a1 S36) fun x41 S41 =>
    fm_gi kap 12 r0 20 S41 fun x45 =>
    some (x41 + x45, S41)
   ) else (
    fm_ck (kap r0 == 12) <|
    fm_bi (m_X12_plainCreaks kap lam r0 a1 S) fun x52 S52 =>
    some (x52, S52)
   )
  ) else (
   fm_ck (kap r0 == 12) <|
   fm_b1 (m_X12_ranBody kap lam r0 21 S) fun S14 =>
   fm_ck (kap r0 == 12) <|
   fm_bi (m_X12_plainCreaks kap lam r0 a1 S14) fun x19 S19 =>
   some (-x19, S19)
  )
set_option maxHeartbeats 4000000 in
set_option maxRecDepth 100000 in
theorem c_X12_creaksActs {l : Launch} {D : va_G} {ids kap lam : Nat → Nat} {RL : List Nat} {ad sk sv : Nat → Nat} {S : fm_M} {r0 : Nat} {a1 : Int32} {r : Int32} {u : fm_M} (hE : fm_E kap RL ad) (hf : m_X12_creaksActs kap lam r0 a1 S = some (r, u)) (sz : Nat) : fm_MI l y_X12_creaksActs prog_14_method_75_code 2 (Option.some Jvm.ClassFile.FieldType.int) 4 D ids kap lam RL ad sk sv S [.ref (ad r0), .int a1] sz r u := by
  refine fm_open rfl hE (Nat.le_of_ble_eq_true rfl) (fun p e s m args below meth c ls Z hr hlk G F N hl hsz => ?_)
  subst hsz
  obtain ⟨hx, hb, hml, hown, hts⟩ := id Z
  have hl : lv_has ls 2 [(0, .ref (ad r0)), (1, .int a1)] := hl
  unfold m_X12_creaksActs at hf
  refine lv_aload_n hx hb d_X12_creaksActs_0 rfl (lv_at hl 0 rfl) ?_
  refine fm_rgi Z G F hf fr_X12_232 d_X12_creaksActs_1 (fun x1 _ hf => ?_)
  refine lv_iconst (v := 2) hx hb d_X12_creaksActs_4 (by decide) ?_
  refine fm_rcr G F hf (fun r ho => fm_runS (k := 2) Z G F N (As := [.int x1, .int 2]) (rest := []) (c_X12_isUnder hE ho _) kw_1285 kw_1286 kw_6 kw_1287 yd_X12_isUnder rfl (by decide) (by decide) hl.1 (Nat.le_of_ble_eq_true rfl) d_X12_creaksActs_5 (Nat.le_refl 0) (Nat.le_refl 0)) (fun x5 H locs _ F hf => ?_)
  refine lv_if_eq (tgt := 24) hx hb d_X12_creaksActs_8 (by decide) (fun c8 => ?_) (fun c8 => ?_)
  · have hf := fm_ip c8 hf
    refine lv_aload_n hx hb d_X12_creaksActs_24 rfl (lv_at hl 0 rfl) ?_
    refine fm_rgi Z G F hf fr_X12_232 d_X12_creaksActs_25 (fun x25 _ hf => ?_)
    refine lv_bipush (v := 6) hx hb d_X12_creaksActs_28 (by decide) ?_
    refine lv_icmp_ne (tgt := 50) hx hb d_X12_creaksActs_30 (by decide) (fun c30 => ?_) (fun c30 => ?_)
    · have hf := fm_ig c30 hf
      refine lv_aload_n hx hb d_X12_creaksActs_50 rfl (lv_at hl 0 rfl) ?_
      refine lv_iload_n hx hb d_X12_creaksActs_51 rfl (lv_at hl 1 rfl) ?_
      obtain ⟨hk52, hf⟩ := fm_some hf
      refine fm_rci G F hf (fun r u ho => fm_runV (k := 1) Z G F N (As := [.int a1]) (rest := []) (c_X12_plainCreaks hE ho _) (by rw [eq_of_beq hk52]; decide) (by rw [eq_of_beq hk52]; rfl) kw_1300 kw_1302 kp_66 kw_6 kw_1303 yd_X12_plainCreaks rfl (by decide) (by decide) hl.1 (Nat.le_of_ble_eq_true rfl) d_X12_creaksActs_52 (Nat.le_refl 0) (Nat.le_refl 0)) (fun x52 S52 H locs _ F hf => ?_)
      exact fm_reti Z hr hlk F d_X12_creaksActs_55 (Prod.mk.inj (Option.some.inj hf)).1 (Prod.mk.inj (Option.some.inj hf)).2
    · have hf := fm_ip c30 hf
      refine lv_aload_n hx hb d_X12_creaksActs_33 rfl (lv_at hl 0 rfl) ?_
      refine lv_bipush (v := 61) hx hb d_X12_creaksActs_34 (by decide) ?_
      obtain ⟨hk36, hf⟩ := fm_some hf
      refine fm_rcv G F hf (fun u ho => fm_runV (k := 1) Z G F N (As := [.int 61]) (rest := []) (c_X12_ranBody hE ho _) (by rw [eq_of_beq hk36]; decide) (by rw [eq_of_beq hk36]; rfl) kw_1288 kw_1290 kp_63 kw_6 kw_1291 yd_X12_ranBody rfl (by decide) (by decide) hl.1 (Nat.le_of_ble_eq_true rfl) d_X12_creaksActs_36 (Nat.le_refl 0) (Nat.le_refl 0)) (fun S36 H locs _ F hf => ?_)
      refine lv_aload_n hx hb d_X12_creaksActs_39 rfl (lv_at hl 0 rfl) ?_
      refine lv_iload_n hx hb d_X12_creaksActs_40 rfl (lv_at hl 1 rfl) ?_
      obtain ⟨hk41, hf⟩ := fm_some hf
      refine fm_rci G F hf (fun r u ho => fm_runV (k := 1) Z G F N (As := [.int a1]) (rest := []) (c_X12_plainCreaks hE ho _) (by rw [eq_of_beq hk41]; decide) (by rw [eq_of_beq hk41]; rfl) kw_1300 kw_1302 kp_66 kw_6 kw_1303 yd_X12_plainCreaks rfl (by decide) (by decide) hl.1 (Nat.le_of_ble_eq_true rfl) d_X12_creaksActs_41 (Nat.le_refl 0) (Nat.le_refl 0)) (fun x41 S41 H locs _ F hf => ?_)
      refine lv_aload_n hx hb d_X12_creaksActs_44 rfl (lv_at hl 0 rfl) ?_
      refine fm_rgi Z G F hf fr_X12_244 d_X12_creaksActs_45 (fun x45 _ hf => ?_)
      refine lv_iadd hx hb d_X12_creaksActs_48 ?_
      exact fm_reti Z hr hlk F d_X12_creaksActs_49 (Prod.mk.inj (Option.some.inj hf)).1 (Prod.mk.inj (Option.some.inj hf)).2
  · have hf := fm_ig c8 hf
    refine lv_aload_n hx hb d_X12_creaksActs_11 rfl (lv_at hl 0 rfl) ?_
    refine lv_bipush (v := 21) hx hb d_X12_creaksActs_12 (by decide) ?_
    obtain ⟨hk14, hf⟩ := fm_some hf
    refine fm_rcv G F hf (fun u ho => fm_runV (k := 1) Z G F N (As := [.int 21]) (rest := []) (c_X12_ranBody hE ho _) (by rw [eq_of_beq hk14]; decide) (by rw [eq_of_beq hk14]; rfl) kw_1288 kw_1290 kp_63 kw_6 kw_1291 yd_X12_ranBody rfl (by decide) (by decide) hl.1 (Nat.le_of_ble_eq_true rfl) d_X12_creaksActs_14 (Nat.le_refl 0) (Nat.le_refl 0)) (fun S14 H locs _ F hf => ?_)
    refine lv_aload_n hx hb d_X12_creaksActs_17 rfl (lv_at hl 0 rfl) ?_
    refine lv_iload_n hx hb d_X12_creaksActs_18 rfl (lv_at hl 1 rfl) ?_
    obtain ⟨hk19, hf⟩ := fm_some hf
    refine fm_rci G F hf (fun r u ho => fm_runV (k := 1) Z G F N (As := [.int a1]) (rest := []) (c_X12_plainCreaks hE ho _) (by rw [eq_of_beq hk19]; decide) (by rw [eq_of_beq hk19]; rfl) kw_1300 kw_1302 kp_66 kw_6 kw_1303 yd_X12_plainCreaks rfl (by decide) (by decide) hl.1 (Nat.le_of_ble_eq_true rfl) d_X12_creaksActs_19 (Nat.le_refl 0) (Nat.le_refl 0)) (fun x19 S19 H locs _ F hf => ?_)
    refine lv_ineg hx hb d_X12_creaksActs_22 ?_
    exact fm_reti Z hr hlk F d_X12_creaksActs_23 (Prod.mk.inj (Option.some.inj hf)).1 (Prod.mk.inj (Option.some.inj hf)).2
theorem d_X12_plainTelling_0 : decode prog_14_method_76_code 0 = .ok (.aload_n 0, 1) := by decide +kernel
theorem d_X12_plainTelling_1 : decode prog_14_method_76_code 1 = .ok (.iconst 3, 1) := by decide +kernel
theorem d_X12_plainTelling_2 : decode prog_14_method_76_code 2 = .ok (.invokevirtual 226, 3) := by decide +kernel
theorem d_X12_plainTelling_5 : decode prog_14_method_76_code 5 = .ok (.aload_n 0, 1) := by decide +kernel
theorem d_X12_plainTelling_6 : decode prog_14_method_76_code 6 = .ok (.iload_n 1, 1) := by decide +kernel
theorem d_X12_plainTelling_7 : decode prog_14_method_76_code 7 = .ok (.invokevirtual 250, 3) := by decide +kernel
theorem d_X12_plainTelling_10 : decode prog_14_method_76_code 10 = .ok (.iconst 2, 1) := by decide +kernel
theorem d_X12_plainTelling_11 : decode prog_14_method_76_code 11 = .ok (.imul, 1) := by decide +kernel
theorem d_X12_plainTelling_12 : decode prog_14_method_76_code 12 = .ok (.ireturn, 1) := by decide +kernel
def m_X12_plainTelling (kap lam : Nat → Nat) (r0 : Nat) (a1 : Int32) (S : fm_M) : Option (Int32 × fm_M) :=
  fm_ck (kap r0 == 12) <|
  fm_b1 (m_X12_ranBody kap lam r0 3 S) fun S2 =>
  fm_ck (kap r0 == 12) <|
  fm_bi (m_X12_creaksActs kap lam r0 a1 S2) fun x7 S7 =>
  some (x7 * 2, S7)
set_option maxHeartbeats 4000000 in
set_option maxRecDepth 100000 in
theorem c_X12_plainTelling {l : Launch} {D : va_G} {ids kap lam : Nat → Nat} {RL : List Nat} {ad sk sv : Nat → Nat} {S : fm_M} {r0 : Nat} {a1 : Int32} {r : Int32} {u : fm_M} (hE : fm_E kap RL ad) (hf : m_X12_plainTelling kap lam r0 a1 S = some (r, u)) (sz : Nat) : fm_MI l y_X12_plainTelling prog_14_method_76_code 2 (Option.some Jvm.ClassFile.FieldType.int) 5 D ids kap lam RL ad sk sv S [.ref (ad r0), .int a1] sz r u := by
  refine fm_open rfl hE (Nat.le_of_ble_eq_true rfl) (fun p e s m args below meth c ls Z hr hlk G F N hl hsz => ?_)
  subst hsz
  obtain ⟨hx, hb, hml, hown, hts⟩ := id Z
  have hl : lv_has ls 2 [(0, .ref (ad r0)), (1, .int a1)] := hl
  unfold m_X12_plainTelling at hf
  refine lv_aload_n hx hb d_X12_plainTelling_0 rfl (lv_at hl 0 rfl) ?_
  refine lv_iconst (v := 3) hx hb d_X12_plainTelling_1 (by decide) ?_
  obtain ⟨hk2, hf⟩ := fm_some hf
  refine fm_rcv G F hf (fun u ho => fm_runV (k := 1) Z G F N (As := [.int 3]) (rest := []) (c_X12_ranBody hE ho _) (by rw [eq_of_beq hk2]; decide) (by rw [eq_of_beq hk2]; rfl) kw_1288 kw_1290 kp_63 kw_6 kw_1291 yd_X12_ranBody rfl (by decide) (by decide) hl.1 (Nat.le_of_ble_eq_true rfl) d_X12_plainTelling_2 (Nat.le_refl 0) (Nat.le_refl 0)) (fun S2 H locs _ F hf => ?_)
  refine lv_aload_n hx hb d_X12_plainTelling_5 rfl (lv_at hl 0 rfl) ?_
  refine lv_iload_n hx hb d_X12_plainTelling_6 rfl (lv_at hl 1 rfl) ?_
  obtain ⟨hk7, hf⟩ := fm_some hf
  refine fm_rci G F hf (fun r u ho => fm_runV (k := 1) Z G F N (As := [.int a1]) (rest := []) (c_X12_creaksActs hE ho _) (by rw [eq_of_beq hk7]; decide) (by rw [eq_of_beq hk7]; rfl) kw_1296 kw_1298 kp_65 kw_6 kw_1299 yd_X12_creaksActs rfl (by decide) (by decide) hl.1 (Nat.le_of_ble_eq_true rfl) d_X12_plainTelling_7 (Nat.le_refl 0) (Nat.le_refl 0)) (fun x7 S7 H locs _ F hf => ?_)
  refine lv_iconst (v := 2) hx hb d_X12_plainTelling_10 (by decide) ?_
  refine lv_imul hx hb d_X12_plainTelling_11 ?_
  exact fm_reti Z hr hlk F d_X12_plainTelling_12 (Prod.mk.inj (Option.some.inj hf)).1 (Prod.mk.inj (Option.some.inj hf)).2
theorem d_X12_shinesActs_0 : decode prog_14_method_77_code 0 = .ok (.aload_n 0, 1) := by decide +kernel
theorem d_X12_shinesActs_1 : decode prog_14_method_77_code 1 = .ok (.getfield 232, 3) := by decide +kernel
theorem d_X12_shinesActs_4 : decode prog_14_method_77_code 4 = .ok (.iconst 3, 1) := by decide +kernel
theorem d_X12_shinesActs_5 : decode prog_14_method_77_code 5 = .ok (.invokestatic 235, 3) := by decide +kernel
theorem d_X12_shinesActs_8 : decode prog_14_method_77_code 8 = .ok (.ifCond .eq 18, 3) := by decide +kernel
theorem d_X12_shinesActs_11 : decode prog_14_method_77_code 11 = .ok (.aload_n 0, 1) := by decide +kernel
theorem d_X12_shinesActs_12 : decode prog_14_method_77_code 12 = .ok (.bipush 31, 2) := by decide +kernel
theorem d_X12_shinesActs_14 : decode prog_14_method_77_code 14 = .ok (.invokevirtual 226, 3) := by decide +kernel
theorem d_X12_shinesActs_17 : decode prog_14_method_77_code 17 = .ok (.aload_n 0, 1) := by decide +kernel
theorem d_X12_shinesActs_18 : decode prog_14_method_77_code 18 = .ok (.iload_n 1, 1) := by decide +kernel
theorem d_X12_shinesActs_19 : decode prog_14_method_77_code 19 = .ok (.invokevirtual 253, 3) := by decide +kernel
theorem d_X12_shinesActs_22 : decode prog_14_method_77_code 22 = .ok (.bipush 7, 2) := by decide +kernel
theorem d_X12_shinesActs_24 : decode prog_14_method_77_code 24 = .ok (.ixor, 1) := by decide +kernel
theorem d_X12_shinesActs_25 : decode prog_14_method_77_code 25 = .ok (.ireturn, 1) := by decide +kernel
theorem d_X12_shinesActs_26 : decode prog_14_method_77_code 26 = .ok (.aload_n 0, 1) := by decide +kernel
theorem d_X12_shinesActs_27 : decode prog_14_method_77_code 27 = .ok (.getfield 232, 3) := by decide +kernel
theorem d_X12_shinesActs_30 : decode prog_14_method_77_code 30 = .ok (.iconst 4, 1) := by decide +kernel
theorem d_X12_shinesActs_31 : decode prog_14_method_77_code 31 = .ok (.if_icmp .ne 25, 3) := by decide +kernel
theorem d_X12_shinesActs_34 : decode prog_14_method_77_code 34 = .ok (.aload_n 0, 1) := by decide +kernel
theorem d_X12_shinesActs_35 : decode prog_14_method_77_code 35 = .ok (.bipush 41, 2) := by decide +kernel
theorem d_X12_shinesActs_37 : decode prog_14_method_77_code 37 = .ok (.invokevirtual 226, 3) := by decide +kernel
theorem d_X12_shinesActs_40 : decode prog_14_method_77_code 40 = .ok (.aload_n 0, 1) := by decide +kernel
theorem d_X12_shinesActs_41 : decode prog_14_method_77_code 41 = .ok (.iload_n 1, 1) := by decide +kernel
theorem d_X12_shinesActs_42 : decode prog_14_method_77_code 42 = .ok (.iconst 1, 1) := by decide +kernel
theorem d_X12_shinesActs_43 : decode prog_14_method_77_code 43 = .ok (.isub, 1) := by decide +kernel
theorem d_X12_shinesActs_44 : decode prog_14_method_77_code 44 = .ok (.invokevirtual 253, 3) := by decide +kernel
theorem d_X12_shinesActs_47 : decode prog_14_method_77_code 47 = .ok (.istore_n 2, 1) := by decide +kernel
theorem d_X12_shinesActs_48 : decode prog_14_method_77_code 48 = .ok (.iload_n 2, 1) := by decide +kernel
theorem d_X12_shinesActs_49 : decode prog_14_method_77_code 49 = .ok (.aload_n 0, 1) := by decide +kernel
theorem d_X12_shinesActs_50 : decode prog_14_method_77_code 50 = .ok (.iconst 2, 1) := by decide +kernel
theorem d_X12_shinesActs_51 : decode prog_14_method_77_code 51 = .ok (.invokevirtual 241, 3) := by decide +kernel
theorem d_X12_shinesActs_54 : decode prog_14_method_77_code 54 = .ok (.iadd, 1) := by decide +kernel
theorem d_X12_shinesActs_55 : decode prog_14_method_77_code 55 = .ok (.ireturn, 1) := by decide +kernel
theorem d_X12_shinesActs_56 : decode prog_14_method_77_code 56 = .ok (.aload_n 0, 1) := by decide +kernel
theorem d_X12_shinesActs_57 : decode prog_14_method_77_code 57 = .ok (.iload_n 1, 1) := by decide +kernel
theorem d_X12_shinesActs_58 : decode prog_14_method_77_code 58 = .ok (.invokevirtual 253, 3) := by decide +kernel
theorem d_X12_shinesActs_61 : decode prog_14_method_77_code 61 = .ok (.ireturn, 1) := by decide +kernel
def m_X12_shinesActs (kap lam : Nat → Nat) (r0 : Nat) (a1 : Int32) (S : fm_M) : Option (Int32 × fm_M) :=
  fm_gi kap 12 r0 18 S fun x1 =>
  fm_b1 (m_X12_isUnder kap lam x1 3 S) fun x5 =>
  if x5 = 0 then (
   fm_gi kap 12 r0 18 S fun x27 =>
   if x27 = 4 then (
    fm_ck (kap r0 == 12) <|
    fm_b1 (m_X12_ranBody kap lam r0 41 S) fun S37 =>
    fm_ck (kap r0 == 12) <|
    fm_bi (m_X12_plainTelling kap lam r0 (a1 - 1) S37) fun x44 S44 =>
    fm_ck (kap r0 == 12) <|
    fm_bi (m_X12_dripsActs kap lam r0 2 S44) fun x51 S51 =>
    some (x44 + x51, S51)
   ) else (
    fm_ck (kap r0 == 12) <|
    fm_bi (m_X12_plainTelling kap lam r0 a1 S) fun x58 S58 =>
    some (x58, S58)
   )
  ) else (
   fm_ck (kap r0 == 12) <|
   fm_b1 (m_X12_ranBody kap lam r0 31 S) fun S14 =>
   fm_ck (kap r0 == 12) <|
   fm_bi (m_X12_plainTelling kap lam r0 a1 S14) fun x19 S19 =>
   some (x19 ^^^ 7, S19)
  )
set_option maxHeartbeats 4000000 in
set_option maxRecDepth 100000 in
theorem c_X12_shinesActs {l : Launch} {D : va_G} {ids kap lam : Nat → Nat} {RL : List Nat} {ad sk sv : Nat → Nat} {S : fm_M} {r0 : Nat} {a1 : Int32} {r : Int32} {u : fm_M} (hE : fm_E kap RL ad) (hf : m_X12_shinesActs kap lam r0 a1 S = some (r, u)) (sz : Nat) : fm_MI l y_X12_shinesActs prog_14_method_77_code 3 (Option.some Jvm.ClassFile.FieldType.int) 6 D ids kap lam RL ad sk sv S [.ref (ad r0), .int a1] sz r u := by
  refine fm_open rfl hE (Nat.le_of_ble_eq_true rfl) (fun p e s m args below meth c ls Z hr hlk G F N hl hsz => ?_)
  subst hsz
  obtain ⟨hx, hb, hml, hown, hts⟩ := id Z
  have hl : lv_has ls 3 [(0, .ref (ad r0)), (1, .int a1)] := hl
  unfold m_X12_shinesActs at hf
  refine lv_aload_n hx hb d_X12_shinesActs_0 rfl (lv_at hl 0 rfl) ?_
  refine fm_rgi Z G F hf fr_X12_232 d_X12_shinesActs_1 (fun x1 _ hf => ?_)
  refine lv_iconst (v := 3) hx hb d_X12_shinesActs_4 (by decide) ?_
  refine fm_rcr G F hf (fun r ho => fm_runS (k := 2) Z G F N (As := [.int x1, .int 3]) (rest := []) (c_X12_isUnder hE ho _) kw_1285 kw_1286 kw_6 kw_1287 yd_X12_isUnder rfl (by decide) (by decide) hl.1 (Nat.le_of_ble_eq_true rfl) d_X12_shinesActs_5 (Nat.le_refl 0) (Nat.le_refl 0)) (fun x5 H locs _ F hf => ?_)
  refine lv_if_eq (tgt := 26) hx hb d_X12_shinesActs_8 (by decide) (fun c8 => ?_) (fun c8 => ?_)
  · have hf := fm_ip c8 hf
    refine lv_aload_n hx hb d_X12_shinesActs_26 rfl (lv_at hl 0 rfl) ?_
    refine fm_rgi Z G F hf fr_X12_232 d_X12_shinesActs_27 (fun x27 _ hf => ?_)
    refine lv_iconst (v := 4) hx hb d_X12_shinesActs_30 (by decide) ?_
    refine lv_icmp_ne (tgt := 56) hx hb d_X12_shinesActs_31 (by decide) (fun c31 => ?_) (fun c31 => ?_)
    · have hf := fm_ig c31 hf
      refine lv_aload_n hx hb d_X12_shinesActs_56 rfl (lv_at hl 0 rfl) ?_
      refine lv_iload_n hx hb d_X12_shinesActs_57 rfl (lv_at hl 1 rfl) ?_
      obtain ⟨hk58, hf⟩ := fm_some hf
      refine fm_rci G F hf (fun r u ho => fm_runV (k := 1) Z G F N (As := [.int a1]) (rest := []) (c_X12_plainTelling hE ho _) (by rw [eq_of_beq hk58]; decide) (by rw [eq_of_beq hk58]; rfl) kw_1308 kw_1310 kp_68 kw_6 kw_1311 yd_X12_plainTelling rfl (by decide) (by decide) hl.1 (Nat.le_of_ble_eq_true rfl) d_X12_shinesActs_58 (Nat.le_refl 0) (Nat.le_refl 0)) (fun x58 S58 H locs _ F hf => ?_)
      exact fm_reti Z hr hlk F d_X12_shinesActs_61 (Prod.mk.inj (Option.some.inj hf)).1 (Prod.mk.inj (Option.some.inj hf)).2
    · have hf := fm_ip c31 hf
      refine lv_aload_n hx hb d_X12_shinesActs_34 rfl (lv_at hl 0 rfl) ?_
      refine lv_bipush (v := 41) hx hb d_X12_shinesActs_35 (by decide) ?_
      obtain ⟨hk37, hf⟩ := fm_some hf
      refine fm_rcv G F hf (fun u ho => fm_runV (k := 1) Z G F N (As := [.int 41]) (rest := []) (c_X12_ranBody hE ho _) (by rw [eq_of_beq hk37]; decide) (by rw [eq_of_beq hk37]; rfl) kw_1288 kw_1290 kp_63 kw_6 kw_1291 yd_X12_ranBody rfl (by decide) (by decide) hl.1 (Nat.le_of_ble_eq_true rfl) d_X12_shinesActs_37 (Nat.le_refl 0) (Nat.le_refl 0)) (fun S37 H locs _ F hf => ?_)
      refine lv_aload_n hx hb d_X12_shinesActs_40 rfl (lv_at hl 0 rfl) ?_
      refine lv_iload_n hx hb d_X12_shinesActs_41 rfl (lv_at hl 1 rfl) ?_
      refine lv_iconst (v := 1) hx hb d_X12_shinesActs_42 (by decide) ?_
      refine lv_isub hx hb d_X12_shinesActs_43 ?_
      obtain ⟨hk44, hf⟩ := fm_some hf
      refine fm_rci G F hf (fun r u ho => fm_runV (k := 1) Z G F N (As := [.int (a1 - 1)]) (rest := []) (c_X12_plainTelling hE ho _) (by rw [eq_of_beq hk44]; decide) (by rw [eq_of_beq hk44]; rfl) kw_1308 kw_1310 kp_68 kw_6 kw_1311 yd_X12_plainTelling rfl (by decide) (by decide) hl.1 (Nat.le_of_ble_eq_true rfl) d_X12_shinesActs_44 (Nat.le_refl 0) (Nat.le_refl 0)) (fun x44 S44 H locs _ F hf => ?_)
      refine lv_istore_n (lv' := [(2, .int x44), (0, .ref (ad r0)), (1, .int a1)]) hx hb d_X12_shinesActs_47 rfl hl (by decide) rfl (fun ls hl => ?_)
      refine lv_iload_n hx hb d_X12_shinesActs_48 rfl (lv_at hl 0 rfl) ?_
      refine lv_aload_n hx hb d_X12_shinesActs_49 rfl (lv_at hl 1 rfl) ?_
      refine lv_iconst (v := 2) hx hb d_X12_shinesActs_50 (by decide) ?_
      obtain ⟨hk51, hf⟩ := fm_some hf
      refine fm_rci G F hf (fun r u ho => fm_runV (k := 1) Z G F N (As := [.int 2]) (rest := [.int x44]) (c_X12_dripsActs hE ho _) (by rw [eq_of_beq hk51]; decide) (by rw [eq_of_beq hk51]; rfl) kw_1281 kw_1283 kp_62 kw_6 kw_1284 yd_X12_dripsActs rfl (by decide) (by decide) hl.1 (Nat.le_of_ble_eq_true rfl) d_X12_shinesActs_51 (Nat.le_refl 0) (Nat.le_refl 0)) (fun x51 S51 H locs _ F hf => ?_)
      refine lv_iadd hx hb d_X12_shinesActs_54 ?_
      exact fm_reti Z hr hlk F d_X12_shinesActs_55 (Prod.mk.inj (Option.some.inj hf)).1 (Prod.mk.inj (Option.some.inj hf)).2
  · have hf := fm_ig c8 hf
    refine lv_aload_n hx hb d_X12_shinesActs_11 rfl (lv_at hl 0 rfl) ?_
    refine lv_bipush (v := 31) hx hb d_X12_shinesActs_12 (by decide) ?_
    obtain ⟨hk14, hf⟩ := fm_some hf
    refine fm_rcv G F hf (fun u ho => fm_runV (k := 1) Z G F N (As := [.int 31]) (rest := []) (c_X12_ranBody hE ho _) (by rw [eq_of_beq hk14]; decide) (by rw [eq_of_beq hk14]; rfl) kw_1288 kw_1290 kp_63 kw_6 kw_1291 yd_X12_ranBody rfl (by decide) (by decide) hl.1 (Nat.le_of_ble_eq_true rfl) d_X12_shinesActs_14 (Nat.le_refl 0) (Nat.le_refl 0)) (fun S14 H locs _ F hf => ?_)
    refine lv_aload_n hx hb d_X12_shinesActs_17 rfl (lv_at hl 0 rfl) ?_
    refine lv_iload_n hx hb d_X12_shinesActs_18 rfl (lv_at hl 1 rfl) ?_
    obtain ⟨hk19, hf⟩ := fm_some hf
    refine fm_rci G F hf (fun r u ho => fm_runV (k := 1) Z G F N (As := [.int a1]) (rest := []) (c_X12_plainTelling hE ho _) (by rw [eq_of_beq hk19]; decide) (by rw [eq_of_beq hk19]; rfl) kw_1308 kw_1310 kp_68 kw_6 kw_1311 yd_X12_plainTelling rfl (by decide) (by decide) hl.1 (Nat.le_of_ble_eq_true rfl) d_X12_shinesActs_19 (Nat.le_refl 0) (Nat.le_refl 0)) (fun x19 S19 H locs _ F hf => ?_)
    refine lv_bipush (v := 7) hx hb d_X12_shinesActs_22 (by decide) ?_
    refine lv_ixor hx hb d_X12_shinesActs_24 ?_
    exact fm_reti Z hr hlk F d_X12_shinesActs_25 (Prod.mk.inj (Option.some.inj hf)).1 (Prod.mk.inj (Option.some.inj hf)).2
theorem d_X12_act_0 : decode prog_14_method_78_code 0 = .ok (.aload_n 0, 1) := by decide +kernel
theorem d_X12_act_1 : decode prog_14_method_78_code 1 = .ok (.iconst 0, 1) := by decide +kernel
theorem d_X12_act_2 : decode prog_14_method_78_code 2 = .ok (.putfield 223, 3) := by decide +kernel
theorem d_X12_act_5 : decode prog_14_method_78_code 5 = .ok (.aload_n 0, 1) := by decide +kernel
theorem d_X12_act_6 : decode prog_14_method_78_code 6 = .ok (.iload_n 1, 1) := by decide +kernel
theorem d_X12_act_7 : decode prog_14_method_78_code 7 = .ok (.invokevirtual 140, 3) := by decide +kernel
theorem d_X12_act_10 : decode prog_14_method_78_code 10 = .ok (.ifCond .eq 12, 3) := by decide +kernel
theorem d_X12_act_13 : decode prog_14_method_78_code 13 = .ok (.iload_n 2, 1) := by decide +kernel
theorem d_X12_act_14 : decode prog_14_method_78_code 14 = .ok (.iconst 0, 1) := by decide +kernel
theorem d_X12_act_15 : decode prog_14_method_78_code 15 = .ok (.iconst 2, 1) := by decide +kernel
theorem d_X12_act_16 : decode prog_14_method_78_code 16 = .ok (.invokestatic 44, 3) := by decide +kernel
theorem d_X12_act_19 : decode prog_14_method_78_code 19 = .ok (.ifCond .ne 5, 3) := by decide +kernel
theorem d_X12_act_22 : decode prog_14_method_78_code 22 = .ok (.iconst 0, 1) := by decide +kernel
theorem d_X12_act_23 : decode prog_14_method_78_code 23 = .ok (.ireturn, 1) := by decide +kernel
theorem d_X12_act_24 : decode prog_14_method_78_code 24 = .ok (.aload_n 0, 1) := by decide +kernel
theorem d_X12_act_25 : decode prog_14_method_78_code 25 = .ok (.aload_n 0, 1) := by decide +kernel
theorem d_X12_act_26 : decode prog_14_method_78_code 26 = .ok (.getfield 9, 3) := by decide +kernel
theorem d_X12_act_29 : decode prog_14_method_78_code 29 = .ok (.bipush 28, 2) := by decide +kernel
theorem d_X12_act_31 : decode prog_14_method_78_code 31 = .ok (.iload_n 1, 1) := by decide +kernel
theorem d_X12_act_32 : decode prog_14_method_78_code 32 = .ok (.iadd, 1) := by decide +kernel
theorem d_X12_act_33 : decode prog_14_method_78_code 33 = .ok (.iaload, 1) := by decide +kernel
theorem d_X12_act_34 : decode prog_14_method_78_code 34 = .ok (.putfield 232, 3) := by decide +kernel
theorem d_X12_act_37 : decode prog_14_method_78_code 37 = .ok (.aload_n 0, 1) := by decide +kernel
theorem d_X12_act_38 : decode prog_14_method_78_code 38 = .ok (.iload_n 1, 1) := by decide +kernel
theorem d_X12_act_39 : decode prog_14_method_78_code 39 = .ok (.putfield 229, 3) := by decide +kernel
theorem d_X12_act_42 : decode prog_14_method_78_code 42 = .ok (.aload_n 0, 1) := by decide +kernel
theorem d_X12_act_43 : decode prog_14_method_78_code 43 = .ok (.aload_n 0, 1) := by decide +kernel
theorem d_X12_act_44 : decode prog_14_method_78_code 44 = .ok (.getfield 9, 3) := by decide +kernel
theorem d_X12_act_47 : decode prog_14_method_78_code 47 = .ok (.bipush 34, 2) := by decide +kernel
theorem d_X12_act_49 : decode prog_14_method_78_code 49 = .ok (.iload_n 1, 1) := by decide +kernel
theorem d_X12_act_50 : decode prog_14_method_78_code 50 = .ok (.iadd, 1) := by decide +kernel
theorem d_X12_act_51 : decode prog_14_method_78_code 51 = .ok (.iaload, 1) := by decide +kernel
theorem d_X12_act_52 : decode prog_14_method_78_code 52 = .ok (.putfield 244, 3) := by decide +kernel
theorem d_X12_act_55 : decode prog_14_method_78_code 55 = .ok (.iload_n 2, 1) := by decide +kernel
theorem d_X12_act_56 : decode prog_14_method_78_code 56 = .ok (.ifCond .ne 11, 3) := by decide +kernel
theorem d_X12_act_59 : decode prog_14_method_78_code 59 = .ok (.aload_n 0, 1) := by decide +kernel
theorem d_X12_act_60 : decode prog_14_method_78_code 60 = .ok (.iload_n 3, 1) := by decide +kernel
theorem d_X12_act_61 : decode prog_14_method_78_code 61 = .ok (.invokevirtual 241, 3) := by decide +kernel
theorem d_X12_act_64 : decode prog_14_method_78_code 64 = .ok (.goto 21, 3) := by decide +kernel
theorem d_X12_act_67 : decode prog_14_method_78_code 67 = .ok (.iload_n 2, 1) := by decide +kernel
theorem d_X12_act_68 : decode prog_14_method_78_code 68 = .ok (.iconst 1, 1) := by decide +kernel
theorem d_X12_act_69 : decode prog_14_method_78_code 69 = .ok (.if_icmp .ne 11, 3) := by decide +kernel
theorem d_X12_act_72 : decode prog_14_method_78_code 72 = .ok (.aload_n 0, 1) := by decide +kernel
theorem d_X12_act_73 : decode prog_14_method_78_code 73 = .ok (.iload_n 3, 1) := by decide +kernel
theorem d_X12_act_74 : decode prog_14_method_78_code 74 = .ok (.invokevirtual 250, 3) := by decide +kernel
theorem d_X12_act_77 : decode prog_14_method_78_code 77 = .ok (.goto 8, 3) := by decide +kernel
theorem d_X12_act_80 : decode prog_14_method_78_code 80 = .ok (.aload_n 0, 1) := by decide +kernel
theorem d_X12_act_81 : decode prog_14_method_78_code 81 = .ok (.iload_n 3, 1) := by decide +kernel
theorem d_X12_act_82 : decode prog_14_method_78_code 82 = .ok (.invokevirtual 256, 3) := by decide +kernel
theorem d_X12_act_85 : decode prog_14_method_78_code 85 = .ok (.ireturn, 1) := by decide +kernel
def m_X12_act (kap lam : Nat → Nat) (r0 : Nat) (a1 : Int32) (a2 : Int32) (a3 : Int32) (S : fm_M) : Option (Int32 × fm_M) :=
  fm_pi kap 12 r0 17 S 0 fun S2 =>
  fm_ck (kap r0 == 12) <|
  fm_b1 (m_X12_isPane kap lam r0 a1 S2) fun x7 =>
  if x7 = 0 then (
   some (0, S2)
  ) else (
   fm_b1 (m_X12_in kap lam a2 0 2 S2) fun x16 =>
   if x16 = 0 then (
    some (0, S2)
   ) else (
    fm_gr kap 12 r0 1 S2 fun q26 =>
    fm_ld kap lam 13 q26 (28 + a1) S2 fun x33 =>
    fm_pi kap 12 r0 18 S2 x33 fun S34 =>
    fm_pi kap 12 r0 19 S34 a1 fun S39 =>
    fm_gr kap 12 r0 1 S39 fun q44 =>
    fm_ld kap lam 13 q44 (34 + a1) S39 fun x51 =>
    fm_pi kap 12 r0 20 S39 x51 fun S52 =>
    if a2 = 0 then (
     fm_ck (kap r0 == 12) <|
     fm_bi (m_X12_dripsActs kap lam r0 a3 S52) fun x61 S61 =>
     some (x61, S61)
    ) else (
     if a2 = 1 then (
      fm_ck (kap r0 == 12) <|
      fm_bi (m_X12_creaksActs kap lam r0 a3 S52) fun x74 S74 =>
      some (x74, S74)
     ) else (
      fm_ck (kap r0 == 12) <|
      fm_bi (m_X12_shinesActs kap lam r0 a3 S52) fun x82 S82 =>
      some (x82, S82)
     )
    )
   )
  )
set_option maxHeartbeats 4000000 in
set_option maxRecDepth 100000 in
theorem c_X12_act {l : Launch} {D : va_G} {ids kap lam : Nat → Nat} {RL : List Nat} {ad sk sv : Nat → Nat} {S : fm_M} {r0 : Nat} {a1 : Int32} {a2 : Int32} {a3 : Int32} {r : Int32} {u : fm_M} (hE : fm_E kap RL ad) (hf : m_X12_act kap lam r0 a1 a2 a3 S = some (r, u)) (sz : Nat) : fm_MI l y_X12_act prog_14_method_78_code 4 (Option.some Jvm.ClassFile.FieldType.int) 7 D ids kap lam RL ad sk sv S [.ref (ad r0), .int a1, .int a2, .int a3] sz r u := by
  refine fm_open rfl hE (Nat.le_of_ble_eq_true rfl) (fun p e s m args below meth c ls Z hr hlk G F N hl hsz => ?_)
  subst hsz
  obtain ⟨hx, hb, hml, hown, hts⟩ := id Z
  have hl : lv_has ls 4 [(0, .ref (ad r0)), (1, .int a1), (2, .int a2), (3, .int a3)] := hl
  unfold m_X12_act at hf
  refine lv_aload_n hx hb d_X12_act_0 rfl (lv_at hl 0 rfl) ?_
  refine lv_iconst (v := 0) hx hb d_X12_act_1 (by decide) ?_
  refine fm_rpi Z G F hf fs_X12_223 d_X12_act_2 (fun c h => by have h := eq_of_beq (show (c == 12) = true from h); subst h; rfl) (fun S2 H locs _ F hf => ?_)
  refine lv_aload_n hx hb d_X12_act_5 rfl (lv_at hl 0 rfl) ?_
  refine lv_iload_n hx hb d_X12_act_6 rfl (lv_at hl 1 rfl) ?_
  obtain ⟨hk7, hf⟩ := fm_some hf
  refine fm_rcr G F hf (fun r ho => fm_runV (k := 1) Z G F N (As := [.int a1]) (rest := []) (c_X12_isPane hE ho _) (by rw [eq_of_beq hk7]; decide) (by rw [eq_of_beq hk7]; rfl) kw_1075 kw_1077 kp_37 kw_6 kw_1078 yd_X12_isPane rfl (by decide) (by decide) hl.1 (Nat.le_of_ble_eq_true rfl) d_X12_act_7 (Nat.le_refl 0) (Nat.le_refl 0)) (fun x7 H locs _ F hf => ?_)
  refine lv_if_eq (tgt := 22) hx hb d_X12_act_10 (by decide) (fun c10 => ?_) (fun c10 => ?_)
  · have hf := fm_ip c10 hf
    refine lv_iconst (v := 0) hx hb d_X12_act_22 (by decide) ?_
    exact fm_reti Z hr hlk F d_X12_act_23 (Prod.mk.inj (Option.some.inj hf)).1 (Prod.mk.inj (Option.some.inj hf)).2
  · have hf := fm_ig c10 hf
    refine lv_iload_n hx hb d_X12_act_13 rfl (lv_at hl 2 rfl) ?_
    refine lv_iconst (v := 0) hx hb d_X12_act_14 (by decide) ?_
    refine lv_iconst (v := 2) hx hb d_X12_act_15 (by decide) ?_
    refine fm_rcr G F hf (fun r ho => fm_runS (k := 3) Z G F N (As := [.int a2, .int 0, .int 2]) (rest := []) (c_X12_in hE ho _) kw_1004 kw_1005 kw_6 kw_1006 yd_X12_in rfl (by decide) (by decide) hl.1 (Nat.le_of_ble_eq_true rfl) d_X12_act_16 (Nat.le_refl 0) (Nat.le_refl 0)) (fun x16 H locs _ F hf => ?_)
    refine lv_if_ne (tgt := 24) hx hb d_X12_act_19 (by decide) (fun c19 => ?_) (fun c19 => ?_)
    · have hf := fm_ig c19 hf
      refine lv_aload_n hx hb d_X12_act_24 rfl (lv_at hl 0 rfl) ?_
      refine lv_aload_n hx hb d_X12_act_25 rfl (lv_at hl 0 rfl) ?_
      refine fm_rgr Z G F hf fr_X12_9 d_X12_act_26 (fun q26 _ hf => ?_)
      refine lv_bipush (v := 28) hx hb d_X12_act_29 (by decide) ?_
      refine lv_iload_n hx hb d_X12_act_31 rfl (lv_at hl 1 rfl) ?_
      refine lv_iadd hx hb d_X12_act_32 ?_
      refine fm_rld Z G F hf d_X12_act_33 (fun x33 _ hf => ?_)
      refine fm_rpi Z G F hf fs_X12_232 d_X12_act_34 (fun c h => by have h := eq_of_beq (show (c == 12) = true from h); subst h; rfl) (fun S34 H locs _ F hf => ?_)
      refine lv_aload_n hx hb d_X12_act_37 rfl (lv_at hl 0 rfl) ?_
      refine lv_iload_n hx hb d_X12_act_38 rfl (lv_at hl 1 rfl) ?_
      refine fm_rpi Z G F hf fs_X12_229 d_X12_act_39 (fun c h => by have h := eq_of_beq (show (c == 12) = true from h); subst h; rfl) (fun S39 H locs _ F hf => ?_)
      refine lv_aload_n hx hb d_X12_act_42 rfl (lv_at hl 0 rfl) ?_
      refine lv_aload_n hx hb d_X12_act_43 rfl (lv_at hl 0 rfl) ?_
      refine fm_rgr Z G F hf fr_X12_9 d_X12_act_44 (fun q44 _ hf => ?_)
      refine lv_bipush (v := 34) hx hb d_X12_act_47 (by decide) ?_
      refine lv_iload_n hx hb d_X12_act_49 rfl (lv_at hl 1 rfl) ?_
      refine lv_iadd hx hb d_X12_act_50 ?_
      refine fm_rld Z G F hf d_X12_act_51 (fun x51 _ hf => ?_)
      refine fm_rpi Z G F hf fs_X12_244 d_X12_act_52 (fun c h => by have h := eq_of_beq (show (c == 12) = true from h); subst h; rfl) (fun S52 H locs _ F hf => ?_)
      refine lv_iload_n hx hb d_X12_act_55 rfl (lv_at hl 2 rfl) ?_
      refine lv_if_ne (tgt := 67) hx hb d_X12_act_56 (by decide) (fun c56 => ?_) (fun c56 => ?_)
      · have hf := fm_ig c56 hf
        refine lv_iload_n hx hb d_X12_act_67 rfl (lv_at hl 2 rfl) ?_
        refine lv_iconst (v := 1) hx hb d_X12_act_68 (by decide) ?_
        refine lv_icmp_ne (tgt := 80) hx hb d_X12_act_69 (by decide) (fun c69 => ?_) (fun c69 => ?_)
        · have hf := fm_ig c69 hf
          refine lv_aload_n hx hb d_X12_act_80 rfl (lv_at hl 0 rfl) ?_
          refine lv_iload_n hx hb d_X12_act_81 rfl (lv_at hl 3 rfl) ?_
          obtain ⟨hk82, hf⟩ := fm_some hf
          refine fm_rci G F hf (fun r u ho => fm_runV (k := 1) Z G F N (As := [.int a3]) (rest := []) (c_X12_shinesActs hE ho _) (by rw [eq_of_beq hk82]; decide) (by rw [eq_of_beq hk82]; rfl) kw_1304 kw_1306 kp_67 kw_6 kw_1307 yd_X12_shinesActs rfl (by decide) (by decide) hl.1 (Nat.le_of_ble_eq_true rfl) d_X12_act_82 (Nat.le_refl 0) (Nat.le_refl 0)) (fun x82 S82 H locs _ F hf => ?_)
          exact fm_reti Z hr hlk F d_X12_act_85 (Prod.mk.inj (Option.some.inj hf)).1 (Prod.mk.inj (Option.some.inj hf)).2
        · have hf := fm_ip c69 hf
          refine lv_aload_n hx hb d_X12_act_72 rfl (lv_at hl 0 rfl) ?_
          refine lv_iload_n hx hb d_X12_act_73 rfl (lv_at hl 3 rfl) ?_
          obtain ⟨hk74, hf⟩ := fm_some hf
          refine fm_rci G F hf (fun r u ho => fm_runV (k := 1) Z G F N (As := [.int a3]) (rest := []) (c_X12_creaksActs hE ho _) (by rw [eq_of_beq hk74]; decide) (by rw [eq_of_beq hk74]; rfl) kw_1296 kw_1298 kp_65 kw_6 kw_1299 yd_X12_creaksActs rfl (by decide) (by decide) hl.1 (Nat.le_of_ble_eq_true rfl) d_X12_act_74 (Nat.le_refl 0) (Nat.le_refl 0)) (fun x74 S74 H locs _ F hf => ?_)
          refine lv_goto (tgt := 85) hx hb d_X12_act_77 (by decide) ?_
          exact fm_reti Z hr hlk F d_X12_act_85 (Prod.mk.inj (Option.some.inj hf)).1 (Prod.mk.inj (Option.some.inj hf)).2
      · have hf := fm_ip c56 hf
        refine lv_aload_n hx hb d_X12_act_59 rfl (lv_at hl 0 rfl) ?_
        refine lv_iload_n hx hb d_X12_act_60 rfl (lv_at hl 3 rfl) ?_
        obtain ⟨hk61, hf⟩ := fm_some hf
        refine fm_rci G F hf (fun r u ho => fm_runV (k := 1) Z G F N (As := [.int a3]) (rest := []) (c_X12_dripsActs hE ho _) (by rw [eq_of_beq hk61]; decide) (by rw [eq_of_beq hk61]; rfl) kw_1281 kw_1283 kp_62 kw_6 kw_1284 yd_X12_dripsActs rfl (by decide) (by decide) hl.1 (Nat.le_of_ble_eq_true rfl) d_X12_act_61 (Nat.le_refl 0) (Nat.le_refl 0)) (fun x61 S61 H locs _ F hf => ?_)
        refine lv_goto (tgt := 85) hx hb d_X12_act_64 (by decide) ?_
        exact fm_reti Z hr hlk F d_X12_act_85 (Prod.mk.inj (Option.some.inj hf)).1 (Prod.mk.inj (Option.some.inj hf)).2
    · have hf := fm_ip c19 hf
      refine lv_iconst (v := 0) hx hb d_X12_act_22 (by decide) ?_
      exact fm_reti Z hr hlk F d_X12_act_23 (Prod.mk.inj (Option.some.inj hf)).1 (Prod.mk.inj (Option.some.inj hf)).2
theorem d_X12_trace_0 : decode prog_14_method_79_code 0 = .ok (.iload_n 1, 1) := by decide +kernel
theorem d_X12_trace_1 : decode prog_14_method_79_code 1 = .ok (.iconst 0, 1) := by decide +kernel
theorem d_X12_trace_2 : decode prog_14_method_79_code 2 = .ok (.aload_n 0, 1) := by decide +kernel
theorem d_X12_trace_3 : decode prog_14_method_79_code 3 = .ok (.getfield 223, 3) := by decide +kernel
theorem d_X12_trace_6 : decode prog_14_method_79_code 6 = .ok (.bipush 20, 2) := by decide +kernel
theorem d_X12_trace_8 : decode prog_14_method_79_code 8 = .ok (.if_icmp .ge 10, 3) := by decide +kernel
theorem d_X12_trace_11 : decode prog_14_method_79_code 11 = .ok (.aload_n 0, 1) := by decide +kernel
theorem d_X12_trace_12 : decode prog_14_method_79_code 12 = .ok (.getfield 223, 3) := by decide +kernel
theorem d_X12_trace_15 : decode prog_14_method_79_code 15 = .ok (.goto 5, 3) := by decide +kernel
theorem d_X12_trace_18 : decode prog_14_method_79_code 18 = .ok (.bipush 20, 2) := by decide +kernel
theorem d_X12_trace_20 : decode prog_14_method_79_code 20 = .ok (.iconst 1, 1) := by decide +kernel
theorem d_X12_trace_21 : decode prog_14_method_79_code 21 = .ok (.isub, 1) := by decide +kernel
theorem d_X12_trace_22 : decode prog_14_method_79_code 22 = .ok (.invokestatic 44, 3) := by decide +kernel
theorem d_X12_trace_25 : decode prog_14_method_79_code 25 = .ok (.ifCond .eq 12, 3) := by decide +kernel
theorem d_X12_trace_28 : decode prog_14_method_79_code 28 = .ok (.aload_n 0, 1) := by decide +kernel
theorem d_X12_trace_29 : decode prog_14_method_79_code 29 = .ok (.getfield 37, 3) := by decide +kernel
theorem d_X12_trace_32 : decode prog_14_method_79_code 32 = .ok (.iload_n 1, 1) := by decide +kernel
theorem d_X12_trace_33 : decode prog_14_method_79_code 33 = .ok (.iaload, 1) := by decide +kernel
theorem d_X12_trace_34 : decode prog_14_method_79_code 34 = .ok (.goto 4, 3) := by decide +kernel
theorem d_X12_trace_37 : decode prog_14_method_79_code 37 = .ok (.iconst (-1), 1) := by decide +kernel
theorem d_X12_trace_38 : decode prog_14_method_79_code 38 = .ok (.ireturn, 1) := by decide +kernel
def m_X12_trace (kap lam : Nat → Nat) (r0 : Nat) (a1 : Int32) (S : fm_M) : Option Int32 :=
  fm_gi kap 12 r0 17 S fun x3 =>
  if 20 ≤ x3 then (
   fm_b1 (m_X12_in kap lam a1 0 (20 - 1) S) fun x22 =>
   if x22 = 0 then (
    some (-1)
   ) else (
    fm_gr kap 12 r0 16 S fun q29 =>
    fm_ld kap lam 13 q29 a1 S fun x33 =>
    some x33
   )
  ) else (
   fm_gi kap 12 r0 17 S fun x12 =>
   fm_b1 (m_X12_in kap lam a1 0 (x12 - 1) S) fun x22 =>
   if x22 = 0 then (
    some (-1)
   ) else (
    fm_gr kap 12 r0 16 S fun q29 =>
    fm_ld kap lam 13 q29 a1 S fun x33 =>
    some x33
   )
  )
set_option maxHeartbeats 4000000 in
set_option maxRecDepth 100000 in
theorem c_X12_trace {l : Launch} {D : va_G} {ids kap lam : Nat → Nat} {RL : List Nat} {ad sk sv : Nat → Nat} {S : fm_M} {r0 : Nat} {a1 : Int32} {r : Int32} (hE : fm_E kap RL ad) (hf : m_X12_trace kap lam r0 a1 S = some r) (sz : Nat) : fm_MI l y_X12_trace prog_14_method_79_code 2 (Option.some Jvm.ClassFile.FieldType.int) 1 D ids kap lam RL ad sk sv S [.ref (ad r0), .int a1] sz r S := by
  refine fm_open rfl hE (Nat.le_of_ble_eq_true rfl) (fun p e s m args below meth c ls Z hr hlk G F N hl hsz => ?_)
  subst hsz
  obtain ⟨hx, hb, hml, hown, hts⟩ := id Z
  have hl : lv_has ls 2 [(0, .ref (ad r0)), (1, .int a1)] := hl
  unfold m_X12_trace at hf
  refine lv_iload_n hx hb d_X12_trace_0 rfl (lv_at hl 1 rfl) ?_
  refine lv_iconst (v := 0) hx hb d_X12_trace_1 (by decide) ?_
  refine lv_aload_n hx hb d_X12_trace_2 rfl (lv_at hl 0 rfl) ?_
  refine fm_rgi Z G F hf fr_X12_223 d_X12_trace_3 (fun x3 _ hf => ?_)
  refine lv_bipush (v := 20) hx hb d_X12_trace_6 (by decide) ?_
  refine lv_icmp_ge (tgt := 18) hx hb d_X12_trace_8 (by decide) (fun c8 => ?_) (fun c8 => ?_)
  · have hf := fm_ip c8 hf
    refine lv_bipush (v := 20) hx hb d_X12_trace_18 (by decide) ?_
    refine lv_iconst (v := 1) hx hb d_X12_trace_20 (by decide) ?_
    refine lv_isub hx hb d_X12_trace_21 ?_
    refine fm_rcr G F hf (fun r ho => fm_runS (k := 3) Z G F N (As := [.int a1, .int 0, .int (20 - 1)]) (rest := []) (c_X12_in hE ho _) kw_1004 kw_1005 kw_6 kw_1006 yd_X12_in rfl (by decide) (by decide) hl.1 (Nat.le_of_ble_eq_true rfl) d_X12_trace_22 (Nat.le_refl 0) (Nat.le_refl 0)) (fun x22 H locs _ F hf => ?_)
    refine lv_if_eq (tgt := 37) hx hb d_X12_trace_25 (by decide) (fun c25 => ?_) (fun c25 => ?_)
    · have hf := fm_ip c25 hf
      refine lv_iconst (v := (-1)) hx hb d_X12_trace_37 (by decide) ?_
      exact fm_reti Z hr hlk F d_X12_trace_38 (Option.some.inj hf) rfl
    · have hf := fm_ig c25 hf
      refine lv_aload_n hx hb d_X12_trace_28 rfl (lv_at hl 0 rfl) ?_
      refine fm_rgr Z G F hf fr_X12_37 d_X12_trace_29 (fun q29 _ hf => ?_)
      refine lv_iload_n hx hb d_X12_trace_32 rfl (lv_at hl 1 rfl) ?_
      refine fm_rld Z G F hf d_X12_trace_33 (fun x33 _ hf => ?_)
      refine lv_goto (tgt := 38) hx hb d_X12_trace_34 (by decide) ?_
      exact fm_reti Z hr hlk F d_X12_trace_38 (Option.some.inj hf) rfl
  · have hf := fm_ig c8 hf
    refine lv_aload_n hx hb d_X12_trace_11 rfl (lv_at hl 0 rfl) ?_
    refine fm_rgi Z G F hf fr_X12_223 d_X12_trace_12 (fun x12 _ hf => ?_)
    refine lv_goto (tgt := 20) hx hb d_X12_trace_15 (by decide) ?_
    refine lv_iconst (v := 1) hx hb d_X12_trace_20 (by decide) ?_
    refine lv_isub hx hb d_X12_trace_21 ?_
    refine fm_rcr G F hf (fun r ho => fm_runS (k := 3) Z G F N (As := [.int a1, .int 0, .int (x12 - 1)]) (rest := []) (c_X12_in hE ho _) kw_1004 kw_1005 kw_6 kw_1006 yd_X12_in rfl (by decide) (by decide) hl.1 (Nat.le_of_ble_eq_true rfl) d_X12_trace_22 (Nat.le_refl 0) (Nat.le_refl 0)) (fun x22 H locs _ F hf => ?_)
    refine lv_if_eq (tgt := 37) hx hb d_X12_trace_25 (by decide) (fun c25 => ?_) (fun c25 => ?_)
    · have hf := fm_ip c25 hf
      refine lv_iconst (v := (-1)) hx hb d_X12_trace_37 (by decide) ?_
      exact fm_reti Z hr hlk F d_X12_trace_38 (Option.some.inj hf) rfl
    · have hf := fm_ig c25 hf
      refine lv_aload_n hx hb d_X12_trace_28 rfl (lv_at hl 0 rfl) ?_
      refine fm_rgr Z G F hf fr_X12_37 d_X12_trace_29 (fun q29 _ hf => ?_)
      refine lv_iload_n hx hb d_X12_trace_32 rfl (lv_at hl 1 rfl) ?_
      refine fm_rld Z G F hf d_X12_trace_33 (fun x33 _ hf => ?_)
      refine lv_goto (tgt := 38) hx hb d_X12_trace_34 (by decide) ?_
      exact fm_reti Z hr hlk F d_X12_trace_38 (Option.some.inj hf) rfl
theorem d_X12_as_0 : decode prog_14_method_80_code 0 = .ok (.aload_n 0, 1) := by decide +kernel
theorem d_X12_as_1 : decode prog_14_method_80_code 1 = .ok (.iload_n 1, 1) := by decide +kernel
theorem d_X12_as_2 : decode prog_14_method_80_code 2 = .ok (.invokevirtual 140, 3) := by decide +kernel
theorem d_X12_as_5 : decode prog_14_method_80_code 5 = .ok (.ifCond .eq 13, 3) := by decide +kernel
theorem d_X12_as_8 : decode prog_14_method_80_code 8 = .ok (.iload_n 2, 1) := by decide +kernel
theorem d_X12_as_9 : decode prog_14_method_80_code 9 = .ok (.iconst 0, 1) := by decide +kernel
theorem d_X12_as_10 : decode prog_14_method_80_code 10 = .ok (.bipush 6, 2) := by decide +kernel
theorem d_X12_as_12 : decode prog_14_method_80_code 12 = .ok (.invokestatic 44, 3) := by decide +kernel
theorem d_X12_as_15 : decode prog_14_method_80_code 15 = .ok (.ifCond .ne 5, 3) := by decide +kernel
theorem d_X12_as_18 : decode prog_14_method_80_code 18 = .ok (.iconst (-1), 1) := by decide +kernel
theorem d_X12_as_19 : decode prog_14_method_80_code 19 = .ok (.ireturn, 1) := by decide +kernel
theorem d_X12_as_20 : decode prog_14_method_80_code 20 = .ok (.aload_n 0, 1) := by decide +kernel
theorem d_X12_as_21 : decode prog_14_method_80_code 21 = .ok (.getfield 9, 3) := by decide +kernel
theorem d_X12_as_24 : decode prog_14_method_80_code 24 = .ok (.bipush 28, 2) := by decide +kernel
theorem d_X12_as_26 : decode prog_14_method_80_code 26 = .ok (.iload_n 1, 1) := by decide +kernel
theorem d_X12_as_27 : decode prog_14_method_80_code 27 = .ok (.iadd, 1) := by decide +kernel
theorem d_X12_as_28 : decode prog_14_method_80_code 28 = .ok (.iaload, 1) := by decide +kernel
theorem d_X12_as_29 : decode prog_14_method_80_code 29 = .ok (.iload_n 2, 1) := by decide +kernel
theorem d_X12_as_30 : decode prog_14_method_80_code 30 = .ok (.invokestatic 235, 3) := by decide +kernel
theorem d_X12_as_33 : decode prog_14_method_80_code 33 = .ok (.ifCond .eq 15, 3) := by decide +kernel
theorem d_X12_as_36 : decode prog_14_method_80_code 36 = .ok (.aload_n 0, 1) := by decide +kernel
theorem d_X12_as_37 : decode prog_14_method_80_code 37 = .ok (.getfield 9, 3) := by decide +kernel
theorem d_X12_as_40 : decode prog_14_method_80_code 40 = .ok (.bipush 34, 2) := by decide +kernel
theorem d_X12_as_42 : decode prog_14_method_80_code 42 = .ok (.iload_n 1, 1) := by decide +kernel
theorem d_X12_as_43 : decode prog_14_method_80_code 43 = .ok (.iadd, 1) := by decide +kernel
theorem d_X12_as_44 : decode prog_14_method_80_code 44 = .ok (.iaload, 1) := by decide +kernel
theorem d_X12_as_45 : decode prog_14_method_80_code 45 = .ok (.goto 5, 3) := by decide +kernel
theorem d_X12_as_48 : decode prog_14_method_80_code 48 = .ok (.bipush (-6), 2) := by decide +kernel
theorem d_X12_as_50 : decode prog_14_method_80_code 50 = .ok (.ireturn, 1) := by decide +kernel
def m_X12_as (kap lam : Nat → Nat) (r0 : Nat) (a1 : Int32) (a2 : Int32) (S : fm_M) : Option Int32 :=
  fm_ck (kap r0 == 12) <|
  fm_b1 (m_X12_isPane kap lam r0 a1 S) fun x2 =>
  if x2 = 0 then (
   some (-1)
  ) else (
   fm_b1 (m_X12_in kap lam a2 0 6 S) fun x12 =>
   if x12 = 0 then (
    some (-1)
   ) else (
    fm_gr kap 12 r0 1 S fun q21 =>
    fm_ld kap lam 13 q21 (28 + a1) S fun x28 =>
    fm_b1 (m_X12_isUnder kap lam x28 a2 S) fun x30 =>
    if x30 = 0 then (
     some (-6)
    ) else (
     fm_gr kap 12 r0 1 S fun q37 =>
     fm_ld kap lam 13 q37 (34 + a1) S fun x44 =>
     some x44
    )
   )
  )
set_option maxHeartbeats 4000000 in
set_option maxRecDepth 100000 in
theorem c_X12_as {l : Launch} {D : va_G} {ids kap lam : Nat → Nat} {RL : List Nat} {ad sk sv : Nat → Nat} {S : fm_M} {r0 : Nat} {a1 : Int32} {a2 : Int32} {r : Int32} (hE : fm_E kap RL ad) (hf : m_X12_as kap lam r0 a1 a2 S = some r) (sz : Nat) : fm_MI l y_X12_as prog_14_method_80_code 3 (Option.some Jvm.ClassFile.FieldType.int) 2 D ids kap lam RL ad sk sv S [.ref (ad r0), .int a1, .int a2] sz r S := by
  refine fm_open rfl hE (Nat.le_of_ble_eq_true rfl) (fun p e s m args below meth c ls Z hr hlk G F N hl hsz => ?_)
  subst hsz
  obtain ⟨hx, hb, hml, hown, hts⟩ := id Z
  have hl : lv_has ls 3 [(0, .ref (ad r0)), (1, .int a1), (2, .int a2)] := hl
  unfold m_X12_as at hf
  refine lv_aload_n hx hb d_X12_as_0 rfl (lv_at hl 0 rfl) ?_
  refine lv_iload_n hx hb d_X12_as_1 rfl (lv_at hl 1 rfl) ?_
  obtain ⟨hk2, hf⟩ := fm_some hf
  refine fm_rcr G F hf (fun r ho => fm_runV (k := 1) Z G F N (As := [.int a1]) (rest := []) (c_X12_isPane hE ho _) (by rw [eq_of_beq hk2]; decide) (by rw [eq_of_beq hk2]; rfl) kw_1075 kw_1077 kp_37 kw_6 kw_1078 yd_X12_isPane rfl (by decide) (by decide) hl.1 (Nat.le_of_ble_eq_true rfl) d_X12_as_2 (Nat.le_refl 0) (Nat.le_refl 0)) (fun x2 H locs _ F hf => ?_)
  refine lv_if_eq (tgt := 18) hx hb d_X12_as_5 (by decide) (fun c5 => ?_) (fun c5 => ?_)
  · have hf := fm_ip c5 hf
    refine lv_iconst (v := (-1)) hx hb d_X12_as_18 (by decide) ?_
    exact fm_reti Z hr hlk F d_X12_as_19 (Option.some.inj hf) rfl
  · have hf := fm_ig c5 hf
    refine lv_iload_n hx hb d_X12_as_8 rfl (lv_at hl 2 rfl) ?_
    refine lv_iconst (v := 0) hx hb d_X12_as_9 (by decide) ?_
    refine lv_bipush (v := 6) hx hb d_X12_as_10 (by decide) ?_
    refine fm_rcr G F hf (fun r ho => fm_runS (k := 3) Z G F N (As := [.int a2, .int 0, .int 6]) (rest := []) (c_X12_in hE ho _) kw_1004 kw_1005 kw_6 kw_1006 yd_X12_in rfl (by decide) (by decide) hl.1 (Nat.le_of_ble_eq_true rfl) d_X12_as_12 (Nat.le_refl 0) (Nat.le_refl 0)) (fun x12 H locs _ F hf => ?_)
    refine lv_if_ne (tgt := 20) hx hb d_X12_as_15 (by decide) (fun c15 => ?_) (fun c15 => ?_)
    · have hf := fm_ig c15 hf
      refine lv_aload_n hx hb d_X12_as_20 rfl (lv_at hl 0 rfl) ?_
      refine fm_rgr Z G F hf fr_X12_9 d_X12_as_21 (fun q21 _ hf => ?_)
      refine lv_bipush (v := 28) hx hb d_X12_as_24 (by decide) ?_
      refine lv_iload_n hx hb d_X12_as_26 rfl (lv_at hl 1 rfl) ?_
      refine lv_iadd hx hb d_X12_as_27 ?_
      refine fm_rld Z G F hf d_X12_as_28 (fun x28 _ hf => ?_)
      refine lv_iload_n hx hb d_X12_as_29 rfl (lv_at hl 2 rfl) ?_
      refine fm_rcr G F hf (fun r ho => fm_runS (k := 2) Z G F N (As := [.int x28, .int a2]) (rest := []) (c_X12_isUnder hE ho _) kw_1285 kw_1286 kw_6 kw_1287 yd_X12_isUnder rfl (by decide) (by decide) hl.1 (Nat.le_of_ble_eq_true rfl) d_X12_as_30 (Nat.le_refl 0) (Nat.le_refl 0)) (fun x30 H locs _ F hf => ?_)
      refine lv_if_eq (tgt := 48) hx hb d_X12_as_33 (by decide) (fun c33 => ?_) (fun c33 => ?_)
      · have hf := fm_ip c33 hf
        refine lv_bipush (v := (-6)) hx hb d_X12_as_48 (by decide) ?_
        exact fm_reti Z hr hlk F d_X12_as_50 (Option.some.inj hf) rfl
      · have hf := fm_ig c33 hf
        refine lv_aload_n hx hb d_X12_as_36 rfl (lv_at hl 0 rfl) ?_
        refine fm_rgr Z G F hf fr_X12_9 d_X12_as_37 (fun q37 _ hf => ?_)
        refine lv_bipush (v := 34) hx hb d_X12_as_40 (by decide) ?_
        refine lv_iload_n hx hb d_X12_as_42 rfl (lv_at hl 1 rfl) ?_
        refine lv_iadd hx hb d_X12_as_43 ?_
        refine fm_rld Z G F hf d_X12_as_44 (fun x44 _ hf => ?_)
        refine lv_goto (tgt := 50) hx hb d_X12_as_45 (by decide) ?_
        exact fm_reti Z hr hlk F d_X12_as_50 (Option.some.inj hf) rfl
    · have hf := fm_ip c15 hf
      refine lv_iconst (v := (-1)) hx hb d_X12_as_18 (by decide) ?_
      exact fm_reti Z hr hlk F d_X12_as_19 (Option.some.inj hf) rfl
theorem d_X12_image_0 : decode prog_14_method_81_code 0 = .ok (.iconst 0, 1) := by decide +kernel
theorem d_X12_image_1 : decode prog_14_method_81_code 1 = .ok (.istore_n 1, 1) := by decide +kernel
theorem d_X12_image_2 : decode prog_14_method_81_code 2 = .ok (.iload_n 1, 1) := by decide +kernel
theorem d_X12_image_3 : decode prog_14_method_81_code 3 = .ok (.sipush 926, 3) := by decide +kernel
theorem d_X12_image_6 : decode prog_14_method_81_code 6 = .ok (.if_icmp .ge 21, 3) := by decide +kernel
theorem d_X12_image_9 : decode prog_14_method_81_code 9 = .ok (.aload_n 0, 1) := by decide +kernel
theorem d_X12_image_10 : decode prog_14_method_81_code 10 = .ok (.getfield 15, 3) := by decide +kernel
theorem d_X12_image_13 : decode prog_14_method_81_code 13 = .ok (.iload_n 1, 1) := by decide +kernel
theorem d_X12_image_14 : decode prog_14_method_81_code 14 = .ok (.aload_n 0, 1) := by decide +kernel
theorem d_X12_image_15 : decode prog_14_method_81_code 15 = .ok (.getfield 9, 3) := by decide +kernel
theorem d_X12_image_18 : decode prog_14_method_81_code 18 = .ok (.iload_n 1, 1) := by decide +kernel
theorem d_X12_image_19 : decode prog_14_method_81_code 19 = .ok (.iaload, 1) := by decide +kernel
theorem d_X12_image_20 : decode prog_14_method_81_code 20 = .ok (.iastore, 1) := by decide +kernel
theorem d_X12_image_21 : decode prog_14_method_81_code 21 = .ok (.iinc 1 1, 3) := by decide +kernel
theorem d_X12_image_24 : decode prog_14_method_81_code 24 = .ok (.goto (-22), 3) := by decide +kernel
theorem d_X12_image_27 : decode prog_14_method_81_code 27 = .ok (.aload_n 0, 1) := by decide +kernel
theorem d_X12_image_28 : decode prog_14_method_81_code 28 = .ok (.iconst 1, 1) := by decide +kernel
theorem d_X12_image_29 : decode prog_14_method_81_code 29 = .ok (.putfield 259, 3) := by decide +kernel
theorem d_X12_image_32 : decode prog_14_method_81_code 32 = .ok (.aload_n 0, 1) := by decide +kernel
theorem d_X12_image_33 : decode prog_14_method_81_code 33 = .ok (.getfield 9, 3) := by decide +kernel
theorem d_X12_image_36 : decode prog_14_method_81_code 36 = .ok (.bipush 21, 2) := by decide +kernel
theorem d_X12_image_38 : decode prog_14_method_81_code 38 = .ok (.iaload, 1) := by decide +kernel
theorem d_X12_image_39 : decode prog_14_method_81_code 39 = .ok (.ireturn, 1) := by decide +kernel
def k_X12_image_2 (kap lam : Nat → Nat) (go2 : Nat → Int32 → fm_M → Option (Int32 × fm_M)) (r0 : Nat) (a1 : Int32)  (S : fm_M) : Option (Int32 × fm_M) :=
  if 926 ≤ a1 then (
   fm_pz kap 12 r0 4 S 1 fun S29 =>
   fm_gr kap 12 r0 1 S29 fun q33 =>
   fm_ld kap lam 13 q33 21 S29 fun x38 =>
   some (x38, S29)
  ) else (
   fm_gr kap 12 r0 2 S fun q10 =>
   fm_gr kap 12 r0 1 S fun q15 =>
   fm_ld kap lam 13 q15 a1 S fun x19 =>
   fm_st kap lam q10 a1 x19 S fun S20 =>
   fm_let (a1 + 1 : Int32) fun x21 =>
   go2 r0 x21 S20
  )
def b_X12_image_2 (kap lam : Nat → Nat) : Nat → Nat → Int32 → fm_M → Option (Int32 × fm_M)
  | 0 => fun _ _ _ => none
  | n + 1 => k_X12_image_2 kap lam (b_X12_image_2 kap lam n)
def m_X12_image (kap lam : Nat → Nat) (r0 : Nat) (S : fm_M) : Option (Int32 × fm_M) :=
  fm_let (0 : Int32) fun x1 =>
  b_X12_image_2 kap lam fm_LF r0 x1 S
set_option maxHeartbeats 4000000 in
set_option maxRecDepth 100000 in
theorem c_X12_image {l : Launch} {D : va_G} {ids kap lam : Nat → Nat} {RL : List Nat} {ad sk sv : Nat → Nat} {S : fm_M} {r0 : Nat} {r : Int32} {u : fm_M} (hE : fm_E kap RL ad) (hf : m_X12_image kap lam r0 S = some (r, u)) (sz : Nat) : fm_MI l y_X12_image prog_14_method_81_code 2 (Option.some Jvm.ClassFile.FieldType.int) 0 D ids kap lam RL ad sk sv S [.ref (ad r0)] sz r u := by
  refine fm_open rfl hE (Nat.le_of_ble_eq_true rfl) (fun p e s m args below meth c ls Z hr hlk G F N hl hsz => ?_)
  subst hsz
  obtain ⟨hx, hb, hml, hown, hts⟩ := id Z
  have hl : lv_has ls 2 [(0, .ref (ad r0))] := hl
  generalize hQ : MQ below _ args s 0 0 (fm_A RL ad s.heap.size) = Qf
  have hL : ∀ n : Nat, (∀ (r0 : Nat) (a1 : Int32)  (S : fm_M) (H : Heap) (locs : List Loc) (ls : Array Slot), fm_F D ids kap lam RL ad S (fm_A RL ad s.heap.size) s.heap H locs → lv_has ls 2 [(0, .ref (ad r0)), (1, .int a1)] → b_X12_image_2 kap lam n r0 a1 S = some (r, u) → W p l e (fm_rm 0) s m args below meth c H locs 0 0 Qf (F0 m 2 ls [])) := by
    intro n
    induction n with
    | zero => exact fun _ _ _ _ _ _ _ _ hf => absurd hf (by intro h; cases h)
    | succ n ih =>
      intro r0 a1 S H locs ls F hl hf
      have hf : k_X12_image_2 kap lam (b_X12_image_2 kap lam n) r0 a1 S = some (r, u) := hf
      unfold k_X12_image_2 at hf
      refine lv_iload_n hx hb d_X12_image_2 rfl (lv_at hl 1 rfl) ?_
      refine lv_sipush (v := 926) hx hb d_X12_image_3 (by decide) ?_
      refine lv_icmp_ge (tgt := 27) hx hb d_X12_image_6 (by decide) (fun c6 => ?_) (fun c6 => ?_)
      · have hf := fm_ip c6 hf
        refine lv_aload_n hx hb d_X12_image_27 rfl (lv_at hl 0 rfl) ?_
        refine lv_iconst (v := 1) hx hb d_X12_image_28 (by decide) ?_
        refine fm_rpz Z G F hf fs_X12_259 d_X12_image_29 (fun c h => by have h := eq_of_beq (show (c == 12) = true from h); subst h; rfl) (fun S29 H locs _ F hf => ?_)
        refine lv_aload_n hx hb d_X12_image_32 rfl (lv_at hl 0 rfl) ?_
        refine fm_rgr Z G F hf fr_X12_9 d_X12_image_33 (fun q33 _ hf => ?_)
        refine lv_bipush (v := 21) hx hb d_X12_image_36 (by decide) ?_
        refine fm_rld Z G F hf d_X12_image_38 (fun x38 _ hf => ?_)
        rw [← hQ]; exact fm_reti Z hr hlk F d_X12_image_39 (Prod.mk.inj (Option.some.inj hf)).1 (Prod.mk.inj (Option.some.inj hf)).2
      · have hf := fm_ig c6 hf
        refine lv_aload_n hx hb d_X12_image_9 rfl (lv_at hl 0 rfl) ?_
        refine fm_rgr Z G F hf fr_X12_15 d_X12_image_10 (fun q10 _ hf => ?_)
        refine lv_iload_n hx hb d_X12_image_13 rfl (lv_at hl 1 rfl) ?_
        refine lv_aload_n hx hb d_X12_image_14 rfl (lv_at hl 0 rfl) ?_
        refine fm_rgr Z G F hf fr_X12_9 d_X12_image_15 (fun q15 _ hf => ?_)
        refine lv_iload_n hx hb d_X12_image_18 rfl (lv_at hl 1 rfl) ?_
        refine fm_rld Z G F hf d_X12_image_19 (fun x19 _ hf => ?_)
        refine fm_rst Z G F hf d_X12_image_20 (fun S20 H locs _ F hf => ?_)
        obtain ⟨x21, ex21⟩ : ∃ y : Int32, y = a1 + 1 := ⟨_, rfl⟩
        have hf := fm_let_at ex21 hf
        refine lv_iinc (v := x21) (lv' := [(1, .int x21), (0, .ref (ad r0))]) hx hb d_X12_image_21 hl (k := 1) rfl (by rw [ex21]; rfl) (by decide) rfl (fun ls hl => ?_)
        refine lv_goto (tgt := 2) hx hb d_X12_image_24 (by decide) ?_
        exact ih r0 x21 S20 _ _ _ F (lv_sub hl [1, 0] rfl) hf
  unfold m_X12_image at hf
  refine lv_iconst (v := 0) hx hb d_X12_image_0 (by decide) ?_
  refine lv_topi (fun x1 ex1 => ?_)
  have hf := fm_let_at ex1 hf
  refine lv_istore_n (lv' := [(1, .int x1), (0, .ref (ad r0))]) hx hb d_X12_image_1 rfl hl (by decide) rfl (fun ls hl => ?_)
  exact (hL fm_LF) r0 x1 S _ _ _ F (lv_sub hl [1, 0] rfl) hf
theorem d_X12_undo_0 : decode prog_14_method_82_code 0 = .ok (.aload_n 0, 1) := by decide +kernel
theorem d_X12_undo_1 : decode prog_14_method_82_code 1 = .ok (.getfield 259, 3) := by decide +kernel
theorem d_X12_undo_4 : decode prog_14_method_82_code 4 = .ok (.ifCond .ne 6, 3) := by decide +kernel
theorem d_X12_undo_7 : decode prog_14_method_82_code 7 = .ok (.bipush (-3), 2) := by decide +kernel
theorem d_X12_undo_9 : decode prog_14_method_82_code 9 = .ok (.ireturn, 1) := by decide +kernel
theorem d_X12_undo_10 : decode prog_14_method_82_code 10 = .ok (.iconst 0, 1) := by decide +kernel
theorem d_X12_undo_11 : decode prog_14_method_82_code 11 = .ok (.istore_n 1, 1) := by decide +kernel
theorem d_X12_undo_12 : decode prog_14_method_82_code 12 = .ok (.iload_n 1, 1) := by decide +kernel
theorem d_X12_undo_13 : decode prog_14_method_82_code 13 = .ok (.sipush 926, 3) := by decide +kernel
theorem d_X12_undo_16 : decode prog_14_method_82_code 16 = .ok (.if_icmp .ge 21, 3) := by decide +kernel
theorem d_X12_undo_19 : decode prog_14_method_82_code 19 = .ok (.aload_n 0, 1) := by decide +kernel
theorem d_X12_undo_20 : decode prog_14_method_82_code 20 = .ok (.getfield 9, 3) := by decide +kernel
theorem d_X12_undo_23 : decode prog_14_method_82_code 23 = .ok (.iload_n 1, 1) := by decide +kernel
theorem d_X12_undo_24 : decode prog_14_method_82_code 24 = .ok (.aload_n 0, 1) := by decide +kernel
theorem d_X12_undo_25 : decode prog_14_method_82_code 25 = .ok (.getfield 15, 3) := by decide +kernel
theorem d_X12_undo_28 : decode prog_14_method_82_code 28 = .ok (.iload_n 1, 1) := by decide +kernel
theorem d_X12_undo_29 : decode prog_14_method_82_code 29 = .ok (.iaload, 1) := by decide +kernel
theorem d_X12_undo_30 : decode prog_14_method_82_code 30 = .ok (.iastore, 1) := by decide +kernel
theorem d_X12_undo_31 : decode prog_14_method_82_code 31 = .ok (.iinc 1 1, 3) := by decide +kernel
theorem d_X12_undo_34 : decode prog_14_method_82_code 34 = .ok (.goto (-22), 3) := by decide +kernel
theorem d_X12_undo_37 : decode prog_14_method_82_code 37 = .ok (.aload_n 0, 1) := by decide +kernel
theorem d_X12_undo_38 : decode prog_14_method_82_code 38 = .ok (.getfield 9, 3) := by decide +kernel
theorem d_X12_undo_41 : decode prog_14_method_82_code 41 = .ok (.bipush 21, 2) := by decide +kernel
theorem d_X12_undo_43 : decode prog_14_method_82_code 43 = .ok (.iaload, 1) := by decide +kernel
theorem d_X12_undo_44 : decode prog_14_method_82_code 44 = .ok (.ireturn, 1) := by decide +kernel
def k_X12_undo_12 (kap lam : Nat → Nat) (go12 : Nat → Int32 → fm_M → Option (Int32 × fm_M)) (r0 : Nat) (a1 : Int32)  (S : fm_M) : Option (Int32 × fm_M) :=
  if 926 ≤ a1 then (
   fm_gr kap 12 r0 1 S fun q38 =>
   fm_ld kap lam 13 q38 21 S fun x43 =>
   some (x43, S)
  ) else (
   fm_gr kap 12 r0 1 S fun q20 =>
   fm_gr kap 12 r0 2 S fun q25 =>
   fm_ld kap lam 13 q25 a1 S fun x29 =>
   fm_st kap lam q20 a1 x29 S fun S30 =>
   fm_let (a1 + 1 : Int32) fun x31 =>
   go12 r0 x31 S30
  )
def b_X12_undo_12 (kap lam : Nat → Nat) : Nat → Nat → Int32 → fm_M → Option (Int32 × fm_M)
  | 0 => fun _ _ _ => none
  | n + 1 => k_X12_undo_12 kap lam (b_X12_undo_12 kap lam n)
def m_X12_undo (kap lam : Nat → Nat) (r0 : Nat) (S : fm_M) : Option (Int32 × fm_M) :=
  fm_gi kap 12 r0 4 S fun x1 =>
  if x1 = 0 then (
   some ((-3), S)
  ) else (
   fm_let (0 : Int32) fun x11 =>
   b_X12_undo_12 kap lam fm_LF r0 x11 S
  )
set_option maxHeartbeats 4000000 in
set_option maxRecDepth 100000 in
theorem c_X12_undo {l : Launch} {D : va_G} {ids kap lam : Nat → Nat} {RL : List Nat} {ad sk sv : Nat → Nat} {S : fm_M} {r0 : Nat} {r : Int32} {u : fm_M} (hE : fm_E kap RL ad) (hf : m_X12_undo kap lam r0 S = some (r, u)) (sz : Nat) : fm_MI l y_X12_undo prog_14_method_82_code 2 (Option.some Jvm.ClassFile.FieldType.int) 0 D ids kap lam RL ad sk sv S [.ref (ad r0)] sz r u := by
  refine fm_open rfl hE (Nat.le_of_ble_eq_true rfl) (fun p e s m args below meth c ls Z hr hlk G F N hl hsz => ?_)
  subst hsz
  obtain ⟨hx, hb, hml, hown, hts⟩ := id Z
  have hl : lv_has ls 2 [(0, .ref (ad r0))] := hl
  generalize hQ : MQ below _ args s 0 0 (fm_A RL ad s.heap.size) = Qf
  have hL : ∀ n : Nat, (∀ (r0 : Nat) (a1 : Int32)  (S : fm_M) (H : Heap) (locs : List Loc) (ls : Array Slot), fm_F D ids kap lam RL ad S (fm_A RL ad s.heap.size) s.heap H locs → lv_has ls 2 [(0, .ref (ad r0)), (1, .int a1)] → b_X12_undo_12 kap lam n r0 a1 S = some (r, u) → W p l e (fm_rm 0) s m args below meth c H locs 0 0 Qf (F0 m 12 ls [])) := by
    intro n
    induction n with
    | zero => exact fun _ _ _ _ _ _ _ _ hf => absurd hf (by intro h; cases h)
    | succ n ih =>
      intro r0 a1 S H locs ls F hl hf
      have hf : k_X12_undo_12 kap lam (b_X12_undo_12 kap lam n) r0 a1 S = some (r, u) := hf
      unfold k_X12_undo_12 at hf
      refine lv_iload_n hx hb d_X12_undo_12 rfl (lv_at hl 1 rfl) ?_
      refine lv_sipush (v := 926) hx hb d_X12_undo_13 (by decide) ?_
      refine lv_icmp_ge (tgt := 37) hx hb d_X12_undo_16 (by decide) (fun c16 => ?_) (fun c16 => ?_)
      · have hf := fm_ip c16 hf
        refine lv_aload_n hx hb d_X12_undo_37 rfl (lv_at hl 0 rfl) ?_
        refine fm_rgr Z G F hf fr_X12_9 d_X12_undo_38 (fun q38 _ hf => ?_)
        refine lv_bipush (v := 21) hx hb d_X12_undo_41 (by decide) ?_
        refine fm_rld Z G F hf d_X12_undo_43 (fun x43 _ hf => ?_)
        rw [← hQ]; exact fm_reti Z hr hlk F d_X12_undo_44 (Prod.mk.inj (Option.some.inj hf)).1 (Prod.mk.inj (Option.some.inj hf)).2
      · have hf := fm_ig c16 hf
        refine lv_aload_n hx hb d_X12_undo_19 rfl (lv_at hl 0 rfl) ?_
        refine fm_rgr Z G F hf fr_X12_9 d_X12_undo_20 (fun q20 _ hf => ?_)
        refine lv_iload_n hx hb d_X12_undo_23 rfl (lv_at hl 1 rfl) ?_
        refine lv_aload_n hx hb d_X12_undo_24 rfl (lv_at hl 0 rfl) ?_
        refine fm_rgr Z G F hf fr_X12_15 d_X12_undo_25 (fun q25 _ hf => ?_)
        refine lv_iload_n hx hb d_X12_undo_28 rfl (lv_at hl 1 rfl) ?_
        refine fm_rld Z G F hf d_X12_undo_29 (fun x29 _ hf => ?_)
        refine fm_rst Z G F hf d_X12_undo_30 (fun S30 H locs _ F hf => ?_)
        obtain ⟨x31, ex31⟩ : ∃ y : Int32, y = a1 + 1 := ⟨_, rfl⟩
        have hf := fm_let_at ex31 hf
        refine lv_iinc (v := x31) (lv' := [(1, .int x31), (0, .ref (ad r0))]) hx hb d_X12_undo_31 hl (k := 1) rfl (by rw [ex31]; rfl) (by decide) rfl (fun ls hl => ?_)
        refine lv_goto (tgt := 12) hx hb d_X12_undo_34 (by decide) ?_
        exact ih r0 x31 S30 _ _ _ F (lv_sub hl [1, 0] rfl) hf
  unfold m_X12_undo at hf
  refine lv_aload_n hx hb d_X12_undo_0 rfl (lv_at hl 0 rfl) ?_
  refine fm_rgi Z G F hf fr_X12_259 d_X12_undo_1 (fun x1 _ hf => ?_)
  refine lv_if_ne (tgt := 10) hx hb d_X12_undo_4 (by decide) (fun c4 => ?_) (fun c4 => ?_)
  · have hf := fm_ig c4 hf
    refine lv_iconst (v := 0) hx hb d_X12_undo_10 (by decide) ?_
    refine lv_topi (fun x11 ex11 => ?_)
    have hf := fm_let_at ex11 hf
    refine lv_istore_n (lv' := [(1, .int x11), (0, .ref (ad r0))]) hx hb d_X12_undo_11 rfl hl (by decide) rfl (fun ls hl => ?_)
    exact (hL fm_LF) r0 x11 S _ _ _ F (lv_sub hl [1, 0] rfl) hf
  · have hf := fm_ip c4 hf
    refine lv_bipush (v := (-3)) hx hb d_X12_undo_7 (by decide) ?_
    rw [← hQ]; exact fm_reti Z hr hlk F d_X12_undo_9 (Prod.mk.inj (Option.some.inj hf)).1 (Prod.mk.inj (Option.some.inj hf)).2
theorem d_X12_count_0 : decode prog_14_method_83_code 0 = .ok (.iload_n 1, 1) := by decide +kernel
theorem d_X12_count_1 : decode prog_14_method_83_code 1 = .ok (.bipush 6, 2) := by decide +kernel
theorem d_X12_count_3 : decode prog_14_method_83_code 3 = .ok (.if_icmp .ne 10, 3) := by decide +kernel
theorem d_X12_count_6 : decode prog_14_method_83_code 6 = .ok (.aload_n 0, 1) := by decide +kernel
theorem d_X12_count_7 : decode prog_14_method_83_code 7 = .ok (.getfield 223, 3) := by decide +kernel
theorem d_X12_count_10 : decode prog_14_method_83_code 10 = .ok (.goto 25, 3) := by decide +kernel
theorem d_X12_count_13 : decode prog_14_method_83_code 13 = .ok (.iload_n 1, 1) := by decide +kernel
theorem d_X12_count_14 : decode prog_14_method_83_code 14 = .ok (.iconst 0, 1) := by decide +kernel
theorem d_X12_count_15 : decode prog_14_method_83_code 15 = .ok (.iconst 5, 1) := by decide +kernel
theorem d_X12_count_16 : decode prog_14_method_83_code 16 = .ok (.invokestatic 44, 3) := by decide +kernel
theorem d_X12_count_19 : decode prog_14_method_83_code 19 = .ok (.ifCond .eq 15, 3) := by decide +kernel
theorem d_X12_count_22 : decode prog_14_method_83_code 22 = .ok (.aload_n 0, 1) := by decide +kernel
theorem d_X12_count_23 : decode prog_14_method_83_code 23 = .ok (.getfield 9, 3) := by decide +kernel
theorem d_X12_count_26 : decode prog_14_method_83_code 26 = .ok (.bipush 21, 2) := by decide +kernel
theorem d_X12_count_28 : decode prog_14_method_83_code 28 = .ok (.iload_n 1, 1) := by decide +kernel
theorem d_X12_count_29 : decode prog_14_method_83_code 29 = .ok (.iadd, 1) := by decide +kernel
theorem d_X12_count_30 : decode prog_14_method_83_code 30 = .ok (.iaload, 1) := by decide +kernel
theorem d_X12_count_31 : decode prog_14_method_83_code 31 = .ok (.goto 4, 3) := by decide +kernel
theorem d_X12_count_34 : decode prog_14_method_83_code 34 = .ok (.iconst (-1), 1) := by decide +kernel
theorem d_X12_count_35 : decode prog_14_method_83_code 35 = .ok (.ireturn, 1) := by decide +kernel
def m_X12_count (kap lam : Nat → Nat) (r0 : Nat) (a1 : Int32) (S : fm_M) : Option Int32 :=
  if a1 = 6 then (
   fm_gi kap 12 r0 17 S fun x7 =>
   some x7
  ) else (
   fm_b1 (m_X12_in kap lam a1 0 5 S) fun x16 =>
   if x16 = 0 then (
    some (-1)
   ) else (
    fm_gr kap 12 r0 1 S fun q23 =>
    fm_ld kap lam 13 q23 (21 + a1) S fun x30 =>
    some x30
   )
  )
set_option maxHeartbeats 4000000 in
set_option maxRecDepth 100000 in
theorem c_X12_count {l : Launch} {D : va_G} {ids kap lam : Nat → Nat} {RL : List Nat} {ad sk sv : Nat → Nat} {S : fm_M} {r0 : Nat} {a1 : Int32} {r : Int32} (hE : fm_E kap RL ad) (hf : m_X12_count kap lam r0 a1 S = some r) (sz : Nat) : fm_MI l y_X12_count prog_14_method_83_code 2 (Option.some Jvm.ClassFile.FieldType.int) 1 D ids kap lam RL ad sk sv S [.ref (ad r0), .int a1] sz r S := by
  refine fm_open rfl hE (Nat.le_of_ble_eq_true rfl) (fun p e s m args below meth c ls Z hr hlk G F N hl hsz => ?_)
  subst hsz
  obtain ⟨hx, hb, hml, hown, hts⟩ := id Z
  have hl : lv_has ls 2 [(0, .ref (ad r0)), (1, .int a1)] := hl
  unfold m_X12_count at hf
  refine lv_iload_n hx hb d_X12_count_0 rfl (lv_at hl 1 rfl) ?_
  refine lv_bipush (v := 6) hx hb d_X12_count_1 (by decide) ?_
  refine lv_icmp_ne (tgt := 13) hx hb d_X12_count_3 (by decide) (fun c3 => ?_) (fun c3 => ?_)
  · have hf := fm_ig c3 hf
    refine lv_iload_n hx hb d_X12_count_13 rfl (lv_at hl 1 rfl) ?_
    refine lv_iconst (v := 0) hx hb d_X12_count_14 (by decide) ?_
    refine lv_iconst (v := 5) hx hb d_X12_count_15 (by decide) ?_
    refine fm_rcr G F hf (fun r ho => fm_runS (k := 3) Z G F N (As := [.int a1, .int 0, .int 5]) (rest := []) (c_X12_in hE ho _) kw_1004 kw_1005 kw_6 kw_1006 yd_X12_in rfl (by decide) (by decide) hl.1 (Nat.le_of_ble_eq_true rfl) d_X12_count_16 (Nat.le_refl 0) (Nat.le_refl 0)) (fun x16 H locs _ F hf => ?_)
    refine lv_if_eq (tgt := 34) hx hb d_X12_count_19 (by decide) (fun c19 => ?_) (fun c19 => ?_)
    · have hf := fm_ip c19 hf
      refine lv_iconst (v := (-1)) hx hb d_X12_count_34 (by decide) ?_
      exact fm_reti Z hr hlk F d_X12_count_35 (Option.some.inj hf) rfl
    · have hf := fm_ig c19 hf
      refine lv_aload_n hx hb d_X12_count_22 rfl (lv_at hl 0 rfl) ?_
      refine fm_rgr Z G F hf fr_X12_9 d_X12_count_23 (fun q23 _ hf => ?_)
      refine lv_bipush (v := 21) hx hb d_X12_count_26 (by decide) ?_
      refine lv_iload_n hx hb d_X12_count_28 rfl (lv_at hl 1 rfl) ?_
      refine lv_iadd hx hb d_X12_count_29 ?_
      refine fm_rld Z G F hf d_X12_count_30 (fun x30 _ hf => ?_)
      refine lv_goto (tgt := 35) hx hb d_X12_count_31 (by decide) ?_
      exact fm_reti Z hr hlk F d_X12_count_35 (Option.some.inj hf) rfl
  · have hf := fm_ip c3 hf
    refine lv_aload_n hx hb d_X12_count_6 rfl (lv_at hl 0 rfl) ?_
    refine fm_rgi Z G F hf fr_X12_223 d_X12_count_7 (fun x7 _ hf => ?_)
    refine lv_goto (tgt := 35) hx hb d_X12_count_10 (by decide) ?_
    exact fm_reti Z hr hlk F d_X12_count_35 (Option.some.inj hf) rfl
