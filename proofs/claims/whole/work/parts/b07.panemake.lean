/-! MAKERS: a pane is made -/
theorem d_X11_newPane_0 : decode prog_1_method_38_code 0 = .ok (.iload_n 1, 1) := by decide +kernel
theorem d_X11_newPane_1 : decode prog_1_method_38_code 1 = .ok (.tableswitch 153 1 6 #[39, 58, 77, 96, 115, 134], 39) := by decide +kernel
theorem d_X11_newPane_40 : decode prog_1_method_38_code 40 = .ok (.new 242, 3) := by decide +kernel
theorem d_X11_newPane_43 : decode prog_1_method_38_code 43 = .ok (.dup, 1) := by decide +kernel
theorem d_X11_newPane_44 : decode prog_1_method_38_code 44 = .ok (.iload_n 1, 1) := by decide +kernel
theorem d_X11_newPane_45 : decode prog_1_method_38_code 45 = .ok (.aload_n 0, 1) := by decide +kernel
theorem d_X11_newPane_46 : decode prog_1_method_38_code 46 = .ok (.getfield 23, 3) := by decide +kernel
theorem d_X11_newPane_49 : decode prog_1_method_38_code 49 = .ok (.iload_n 2, 1) := by decide +kernel
theorem d_X11_newPane_50 : decode prog_1_method_38_code 50 = .ok (.iload_n 3, 1) := by decide +kernel
theorem d_X11_newPane_51 : decode prog_1_method_38_code 51 = .ok (.aload_n 0, 1) := by decide +kernel
theorem d_X11_newPane_52 : decode prog_1_method_38_code 52 = .ok (.getfield 75, 3) := by decide +kernel
theorem d_X11_newPane_55 : decode prog_1_method_38_code 55 = .ok (.invokespecial 244, 3) := by decide +kernel
theorem d_X11_newPane_58 : decode prog_1_method_38_code 58 = .ok (.areturn, 1) := by decide +kernel
theorem d_X11_newPane_59 : decode prog_1_method_38_code 59 = .ok (.new 247, 3) := by decide +kernel
theorem d_X11_newPane_62 : decode prog_1_method_38_code 62 = .ok (.dup, 1) := by decide +kernel
theorem d_X11_newPane_63 : decode prog_1_method_38_code 63 = .ok (.iload_n 1, 1) := by decide +kernel
theorem d_X11_newPane_64 : decode prog_1_method_38_code 64 = .ok (.aload_n 0, 1) := by decide +kernel
theorem d_X11_newPane_65 : decode prog_1_method_38_code 65 = .ok (.getfield 23, 3) := by decide +kernel
theorem d_X11_newPane_68 : decode prog_1_method_38_code 68 = .ok (.iload_n 2, 1) := by decide +kernel
theorem d_X11_newPane_69 : decode prog_1_method_38_code 69 = .ok (.iload_n 3, 1) := by decide +kernel
theorem d_X11_newPane_70 : decode prog_1_method_38_code 70 = .ok (.aload_n 0, 1) := by decide +kernel
theorem d_X11_newPane_71 : decode prog_1_method_38_code 71 = .ok (.getfield 75, 3) := by decide +kernel
theorem d_X11_newPane_74 : decode prog_1_method_38_code 74 = .ok (.invokespecial 249, 3) := by decide +kernel
theorem d_X11_newPane_77 : decode prog_1_method_38_code 77 = .ok (.areturn, 1) := by decide +kernel
theorem d_X11_newPane_78 : decode prog_1_method_38_code 78 = .ok (.new 250, 3) := by decide +kernel
theorem d_X11_newPane_81 : decode prog_1_method_38_code 81 = .ok (.dup, 1) := by decide +kernel
theorem d_X11_newPane_82 : decode prog_1_method_38_code 82 = .ok (.iload_n 1, 1) := by decide +kernel
theorem d_X11_newPane_83 : decode prog_1_method_38_code 83 = .ok (.aload_n 0, 1) := by decide +kernel
theorem d_X11_newPane_84 : decode prog_1_method_38_code 84 = .ok (.getfield 23, 3) := by decide +kernel
theorem d_X11_newPane_87 : decode prog_1_method_38_code 87 = .ok (.iload_n 2, 1) := by decide +kernel
theorem d_X11_newPane_88 : decode prog_1_method_38_code 88 = .ok (.iload_n 3, 1) := by decide +kernel
theorem d_X11_newPane_89 : decode prog_1_method_38_code 89 = .ok (.aload_n 0, 1) := by decide +kernel
theorem d_X11_newPane_90 : decode prog_1_method_38_code 90 = .ok (.getfield 75, 3) := by decide +kernel
theorem d_X11_newPane_93 : decode prog_1_method_38_code 93 = .ok (.invokespecial 252, 3) := by decide +kernel
theorem d_X11_newPane_96 : decode prog_1_method_38_code 96 = .ok (.areturn, 1) := by decide +kernel
theorem d_X11_newPane_97 : decode prog_1_method_38_code 97 = .ok (.new 253, 3) := by decide +kernel
theorem d_X11_newPane_100 : decode prog_1_method_38_code 100 = .ok (.dup, 1) := by decide +kernel
theorem d_X11_newPane_101 : decode prog_1_method_38_code 101 = .ok (.iload_n 1, 1) := by decide +kernel
theorem d_X11_newPane_102 : decode prog_1_method_38_code 102 = .ok (.aload_n 0, 1) := by decide +kernel
theorem d_X11_newPane_103 : decode prog_1_method_38_code 103 = .ok (.getfield 23, 3) := by decide +kernel
theorem d_X11_newPane_106 : decode prog_1_method_38_code 106 = .ok (.iload_n 2, 1) := by decide +kernel
theorem d_X11_newPane_107 : decode prog_1_method_38_code 107 = .ok (.iload_n 3, 1) := by decide +kernel
theorem d_X11_newPane_108 : decode prog_1_method_38_code 108 = .ok (.aload_n 0, 1) := by decide +kernel
theorem d_X11_newPane_109 : decode prog_1_method_38_code 109 = .ok (.getfield 75, 3) := by decide +kernel
theorem d_X11_newPane_112 : decode prog_1_method_38_code 112 = .ok (.invokespecial 255, 3) := by decide +kernel
theorem d_X11_newPane_115 : decode prog_1_method_38_code 115 = .ok (.areturn, 1) := by decide +kernel
theorem d_X11_newPane_116 : decode prog_1_method_38_code 116 = .ok (.new 256, 3) := by decide +kernel
theorem d_X11_newPane_119 : decode prog_1_method_38_code 119 = .ok (.dup, 1) := by decide +kernel
theorem d_X11_newPane_120 : decode prog_1_method_38_code 120 = .ok (.iload_n 1, 1) := by decide +kernel
theorem d_X11_newPane_121 : decode prog_1_method_38_code 121 = .ok (.aload_n 0, 1) := by decide +kernel
theorem d_X11_newPane_122 : decode prog_1_method_38_code 122 = .ok (.getfield 23, 3) := by decide +kernel
theorem d_X11_newPane_125 : decode prog_1_method_38_code 125 = .ok (.iload_n 2, 1) := by decide +kernel
theorem d_X11_newPane_126 : decode prog_1_method_38_code 126 = .ok (.iload_n 3, 1) := by decide +kernel
theorem d_X11_newPane_127 : decode prog_1_method_38_code 127 = .ok (.aload_n 0, 1) := by decide +kernel
theorem d_X11_newPane_128 : decode prog_1_method_38_code 128 = .ok (.getfield 75, 3) := by decide +kernel
theorem d_X11_newPane_131 : decode prog_1_method_38_code 131 = .ok (.invokespecial 258, 3) := by decide +kernel
theorem d_X11_newPane_134 : decode prog_1_method_38_code 134 = .ok (.areturn, 1) := by decide +kernel
theorem d_X11_newPane_135 : decode prog_1_method_38_code 135 = .ok (.new 151, 3) := by decide +kernel
theorem d_X11_newPane_138 : decode prog_1_method_38_code 138 = .ok (.dup, 1) := by decide +kernel
theorem d_X11_newPane_139 : decode prog_1_method_38_code 139 = .ok (.iload_n 1, 1) := by decide +kernel
theorem d_X11_newPane_140 : decode prog_1_method_38_code 140 = .ok (.aload_n 0, 1) := by decide +kernel
theorem d_X11_newPane_141 : decode prog_1_method_38_code 141 = .ok (.getfield 23, 3) := by decide +kernel
theorem d_X11_newPane_144 : decode prog_1_method_38_code 144 = .ok (.iload_n 2, 1) := by decide +kernel
theorem d_X11_newPane_145 : decode prog_1_method_38_code 145 = .ok (.iload_n 3, 1) := by decide +kernel
theorem d_X11_newPane_146 : decode prog_1_method_38_code 146 = .ok (.aload_n 0, 1) := by decide +kernel
theorem d_X11_newPane_147 : decode prog_1_method_38_code 147 = .ok (.getfield 75, 3) := by decide +kernel
theorem d_X11_newPane_150 : decode prog_1_method_38_code 150 = .ok (.invokespecial 259, 3) := by decide +kernel
theorem d_X11_newPane_153 : decode prog_1_method_38_code 153 = .ok (.areturn, 1) := by decide +kernel
theorem d_X11_newPane_154 : decode prog_1_method_38_code 154 = .ok (.new 11, 3) := by decide +kernel
theorem d_X11_newPane_157 : decode prog_1_method_38_code 157 = .ok (.dup, 1) := by decide +kernel
theorem d_X11_newPane_158 : decode prog_1_method_38_code 158 = .ok (.iload_n 1, 1) := by decide +kernel
theorem d_X11_newPane_159 : decode prog_1_method_38_code 159 = .ok (.aload_n 0, 1) := by decide +kernel
theorem d_X11_newPane_160 : decode prog_1_method_38_code 160 = .ok (.getfield 23, 3) := by decide +kernel
theorem d_X11_newPane_163 : decode prog_1_method_38_code 163 = .ok (.iload_n 2, 1) := by decide +kernel
theorem d_X11_newPane_164 : decode prog_1_method_38_code 164 = .ok (.iload_n 3, 1) := by decide +kernel
theorem d_X11_newPane_165 : decode prog_1_method_38_code 165 = .ok (.aload_n 0, 1) := by decide +kernel
theorem d_X11_newPane_166 : decode prog_1_method_38_code 166 = .ok (.getfield 75, 3) := by decide +kernel
theorem d_X11_newPane_169 : decode prog_1_method_38_code 169 = .ok (.invokespecial 260, 3) := by decide +kernel
theorem d_X11_newPane_172 : decode prog_1_method_38_code 172 = .ok (.areturn, 1) := by decide +kernel
theorem d_X11_pane_0 : decode prog_1_method_4_code 0 = .ok (.iload_n 1, 1) := by decide +kernel
theorem d_X11_pane_1 : decode prog_1_method_4_code 1 = .ok (.bipush 6, 2) := by decide +kernel
theorem d_X11_pane_3 : decode prog_1_method_4_code 3 = .ok (.invokestatic 85, 3) := by decide +kernel
theorem d_X11_pane_6 : decode prog_1_method_4_code 6 = .ok (.ifCond .ne 5, 3) := by decide +kernel
theorem d_X11_pane_9 : decode prog_1_method_4_code 9 = .ok (.iconst (-1), 1) := by decide +kernel
theorem d_X11_pane_10 : decode prog_1_method_4_code 10 = .ok (.ireturn, 1) := by decide +kernel
theorem d_X11_pane_11 : decode prog_1_method_4_code 11 = .ok (.iload_n 2, 1) := by decide +kernel
theorem d_X11_pane_12 : decode prog_1_method_4_code 12 = .ok (.bipush 9, 2) := by decide +kernel
theorem d_X11_pane_14 : decode prog_1_method_4_code 14 = .ok (.invokestatic 85, 3) := by decide +kernel
theorem d_X11_pane_17 : decode prog_1_method_4_code 17 = .ok (.ifCond .eq 12, 3) := by decide +kernel
theorem d_X11_pane_20 : decode prog_1_method_4_code 20 = .ok (.iload_n 3, 1) := by decide +kernel
theorem d_X11_pane_21 : decode prog_1_method_4_code 21 = .ok (.bipush 9, 2) := by decide +kernel
theorem d_X11_pane_23 : decode prog_1_method_4_code 23 = .ok (.invokestatic 85, 3) := by decide +kernel
theorem d_X11_pane_26 : decode prog_1_method_4_code 26 = .ok (.ifCond .ne 6, 3) := by decide +kernel
theorem d_X11_pane_29 : decode prog_1_method_4_code 29 = .ok (.bipush (-2), 2) := by decide +kernel
theorem d_X11_pane_31 : decode prog_1_method_4_code 31 = .ok (.ireturn, 1) := by decide +kernel
theorem d_X11_pane_32 : decode prog_1_method_4_code 32 = .ok (.aload_n 0, 1) := by decide +kernel
theorem d_X11_pane_33 : decode prog_1_method_4_code 33 = .ok (.getfield 23, 3) := by decide +kernel
theorem d_X11_pane_36 : decode prog_1_method_4_code 36 = .ok (.bipush 6, 2) := by decide +kernel
theorem d_X11_pane_38 : decode prog_1_method_4_code 38 = .ok (.if_icmp .lt 6, 3) := by decide +kernel
theorem d_X11_pane_41 : decode prog_1_method_4_code 41 = .ok (.bipush (-4), 2) := by decide +kernel
theorem d_X11_pane_43 : decode prog_1_method_4_code 43 = .ok (.ireturn, 1) := by decide +kernel
theorem d_X11_pane_44 : decode prog_1_method_4_code 44 = .ok (.aload_n 0, 1) := by decide +kernel
theorem d_X11_pane_45 : decode prog_1_method_4_code 45 = .ok (.iload_n 1, 1) := by decide +kernel
theorem d_X11_pane_46 : decode prog_1_method_4_code 46 = .ok (.iload_n 2, 1) := by decide +kernel
theorem d_X11_pane_47 : decode prog_1_method_4_code 47 = .ok (.iload_n 3, 1) := by decide +kernel
theorem d_X11_pane_48 : decode prog_1_method_4_code 48 = .ok (.invokevirtual 108, 3) := by decide +kernel
theorem d_X11_pane_51 : decode prog_1_method_4_code 51 = .ok (.astore 4, 2) := by decide +kernel
theorem d_X11_pane_53 : decode prog_1_method_4_code 53 = .ok (.aload_n 0, 1) := by decide +kernel
theorem d_X11_pane_54 : decode prog_1_method_4_code 54 = .ok (.getfield 13, 3) := by decide +kernel
theorem d_X11_pane_57 : decode prog_1_method_4_code 57 = .ok (.aload_n 0, 1) := by decide +kernel
theorem d_X11_pane_58 : decode prog_1_method_4_code 58 = .ok (.getfield 23, 3) := by decide +kernel
theorem d_X11_pane_61 : decode prog_1_method_4_code 61 = .ok (.aload 4, 2) := by decide +kernel
theorem d_X11_pane_63 : decode prog_1_method_4_code 63 = .ok (.aastore, 1) := by decide +kernel
theorem d_X11_pane_64 : decode prog_1_method_4_code 64 = .ok (.aload_n 0, 1) := by decide +kernel
theorem d_X11_pane_65 : decode prog_1_method_4_code 65 = .ok (.getfield 19, 3) := by decide +kernel
theorem d_X11_pane_68 : decode prog_1_method_4_code 68 = .ok (.aload_n 0, 1) := by decide +kernel
theorem d_X11_pane_69 : decode prog_1_method_4_code 69 = .ok (.getfield 23, 3) := by decide +kernel
theorem d_X11_pane_72 : decode prog_1_method_4_code 72 = .ok (.new 17, 3) := by decide +kernel
theorem d_X11_pane_75 : decode prog_1_method_4_code 75 = .ok (.dup, 1) := by decide +kernel
theorem d_X11_pane_76 : decode prog_1_method_4_code 76 = .ok (.aload 4, 2) := by decide +kernel
theorem d_X11_pane_78 : decode prog_1_method_4_code 78 = .ok (.aload_n 0, 1) := by decide +kernel
theorem d_X11_pane_79 : decode prog_1_method_4_code 79 = .ok (.getfield 30, 3) := by decide +kernel
theorem d_X11_pane_82 : decode prog_1_method_4_code 82 = .ok (.invokespecial 112, 3) := by decide +kernel
theorem d_X11_pane_85 : decode prog_1_method_4_code 85 = .ok (.aastore, 1) := by decide +kernel
theorem d_X11_pane_86 : decode prog_1_method_4_code 86 = .ok (.aload_n 0, 1) := by decide +kernel
theorem d_X11_pane_87 : decode prog_1_method_4_code 87 = .ok (.dup, 1) := by decide +kernel
theorem d_X11_pane_88 : decode prog_1_method_4_code 88 = .ok (.getfield 23, 3) := by decide +kernel
theorem d_X11_pane_91 : decode prog_1_method_4_code 91 = .ok (.iconst 1, 1) := by decide +kernel
theorem d_X11_pane_92 : decode prog_1_method_4_code 92 = .ok (.iadd, 1) := by decide +kernel
theorem d_X11_pane_93 : decode prog_1_method_4_code 93 = .ok (.putfield 23, 3) := by decide +kernel
theorem d_X11_pane_96 : decode prog_1_method_4_code 96 = .ok (.aload_n 0, 1) := by decide +kernel
theorem d_X11_pane_97 : decode prog_1_method_4_code 97 = .ok (.getfield 23, 3) := by decide +kernel
theorem d_X11_pane_100 : decode prog_1_method_4_code 100 = .ok (.iconst 1, 1) := by decide +kernel
theorem d_X11_pane_101 : decode prog_1_method_4_code 101 = .ok (.isub, 1) := by decide +kernel
theorem d_X11_pane_102 : decode prog_1_method_4_code 102 = .ok (.ireturn, 1) := by decide +kernel
theorem kp_8 : Cond.selects "FrostBids" (⟨"FrostBids", "newPane", "(III)LFrostBids$Pane;"⟩ : MethodName) (⟨"FrostBids", "newPane", "(III)LFrostBids$Pane;"⟩ : MethodName) ∈ lw_tbl := List.mem_append_left _ (List.mem_of_getElem? (i := 8) (by decide +kernel))
theorem kw_324 : (Jvm.Cond.methodLink "FrostBids" (108 : Nat) ({ cls := "FrostBids", name := "newPane", desc := "(III)LFrostBids$Pane;" } : Jvm.MethodName)) ∈ lw_tbl := fm_t2 (List.mem_of_getElem? (i := 84) (by decide +kernel))
theorem kw_326 : (Jvm.Cond.instanceMethod ({ cls := "FrostBids", name := "newPane", desc := "(III)LFrostBids$Pane;" } : Jvm.MethodName)) ∈ lw_tbl := fm_t2 (List.mem_of_getElem? (i := 86) (by decide +kernel))
theorem kw_327 : (Jvm.Cond.code ({ cls := "FrostBids", name := "newPane", desc := "(III)LFrostBids$Pane;" } : Jvm.MethodName) prog_1_method_38_code (4 : Nat) (Option.some (Jvm.ClassFile.FieldType.object "FrostBids$Pane"))) ∈ lw_tbl := fm_t2 (List.mem_of_getElem? (i := 87) (rfl))
theorem kw_329 : (Jvm.Cond.instantiable "FrostBids$Kitchen" (10 : Nat)) ∈ lw_tbl := fm_t2 (List.mem_of_getElem? (i := 89) (by decide +kernel))
theorem kw_330 : (Jvm.Cond.methodLink "FrostBids" (244 : Nat) ({ cls := "FrostBids$Kitchen", name := "<init>", desc := "(IIIILFrostBids$Rows;)V" } : Jvm.MethodName)) ∈ lw_tbl := fm_t2 (List.mem_of_getElem? (i := 90) (by decide +kernel))
theorem kw_396 : (Jvm.Cond.instantiable "FrostBids$Nursery" (10 : Nat)) ∈ lw_tbl := fm_t2 (List.mem_of_getElem? (i := 156) (by decide +kernel))
theorem kw_397 : (Jvm.Cond.methodLink "FrostBids" (249 : Nat) ({ cls := "FrostBids$Nursery", name := "<init>", desc := "(IIIILFrostBids$Rows;)V" } : Jvm.MethodName)) ∈ lw_tbl := fm_t2 (List.mem_of_getElem? (i := 157) (by decide +kernel))
theorem kw_413 : (Jvm.Cond.instantiable "FrostBids$Rectory" (10 : Nat)) ∈ lw_tbl := fm_t2 (List.mem_of_getElem? (i := 173) (by decide +kernel))
theorem kw_414 : (Jvm.Cond.methodLink "FrostBids" (252 : Nat) ({ cls := "FrostBids$Rectory", name := "<init>", desc := "(IIIILFrostBids$Rows;)V" } : Jvm.MethodName)) ∈ lw_tbl := fm_t2 (List.mem_of_getElem? (i := 174) (by decide +kernel))
theorem kw_430 : (Jvm.Cond.instantiable "FrostBids$Jail" (10 : Nat)) ∈ lw_tbl := fm_t2 (List.mem_of_getElem? (i := 190) (by decide +kernel))
theorem kw_431 : (Jvm.Cond.methodLink "FrostBids" (255 : Nat) ({ cls := "FrostBids$Jail", name := "<init>", desc := "(IIIILFrostBids$Rows;)V" } : Jvm.MethodName)) ∈ lw_tbl := fm_t2 (List.mem_of_getElem? (i := 191) (by decide +kernel))
theorem kw_432 : (Jvm.Cond.instanceMethod ({ cls := "FrostBids$Jail", name := "<init>", desc := "(IIIILFrostBids$Rows;)V" } : Jvm.MethodName)) ∈ lw_tbl := fm_t2 (List.mem_of_getElem? (i := 192) (by decide +kernel))
theorem kw_433 : (Jvm.Cond.code ({ cls := "FrostBids$Jail", name := "<init>", desc := "(IIIILFrostBids$Rows;)V" } : Jvm.MethodName) prog_4_method_1_code (6 : Nat) (Option.none : Option Jvm.ClassFile.FieldType)) ∈ lw_tbl := fm_t2 (List.mem_of_getElem? (i := 193) (rfl))
theorem kw_447 : (Jvm.Cond.instantiable "FrostBids$Church" (10 : Nat)) ∈ lw_tbl := fm_t2 (List.mem_of_getElem? (i := 207) (by decide +kernel))
theorem kw_448 : (Jvm.Cond.methodLink "FrostBids" (258 : Nat) ({ cls := "FrostBids$Church", name := "<init>", desc := "(IIIILFrostBids$Rows;)V" } : Jvm.MethodName)) ∈ lw_tbl := fm_t2 (List.mem_of_getElem? (i := 208) (by decide +kernel))
theorem kw_449 : (Jvm.Cond.instanceMethod ({ cls := "FrostBids$Church", name := "<init>", desc := "(IIIILFrostBids$Rows;)V" } : Jvm.MethodName)) ∈ lw_tbl := fm_t2 (List.mem_of_getElem? (i := 209) (by decide +kernel))
theorem kw_450 : (Jvm.Cond.code ({ cls := "FrostBids$Church", name := "<init>", desc := "(IIIILFrostBids$Rows;)V" } : Jvm.MethodName) prog_2_method_1_code (6 : Nat) (Option.none : Option Jvm.ClassFile.FieldType)) ∈ lw_tbl := fm_t2 (List.mem_of_getElem? (i := 210) (rfl))
theorem kw_464 : (Jvm.Cond.instantiable "FrostBids$Told" (12 : Nat)) ∈ lw_tbl := fm_t2 (List.mem_of_getElem? (i := 224) (by decide +kernel))
theorem kw_465 : (Jvm.Cond.methodLink "FrostBids" (259 : Nat) ({ cls := "FrostBids$Told", name := "<init>", desc := "(IIIILFrostBids$Rows;)V" } : Jvm.MethodName)) ∈ lw_tbl := fm_t2 (List.mem_of_getElem? (i := 225) (by decide +kernel))
theorem kw_466 : (Jvm.Cond.instanceMethod ({ cls := "FrostBids$Told", name := "<init>", desc := "(IIIILFrostBids$Rows;)V" } : Jvm.MethodName)) ∈ lw_tbl := fm_t2 (List.mem_of_getElem? (i := 226) (by decide +kernel))
theorem kw_467 : (Jvm.Cond.code ({ cls := "FrostBids$Told", name := "<init>", desc := "(IIIILFrostBids$Rows;)V" } : Jvm.MethodName) prog_11_method_1_code (6 : Nat) (Option.none : Option Jvm.ClassFile.FieldType)) ∈ lw_tbl := fm_t2 (List.mem_of_getElem? (i := 227) (rfl))
theorem kw_486 : (Jvm.Cond.instantiable "FrostBids$Pane" (10 : Nat)) ∈ lw_tbl := fm_t3 (List.mem_of_getElem? (i := 6) (by decide +kernel))
theorem kw_487 : (Jvm.Cond.methodLink "FrostBids" (260 : Nat) ({ cls := "FrostBids$Pane", name := "<init>", desc := "(IIIILFrostBids$Rows;)V" } : Jvm.MethodName)) ∈ lw_tbl := fm_t3 (List.mem_of_getElem? (i := 7) (by decide +kernel))
theorem kw_499 : (Jvm.Cond.instantiable "FrostBids$Course" (10 : Nat)) ∈ lw_tbl := fm_t3 (List.mem_of_getElem? (i := 19) (by decide +kernel))
theorem kw_500 : (Jvm.Cond.methodLink "FrostBids" (112 : Nat) ({ cls := "FrostBids$Course", name := "<init>", desc := "(LFrostBids$Pane;LFrostBids$Town;)V" } : Jvm.MethodName)) ∈ lw_tbl := fm_t3 (List.mem_of_getElem? (i := 20) (by decide +kernel))
theorem kw_501 : (Jvm.Cond.instanceMethod ({ cls := "FrostBids$Course", name := "<init>", desc := "(LFrostBids$Pane;LFrostBids$Town;)V" } : Jvm.MethodName)) ∈ lw_tbl := fm_t3 (List.mem_of_getElem? (i := 21) (by decide +kernel))
theorem kw_502 : (Jvm.Cond.code ({ cls := "FrostBids$Course", name := "<init>", desc := "(LFrostBids$Pane;LFrostBids$Town;)V" } : Jvm.MethodName) prog_3_method_1_code (3 : Nat) (Option.none : Option Jvm.ClassFile.FieldType)) ∈ lw_tbl := fm_t3 (List.mem_of_getElem? (i := 22) (rfl))
theorem yd_X11_newPane : y_X11_newPane.cls ≠ "java/lang/invoke/MethodHandle" ∧ y_X11_newPane.cls ≠ "java/lang/invoke/VarHandle" ∧ (parseMethodDescriptor y_X11_newPane.desc).map (fun d => d.parameters.length) = some 3 := by decide +kernel
theorem yd_X11_pane : y_X11_pane.cls ≠ "java/lang/invoke/MethodHandle" ∧ y_X11_pane.cls ≠ "java/lang/invoke/VarHandle" ∧ (parseMethodDescriptor y_X11_pane.desc).map (fun d => d.parameters.length) = some 3 := by decide +kernel
theorem yd_X0_init : y_X0_init.cls ≠ "java/lang/invoke/MethodHandle" ∧ y_X0_init.cls ≠ "java/lang/invoke/VarHandle" ∧ (parseMethodDescriptor y_X0_init.desc).map (fun d => d.parameters.length) = some 5 := by decide +kernel
theorem yd_X1_init : y_X1_init.cls ≠ "java/lang/invoke/MethodHandle" ∧ y_X1_init.cls ≠ "java/lang/invoke/VarHandle" ∧ (parseMethodDescriptor y_X1_init.desc).map (fun d => d.parameters.length) = some 2 := by decide +kernel
theorem yd_X2_init : y_X2_init.cls ≠ "java/lang/invoke/MethodHandle" ∧ y_X2_init.cls ≠ "java/lang/invoke/VarHandle" ∧ (parseMethodDescriptor y_X2_init.desc).map (fun d => d.parameters.length) = some 5 := by decide +kernel
theorem yd_X9_init : y_X9_init.cls ≠ "java/lang/invoke/MethodHandle" ∧ y_X9_init.cls ≠ "java/lang/invoke/VarHandle" ∧ (parseMethodDescriptor y_X9_init.desc).map (fun d => d.parameters.length) = some 5 := by decide +kernel
theorem mn_0 : ∀ j, j < fm_N 0 → defaultValue (fm_ty 0 j) = vp_V [.int 0, .int 0, .int 0, .int 0, .int 0, .int 0, .int 0, .int 0, .int 0, .null] j := fun j hj => match j, hj with
  | 0, _ => rfl
  | 1, _ => rfl
  | 2, _ => rfl
  | 3, _ => rfl
  | 4, _ => rfl
  | 5, _ => rfl
  | 6, _ => rfl
  | 7, _ => rfl
  | 8, _ => rfl
  | 9, _ => rfl
  | j + 10, h => absurd h (by show ¬ (j + 10 < 10); omega)
theorem mn_1 : ∀ j, j < fm_N 1 → defaultValue (fm_ty 1 j) = vp_V [.null, .null, .int 0, .int 0, .int 0, .int 0, .int 0, .int 0, .null, .null] j := fun j hj => match j, hj with
  | 0, _ => rfl
  | 1, _ => rfl
  | 2, _ => rfl
  | 3, _ => rfl
  | 4, _ => rfl
  | 5, _ => rfl
  | 6, _ => rfl
  | 7, _ => rfl
  | 8, _ => rfl
  | 9, _ => rfl
  | j + 10, h => absurd h (by show ¬ (j + 10 < 10); omega)
theorem mn_2 : ∀ j, j < fm_N 2 → defaultValue (fm_ty 2 j) = vp_V [.int 0, .int 0, .int 0, .int 0, .int 0, .int 0, .int 0, .int 0, .int 0, .null] j := fun j hj => match j, hj with
  | 0, _ => rfl
  | 1, _ => rfl
  | 2, _ => rfl
  | 3, _ => rfl
  | 4, _ => rfl
  | 5, _ => rfl
  | 6, _ => rfl
  | 7, _ => rfl
  | 8, _ => rfl
  | 9, _ => rfl
  | j + 10, h => absurd h (by show ¬ (j + 10 < 10); omega)
theorem mn_3 : ∀ j, j < fm_N 3 → defaultValue (fm_ty 3 j) = vp_V [.int 0, .int 0, .int 0, .int 0, .int 0, .int 0, .int 0, .int 0, .int 0, .null] j := fun j hj => match j, hj with
  | 0, _ => rfl
  | 1, _ => rfl
  | 2, _ => rfl
  | 3, _ => rfl
  | 4, _ => rfl
  | 5, _ => rfl
  | 6, _ => rfl
  | 7, _ => rfl
  | 8, _ => rfl
  | 9, _ => rfl
  | j + 10, h => absurd h (by show ¬ (j + 10 < 10); omega)
theorem mn_4 : ∀ j, j < fm_N 4 → defaultValue (fm_ty 4 j) = vp_V [.int 0, .int 0, .int 0, .int 0, .int 0, .int 0, .int 0, .int 0, .int 0, .null] j := fun j hj => match j, hj with
  | 0, _ => rfl
  | 1, _ => rfl
  | 2, _ => rfl
  | 3, _ => rfl
  | 4, _ => rfl
  | 5, _ => rfl
  | 6, _ => rfl
  | 7, _ => rfl
  | 8, _ => rfl
  | 9, _ => rfl
  | j + 10, h => absurd h (by show ¬ (j + 10 < 10); omega)
theorem mn_5 : ∀ j, j < fm_N 5 → defaultValue (fm_ty 5 j) = vp_V [.int 0, .int 0, .int 0, .int 0, .int 0, .int 0, .int 0, .int 0, .int 0, .null] j := fun j hj => match j, hj with
  | 0, _ => rfl
  | 1, _ => rfl
  | 2, _ => rfl
  | 3, _ => rfl
  | 4, _ => rfl
  | 5, _ => rfl
  | 6, _ => rfl
  | 7, _ => rfl
  | 8, _ => rfl
  | 9, _ => rfl
  | j + 10, h => absurd h (by show ¬ (j + 10 < 10); omega)
theorem mn_7 : ∀ j, j < fm_N 7 → defaultValue (fm_ty 7 j) = vp_V [.int 0, .int 0, .int 0, .int 0, .int 0, .int 0, .int 0, .int 0, .int 0, .null] j := fun j hj => match j, hj with
  | 0, _ => rfl
  | 1, _ => rfl
  | 2, _ => rfl
  | 3, _ => rfl
  | 4, _ => rfl
  | 5, _ => rfl
  | 6, _ => rfl
  | 7, _ => rfl
  | 8, _ => rfl
  | 9, _ => rfl
  | j + 10, h => absurd h (by show ¬ (j + 10 < 10); omega)
theorem mn_9 : ∀ j, j < fm_N 9 → defaultValue (fm_ty 9 j) = vp_V [.int 0, .int 0, .int 0, .int 0, .int 0, .int 0, .int 0, .int 0, .int 0, .null, .null, .null] j := fun j hj => match j, hj with
  | 0, _ => rfl
  | 1, _ => rfl
  | 2, _ => rfl
  | 3, _ => rfl
  | 4, _ => rfl
  | 5, _ => rfl
  | 6, _ => rfl
  | 7, _ => rfl
  | 8, _ => rfl
  | 9, _ => rfl
  | 10, _ => rfl
  | 11, _ => rfl
  | j + 12, h => absurd h (by show ¬ (j + 12 < 12); omega)
theorem mk_Tmv : mk_Mv (fun _ => True) := fun _ _ _ _ h => h
theorem k_X11_isWithin {l : Launch} {D : va_G} {ids : Nat → ClassId} {x n : Int32} (sz : Nat) : mk_G (fun _ => True) l y_X11_isWithin prog_1_method_35_code 2 (some .boolean) 0 0 0 D ids [] [.int x, .int n] sz (mk_Qi D (if x < 0 then 0 else if n < x then 0 else 1) (fun _ : Nat → Nat => [])) := by
  refine mk_openG rfl (Nat.le_of_ble_eq_true rfl) (fun p e s m args below meth c ls Z hr hlk hname hX hK hP hD hS hA hl hsz => ?_)
  subst hsz
  obtain ⟨hx, hb, hml, hown, hts⟩ := id Z
  have hl : lv_has ls 2 [(0, .int x), (1, .int n)] := hl
  refine lv_iload_n hx hb d_X11_isWithin_0 rfl (lv_at hl 0 rfl) ?_
  refine lv_if_lt (tgt := 13) hx hb d_X11_isWithin_1 (by decide) (fun c1 => ?_) (fun c1 => ?_)
  · refine lv_iconst (v := 0) hx hb d_X11_isWithin_13 (by decide) ?_
    rw [if_pos c1]
    exact mk_retz (u := fun _ => 0) Z hr hlk hP hD hS rfl rfl (Or.inl rfl) (Nat.le_refl _) (Nat.le_refl _) d_X11_isWithin_14
  rw [if_neg c1]
  refine lv_iload_n hx hb d_X11_isWithin_4 rfl (lv_at hl 0 rfl) ?_
  refine lv_iload_n hx hb d_X11_isWithin_5 rfl (lv_at hl 1 rfl) ?_
  refine lv_icmp_gt (tgt := 13) hx hb d_X11_isWithin_6 (by decide) (fun c6 => ?_) (fun c6 => ?_)
  · refine lv_iconst (v := 0) hx hb d_X11_isWithin_13 (by decide) ?_
    rw [if_pos c6]
    exact mk_retz (u := fun _ => 0) Z hr hlk hP hD hS rfl rfl (Or.inl rfl) (Nat.le_refl _) (Nat.le_refl _) d_X11_isWithin_14
  rw [if_neg c6]
  refine lv_iconst (v := 1) hx hb d_X11_isWithin_9 (by decide) ?_
  refine lv_goto (tgt := 14) hx hb d_X11_isWithin_10 (by decide) ?_
  exact mk_retz (u := fun _ => 0) Z hr hlk hP hD hS rfl rfl (Or.inr rfl) (Nat.le_refl _) (Nat.le_refl _) d_X11_isWithin_14
theorem k_X11_newPane_0 {l : Launch} {D : va_G} {ids : Nat → ClassId} {a pa ca bt bd : Nat} {n y z : Int32} {v4 v5 v6 v7 v8 v9 v10 v11 v12 v13 v15 v16 : Value}  (sz : Nat) : mk_G (fun _ => True) l y_X11_newPane prog_1_method_38_code 4 (some (.object "FrostBids$Pane")) 4 1 10 D ids [(a, .inr (11, [.ref pa, .ref ca, .int n, .ref bt, v4, v5, v6, v7, v8, v9, v10, v11, v12, v13, .ref bd, v15, v16]))] [.ref a, .int 0, .int y, .int z] sz (mk_Qr D (fun u : Nat → Nat => u 0) (fun u : Nat → Nat => [(a, .inr (11, [.ref pa, .ref ca, .int n, .ref bt, v4, v5, v6, v7, v8, v9, v10, v11, v12, v13, .ref bd, v15, v16])), ((u 0), .inr (5, [.int 0, .int n, .int y, .int z, .int 0, .int 0, .int 0, .int 0, .int 0, .ref bd]))])) := by
  refine mk_openG rfl (Nat.le_of_ble_eq_true rfl) (fun p e s m args below meth c ls Z hr hlk hname hX hK hP hD hS hA hl hsz => ?_)
  subst hsz
  obtain ⟨hx, hb, hml, hown, hts⟩ := id Z
  have hl : lv_has ls 4 [(0, .ref a), (1, .int 0), (2, .int y), (3, .int z)] := hl
  have hN0 : fm_N 0 = 10 := rfl
  have hN1 : fm_N 1 = 10 := rfl
  have hN2 : fm_N 2 = 10 := rfl
  have hN3 : fm_N 3 = 10 := rfl
  have hN4 : fm_N 4 = 10 := rfl
  have hN5 : fm_N 5 = 10 := rfl
  have hN7 : fm_N 7 = 10 := rfl
  have hN9 : fm_N 9 = 12 := rfl
  refine lv_iload_n hx hb d_X11_newPane_0 rfl (lv_at hl 1 rfl) ?_
  refine lv_tableOut (tgt := 154) hx hb d_X11_newPane_1 (by decide) (by decide) ?_
  refine mk_new (ci := 5) (fs := [.int 0, .int 0, .int 0, .int 0, .int 0, .int 0, .int 0, .int 0, .int 0, .null]) Z (by decide) kw_29 kw_486 kw_11 hK hP hD hS hA mn_5 (by show _ ≤ 1; omega) (by show _ ≤ 10; omega) d_X11_newPane_154 (fun q154 H hP hD hS => ?_)
  have hP : va_P D fm_cls [(a, .inr (11, [.ref pa, .ref ca, .int n, .ref bt, v4, v5, v6, v7, v8, v9, v10, v11, v12, v13, .ref bd, v15, v16])), (q154, .inr (5, [.int 0, .int 0, .int 0, .int 0, .int 0, .int 0, .int 0, .int 0, .int 0, .null]))] H := hP
  have hD : va_D (va_A [(a, .inr (11, [.ref pa, .ref ca, .int n, .ref bt, v4, v5, v6, v7, v8, v9, v10, v11, v12, v13, .ref bd, v15, v16]))] s.heap.size) [(a, .inr (11, [.ref pa, .ref ca, .int n, .ref bt, v4, v5, v6, v7, v8, v9, v10, v11, v12, v13, .ref bd, v15, v16])), (q154, .inr (5, [.int 0, .int 0, .int 0, .int 0, .int 0, .int 0, .int 0, .int 0, .int 0, .null]))] := hD
  refine lv_dup hx hb d_X11_newPane_157 rfl ?_
  refine lv_iload_n hx hb d_X11_newPane_158 rfl (lv_at hl 1 rfl) ?_
  refine lv_aload_n hx hb d_X11_newPane_159 rfl (lv_at hl 0 rfl) ?_
  refine mk_get (ci := 11) (k := 2) (fs := [.ref pa, .ref ca, .int n, .ref bt, v4, v5, v6, v7, v8, v9, v10, v11, v12, v13, .ref bd, v15, v16]) (v := .int n) Z hK hP 0 rfl (by decide) mf_X11_23_11 rfl d_X11_newPane_160 ?_
  refine lv_iload_n hx hb d_X11_newPane_163 rfl (lv_at hl 2 rfl) ?_
  refine lv_iload_n hx hb d_X11_newPane_164 rfl (lv_at hl 3 rfl) ?_
  refine lv_aload_n hx hb d_X11_newPane_165 rfl (lv_at hl 0 rfl) ?_
  refine mk_get (ci := 11) (k := 14) (fs := [.ref pa, .ref ca, .int n, .ref bt, v4, v5, v6, v7, v8, v9, v10, v11, v12, v13, .ref bd, v15, v16]) (v := .ref bd) Z hK hP 0 rfl (by decide) mf_X11_75_11 rfl d_X11_newPane_166 ?_
  refine mk_callI (As := [.int 0, .int n, .int y, .int z, .ref bd]) (rest := [.ref q154]) (q := q154) (k := 5) Z (k_X5_init_5 (ids := ids) (D := D) _) hK hP hD hS hA (isC := [1]) (isR := [0]) (wc := [(q154, .inr (5, [.int 0, .int 0, .int 0, .int 0, .int 0, .int 0, .int 0, .int 0, .int 0, .null]))]) (wr := [(a, .inr (11, [.ref pa, .ref ca, .int n, .ref bt, v4, v5, v6, v7, v8, v9, v10, v11, v12, v13, .ref bd, v15, v16]))]) rfl rfl rfl rfl (by decide) rfl kw_487 kw_334 kw_11 kw_335 yd_X5_init rfl (by decide) (by decide) hl.1 (Nat.le_of_ble_eq_true rfl) d_X11_newPane_169 (by show _ ≤ 1; omega) (by show _ ≤ 10; omega) rfl (fun u169 H locs hP hD hS => ?_)
  have hP : va_P D fm_cls [(a, .inr (11, [.ref pa, .ref ca, .int n, .ref bt, v4, v5, v6, v7, v8, v9, v10, v11, v12, v13, .ref bd, v15, v16])), (q154, .inr (5, [.int 0, .int n, .int y, .int z, .int 0, .int 0, .int 0, .int 0, .int 0, .ref bd]))] H := hP
  have hD : va_D (va_A [(a, .inr (11, [.ref pa, .ref ca, .int n, .ref bt, v4, v5, v6, v7, v8, v9, v10, v11, v12, v13, .ref bd, v15, v16]))] s.heap.size) [(a, .inr (11, [.ref pa, .ref ca, .int n, .ref bt, v4, v5, v6, v7, v8, v9, v10, v11, v12, v13, .ref bd, v15, v16])), (q154, .inr (5, [.int 0, .int n, .int y, .int z, .int 0, .int 0, .int 0, .int 0, .int 0, .ref bd]))] := hD
  refine mk_retr (mc := 1) (ms := 10) (h0 := 4) (w0 := [(a, .inr (11, [.ref pa, .ref ca, .int n, .ref bt, v4, v5, v6, v7, v8, v9, v10, v11, v12, v13, .ref bd, v15, v16]))]) (post := (fun u : Nat → Nat => [(a, .inr (11, [.ref pa, .ref ca, .int n, .ref bt, v4, v5, v6, v7, v8, v9, v10, v11, v12, v13, .ref bd, v15, v16])), ((u 0), .inr (5, [.int 0, .int n, .int y, .int z, .int 0, .int 0, .int 0, .int 0, .int 0, .ref bd]))])) (r := fun u : Nat → Nat => u 0) Z hr (Or.inl ⟨_, rfl⟩) hlk hP hD hS (fun i => ([q154] : List Nat).getD i 0) rfl rfl ?_ ?_ d_X11_newPane_172
  · show _ ≤ 1; omega
  · show _ ≤ 10; first | omega | decide +kernel
theorem k_X11_newPane_1 {l : Launch} {D : va_G} {ids : Nat → ClassId} {a pa ca bt bd : Nat} {n y z : Int32} {v4 v5 v6 v7 v8 v9 v10 v11 v12 v13 v15 v16 : Value}  (sz : Nat) : mk_G (fun _ => True) l y_X11_newPane prog_1_method_38_code 4 (some (.object "FrostBids$Pane")) 4 1 10 D ids [(a, .inr (11, [.ref pa, .ref ca, .int n, .ref bt, v4, v5, v6, v7, v8, v9, v10, v11, v12, v13, .ref bd, v15, v16]))] [.ref a, .int 1, .int y, .int z] sz (mk_Qr D (fun u : Nat → Nat => u 0) (fun u : Nat → Nat => [(a, .inr (11, [.ref pa, .ref ca, .int n, .ref bt, v4, v5, v6, v7, v8, v9, v10, v11, v12, v13, .ref bd, v15, v16])), ((u 0), .inr (3, [.int 1, .int n, .int y, .int z, .int 0, .int 0, .int 0, .int 0, .int 0, .ref bd]))])) := by
  refine mk_openG rfl (Nat.le_of_ble_eq_true rfl) (fun p e s m args below meth c ls Z hr hlk hname hX hK hP hD hS hA hl hsz => ?_)
  subst hsz
  obtain ⟨hx, hb, hml, hown, hts⟩ := id Z
  have hl : lv_has ls 4 [(0, .ref a), (1, .int 1), (2, .int y), (3, .int z)] := hl
  have hN0 : fm_N 0 = 10 := rfl
  have hN1 : fm_N 1 = 10 := rfl
  have hN2 : fm_N 2 = 10 := rfl
  have hN3 : fm_N 3 = 10 := rfl
  have hN4 : fm_N 4 = 10 := rfl
  have hN5 : fm_N 5 = 10 := rfl
  have hN7 : fm_N 7 = 10 := rfl
  have hN9 : fm_N 9 = 12 := rfl
  refine lv_iload_n hx hb d_X11_newPane_0 rfl (lv_at hl 1 rfl) ?_
  refine lv_tableIn (off := 39) (tgt := 40) hx hb d_X11_newPane_1 (by decide) (by decide) rfl (by decide) ?_
  refine mk_new (ci := 3) (fs := [.int 0, .int 0, .int 0, .int 0, .int 0, .int 0, .int 0, .int 0, .int 0, .null]) Z (by decide) kw_328 kw_329 kw_12 hK hP hD hS hA mn_3 (by show _ ≤ 1; omega) (by show _ ≤ 10; omega) d_X11_newPane_40 (fun q40 H hP hD hS => ?_)
  have hP : va_P D fm_cls [(a, .inr (11, [.ref pa, .ref ca, .int n, .ref bt, v4, v5, v6, v7, v8, v9, v10, v11, v12, v13, .ref bd, v15, v16])), (q40, .inr (3, [.int 0, .int 0, .int 0, .int 0, .int 0, .int 0, .int 0, .int 0, .int 0, .null]))] H := hP
  have hD : va_D (va_A [(a, .inr (11, [.ref pa, .ref ca, .int n, .ref bt, v4, v5, v6, v7, v8, v9, v10, v11, v12, v13, .ref bd, v15, v16]))] s.heap.size) [(a, .inr (11, [.ref pa, .ref ca, .int n, .ref bt, v4, v5, v6, v7, v8, v9, v10, v11, v12, v13, .ref bd, v15, v16])), (q40, .inr (3, [.int 0, .int 0, .int 0, .int 0, .int 0, .int 0, .int 0, .int 0, .int 0, .null]))] := hD
  refine lv_dup hx hb d_X11_newPane_43 rfl ?_
  refine lv_iload_n hx hb d_X11_newPane_44 rfl (lv_at hl 1 rfl) ?_
  refine lv_aload_n hx hb d_X11_newPane_45 rfl (lv_at hl 0 rfl) ?_
  refine mk_get (ci := 11) (k := 2) (fs := [.ref pa, .ref ca, .int n, .ref bt, v4, v5, v6, v7, v8, v9, v10, v11, v12, v13, .ref bd, v15, v16]) (v := .int n) Z hK hP 0 rfl (by decide) mf_X11_23_11 rfl d_X11_newPane_46 ?_
  refine lv_iload_n hx hb d_X11_newPane_49 rfl (lv_at hl 2 rfl) ?_
  refine lv_iload_n hx hb d_X11_newPane_50 rfl (lv_at hl 3 rfl) ?_
  refine lv_aload_n hx hb d_X11_newPane_51 rfl (lv_at hl 0 rfl) ?_
  refine mk_get (ci := 11) (k := 14) (fs := [.ref pa, .ref ca, .int n, .ref bt, v4, v5, v6, v7, v8, v9, v10, v11, v12, v13, .ref bd, v15, v16]) (v := .ref bd) Z hK hP 0 rfl (by decide) mf_X11_75_11 rfl d_X11_newPane_52 ?_
  refine mk_callI (As := [.int 1, .int n, .int y, .int z, .ref bd]) (rest := [.ref q40]) (q := q40) (k := 5) Z (k_X3_init_3 (ids := ids) (D := D) _) hK hP hD hS hA (isC := [1]) (isR := [0]) (wc := [(q40, .inr (3, [.int 0, .int 0, .int 0, .int 0, .int 0, .int 0, .int 0, .int 0, .int 0, .null]))]) (wr := [(a, .inr (11, [.ref pa, .ref ca, .int n, .ref bt, v4, v5, v6, v7, v8, v9, v10, v11, v12, v13, .ref bd, v15, v16]))]) rfl rfl rfl rfl (by decide) rfl kw_330 kw_331 kw_12 kw_332 yd_X3_init rfl (by decide) (by decide) hl.1 (Nat.le_of_ble_eq_true rfl) d_X11_newPane_55 (by show _ ≤ 1; omega) (by show _ ≤ 10; omega) rfl (fun u55 H locs hP hD hS => ?_)
  have hP : va_P D fm_cls [(a, .inr (11, [.ref pa, .ref ca, .int n, .ref bt, v4, v5, v6, v7, v8, v9, v10, v11, v12, v13, .ref bd, v15, v16])), (q40, .inr (3, [.int 1, .int n, .int y, .int z, .int 0, .int 0, .int 0, .int 0, .int 0, .ref bd]))] H := hP
  have hD : va_D (va_A [(a, .inr (11, [.ref pa, .ref ca, .int n, .ref bt, v4, v5, v6, v7, v8, v9, v10, v11, v12, v13, .ref bd, v15, v16]))] s.heap.size) [(a, .inr (11, [.ref pa, .ref ca, .int n, .ref bt, v4, v5, v6, v7, v8, v9, v10, v11, v12, v13, .ref bd, v15, v16])), (q40, .inr (3, [.int 1, .int n, .int y, .int z, .int 0, .int 0, .int 0, .int 0, .int 0, .ref bd]))] := hD
  refine mk_retr (mc := 1) (ms := 10) (h0 := 4) (w0 := [(a, .inr (11, [.ref pa, .ref ca, .int n, .ref bt, v4, v5, v6, v7, v8, v9, v10, v11, v12, v13, .ref bd, v15, v16]))]) (post := (fun u : Nat → Nat => [(a, .inr (11, [.ref pa, .ref ca, .int n, .ref bt, v4, v5, v6, v7, v8, v9, v10, v11, v12, v13, .ref bd, v15, v16])), ((u 0), .inr (3, [.int 1, .int n, .int y, .int z, .int 0, .int 0, .int 0, .int 0, .int 0, .ref bd]))])) (r := fun u : Nat → Nat => u 0) Z hr (Or.inl ⟨_, rfl⟩) hlk hP hD hS (fun i => ([q40] : List Nat).getD i 0) rfl rfl ?_ ?_ d_X11_newPane_58
  · show _ ≤ 1; omega
  · show _ ≤ 10; first | omega | decide +kernel
theorem k_X11_newPane_2 {l : Launch} {D : va_G} {ids : Nat → ClassId} {a pa ca bt bd : Nat} {n y z : Int32} {v4 v5 v6 v7 v8 v9 v10 v11 v12 v13 v15 v16 : Value}  (sz : Nat) : mk_G (fun _ => True) l y_X11_newPane prog_1_method_38_code 4 (some (.object "FrostBids$Pane")) 4 1 10 D ids [(a, .inr (11, [.ref pa, .ref ca, .int n, .ref bt, v4, v5, v6, v7, v8, v9, v10, v11, v12, v13, .ref bd, v15, v16]))] [.ref a, .int 2, .int y, .int z] sz (mk_Qr D (fun u : Nat → Nat => u 0) (fun u : Nat → Nat => [(a, .inr (11, [.ref pa, .ref ca, .int n, .ref bt, v4, v5, v6, v7, v8, v9, v10, v11, v12, v13, .ref bd, v15, v16])), ((u 0), .inr (4, [.int 2, .int n, .int y, .int z, .int 0, .int 0, .int 0, .int 0, .int 0, .ref bd]))])) := by
  refine mk_openG rfl (Nat.le_of_ble_eq_true rfl) (fun p e s m args below meth c ls Z hr hlk hname hX hK hP hD hS hA hl hsz => ?_)
  subst hsz
  obtain ⟨hx, hb, hml, hown, hts⟩ := id Z
  have hl : lv_has ls 4 [(0, .ref a), (1, .int 2), (2, .int y), (3, .int z)] := hl
  have hN0 : fm_N 0 = 10 := rfl
  have hN1 : fm_N 1 = 10 := rfl
  have hN2 : fm_N 2 = 10 := rfl
  have hN3 : fm_N 3 = 10 := rfl
  have hN4 : fm_N 4 = 10 := rfl
  have hN5 : fm_N 5 = 10 := rfl
  have hN7 : fm_N 7 = 10 := rfl
  have hN9 : fm_N 9 = 12 := rfl
  refine lv_iload_n hx hb d_X11_newPane_0 rfl (lv_at hl 1 rfl) ?_
  refine lv_tableIn (off := 58) (tgt := 59) hx hb d_X11_newPane_1 (by decide) (by decide) rfl (by decide) ?_
  refine mk_new (ci := 4) (fs := [.int 0, .int 0, .int 0, .int 0, .int 0, .int 0, .int 0, .int 0, .int 0, .null]) Z (by decide) kw_395 kw_396 kw_13 hK hP hD hS hA mn_4 (by show _ ≤ 1; omega) (by show _ ≤ 10; omega) d_X11_newPane_59 (fun q59 H hP hD hS => ?_)
  have hP : va_P D fm_cls [(a, .inr (11, [.ref pa, .ref ca, .int n, .ref bt, v4, v5, v6, v7, v8, v9, v10, v11, v12, v13, .ref bd, v15, v16])), (q59, .inr (4, [.int 0, .int 0, .int 0, .int 0, .int 0, .int 0, .int 0, .int 0, .int 0, .null]))] H := hP
  have hD : va_D (va_A [(a, .inr (11, [.ref pa, .ref ca, .int n, .ref bt, v4, v5, v6, v7, v8, v9, v10, v11, v12, v13, .ref bd, v15, v16]))] s.heap.size) [(a, .inr (11, [.ref pa, .ref ca, .int n, .ref bt, v4, v5, v6, v7, v8, v9, v10, v11, v12, v13, .ref bd, v15, v16])), (q59, .inr (4, [.int 0, .int 0, .int 0, .int 0, .int 0, .int 0, .int 0, .int 0, .int 0, .null]))] := hD
  refine lv_dup hx hb d_X11_newPane_62 rfl ?_
  refine lv_iload_n hx hb d_X11_newPane_63 rfl (lv_at hl 1 rfl) ?_
  refine lv_aload_n hx hb d_X11_newPane_64 rfl (lv_at hl 0 rfl) ?_
  refine mk_get (ci := 11) (k := 2) (fs := [.ref pa, .ref ca, .int n, .ref bt, v4, v5, v6, v7, v8, v9, v10, v11, v12, v13, .ref bd, v15, v16]) (v := .int n) Z hK hP 0 rfl (by decide) mf_X11_23_11 rfl d_X11_newPane_65 ?_
  refine lv_iload_n hx hb d_X11_newPane_68 rfl (lv_at hl 2 rfl) ?_
  refine lv_iload_n hx hb d_X11_newPane_69 rfl (lv_at hl 3 rfl) ?_
  refine lv_aload_n hx hb d_X11_newPane_70 rfl (lv_at hl 0 rfl) ?_
  refine mk_get (ci := 11) (k := 14) (fs := [.ref pa, .ref ca, .int n, .ref bt, v4, v5, v6, v7, v8, v9, v10, v11, v12, v13, .ref bd, v15, v16]) (v := .ref bd) Z hK hP 0 rfl (by decide) mf_X11_75_11 rfl d_X11_newPane_71 ?_
  refine mk_callI (As := [.int 2, .int n, .int y, .int z, .ref bd]) (rest := [.ref q59]) (q := q59) (k := 5) Z (k_X4_init_4 (ids := ids) (D := D) _) hK hP hD hS hA (isC := [1]) (isR := [0]) (wc := [(q59, .inr (4, [.int 0, .int 0, .int 0, .int 0, .int 0, .int 0, .int 0, .int 0, .int 0, .null]))]) (wr := [(a, .inr (11, [.ref pa, .ref ca, .int n, .ref bt, v4, v5, v6, v7, v8, v9, v10, v11, v12, v13, .ref bd, v15, v16]))]) rfl rfl rfl rfl (by decide) rfl kw_397 kw_398 kw_13 kw_399 yd_X4_init rfl (by decide) (by decide) hl.1 (Nat.le_of_ble_eq_true rfl) d_X11_newPane_74 (by show _ ≤ 1; omega) (by show _ ≤ 10; omega) rfl (fun u74 H locs hP hD hS => ?_)
  have hP : va_P D fm_cls [(a, .inr (11, [.ref pa, .ref ca, .int n, .ref bt, v4, v5, v6, v7, v8, v9, v10, v11, v12, v13, .ref bd, v15, v16])), (q59, .inr (4, [.int 2, .int n, .int y, .int z, .int 0, .int 0, .int 0, .int 0, .int 0, .ref bd]))] H := hP
  have hD : va_D (va_A [(a, .inr (11, [.ref pa, .ref ca, .int n, .ref bt, v4, v5, v6, v7, v8, v9, v10, v11, v12, v13, .ref bd, v15, v16]))] s.heap.size) [(a, .inr (11, [.ref pa, .ref ca, .int n, .ref bt, v4, v5, v6, v7, v8, v9, v10, v11, v12, v13, .ref bd, v15, v16])), (q59, .inr (4, [.int 2, .int n, .int y, .int z, .int 0, .int 0, .int 0, .int 0, .int 0, .ref bd]))] := hD
  refine mk_retr (mc := 1) (ms := 10) (h0 := 4) (w0 := [(a, .inr (11, [.ref pa, .ref ca, .int n, .ref bt, v4, v5, v6, v7, v8, v9, v10, v11, v12, v13, .ref bd, v15, v16]))]) (post := (fun u : Nat → Nat => [(a, .inr (11, [.ref pa, .ref ca, .int n, .ref bt, v4, v5, v6, v7, v8, v9, v10, v11, v12, v13, .ref bd, v15, v16])), ((u 0), .inr (4, [.int 2, .int n, .int y, .int z, .int 0, .int 0, .int 0, .int 0, .int 0, .ref bd]))])) (r := fun u : Nat → Nat => u 0) Z hr (Or.inl ⟨_, rfl⟩) hlk hP hD hS (fun i => ([q59] : List Nat).getD i 0) rfl rfl ?_ ?_ d_X11_newPane_77
  · show _ ≤ 1; omega
  · show _ ≤ 10; first | omega | decide +kernel
theorem k_X11_newPane_3 {l : Launch} {D : va_G} {ids : Nat → ClassId} {a pa ca bt bd : Nat} {n y z : Int32} {v4 v5 v6 v7 v8 v9 v10 v11 v12 v13 v15 v16 : Value}  (sz : Nat) : mk_G (fun _ => True) l y_X11_newPane prog_1_method_38_code 4 (some (.object "FrostBids$Pane")) 4 1 10 D ids [(a, .inr (11, [.ref pa, .ref ca, .int n, .ref bt, v4, v5, v6, v7, v8, v9, v10, v11, v12, v13, .ref bd, v15, v16]))] [.ref a, .int 3, .int y, .int z] sz (mk_Qr D (fun u : Nat → Nat => u 0) (fun u : Nat → Nat => [(a, .inr (11, [.ref pa, .ref ca, .int n, .ref bt, v4, v5, v6, v7, v8, v9, v10, v11, v12, v13, .ref bd, v15, v16])), ((u 0), .inr (7, [.int 3, .int n, .int y, .int z, .int 0, .int 0, .int 0, .int 0, .int 0, .ref bd]))])) := by
  refine mk_openG rfl (Nat.le_of_ble_eq_true rfl) (fun p e s m args below meth c ls Z hr hlk hname hX hK hP hD hS hA hl hsz => ?_)
  subst hsz
  obtain ⟨hx, hb, hml, hown, hts⟩ := id Z
  have hl : lv_has ls 4 [(0, .ref a), (1, .int 3), (2, .int y), (3, .int z)] := hl
  have hN0 : fm_N 0 = 10 := rfl
  have hN1 : fm_N 1 = 10 := rfl
  have hN2 : fm_N 2 = 10 := rfl
  have hN3 : fm_N 3 = 10 := rfl
  have hN4 : fm_N 4 = 10 := rfl
  have hN5 : fm_N 5 = 10 := rfl
  have hN7 : fm_N 7 = 10 := rfl
  have hN9 : fm_N 9 = 12 := rfl
  refine lv_iload_n hx hb d_X11_newPane_0 rfl (lv_at hl 1 rfl) ?_
  refine lv_tableIn (off := 77) (tgt := 78) hx hb d_X11_newPane_1 (by decide) (by decide) rfl (by decide) ?_
  refine mk_new (ci := 7) (fs := [.int 0, .int 0, .int 0, .int 0, .int 0, .int 0, .int 0, .int 0, .int 0, .null]) Z (by decide) kw_412 kw_413 kw_14 hK hP hD hS hA mn_7 (by show _ ≤ 1; omega) (by show _ ≤ 10; omega) d_X11_newPane_78 (fun q78 H hP hD hS => ?_)
  have hP : va_P D fm_cls [(a, .inr (11, [.ref pa, .ref ca, .int n, .ref bt, v4, v5, v6, v7, v8, v9, v10, v11, v12, v13, .ref bd, v15, v16])), (q78, .inr (7, [.int 0, .int 0, .int 0, .int 0, .int 0, .int 0, .int 0, .int 0, .int 0, .null]))] H := hP
  have hD : va_D (va_A [(a, .inr (11, [.ref pa, .ref ca, .int n, .ref bt, v4, v5, v6, v7, v8, v9, v10, v11, v12, v13, .ref bd, v15, v16]))] s.heap.size) [(a, .inr (11, [.ref pa, .ref ca, .int n, .ref bt, v4, v5, v6, v7, v8, v9, v10, v11, v12, v13, .ref bd, v15, v16])), (q78, .inr (7, [.int 0, .int 0, .int 0, .int 0, .int 0, .int 0, .int 0, .int 0, .int 0, .null]))] := hD
  refine lv_dup hx hb d_X11_newPane_81 rfl ?_
  refine lv_iload_n hx hb d_X11_newPane_82 rfl (lv_at hl 1 rfl) ?_
  refine lv_aload_n hx hb d_X11_newPane_83 rfl (lv_at hl 0 rfl) ?_
  refine mk_get (ci := 11) (k := 2) (fs := [.ref pa, .ref ca, .int n, .ref bt, v4, v5, v6, v7, v8, v9, v10, v11, v12, v13, .ref bd, v15, v16]) (v := .int n) Z hK hP 0 rfl (by decide) mf_X11_23_11 rfl d_X11_newPane_84 ?_
  refine lv_iload_n hx hb d_X11_newPane_87 rfl (lv_at hl 2 rfl) ?_
  refine lv_iload_n hx hb d_X11_newPane_88 rfl (lv_at hl 3 rfl) ?_
  refine lv_aload_n hx hb d_X11_newPane_89 rfl (lv_at hl 0 rfl) ?_
  refine mk_get (ci := 11) (k := 14) (fs := [.ref pa, .ref ca, .int n, .ref bt, v4, v5, v6, v7, v8, v9, v10, v11, v12, v13, .ref bd, v15, v16]) (v := .ref bd) Z hK hP 0 rfl (by decide) mf_X11_75_11 rfl d_X11_newPane_90 ?_
  refine mk_callI (As := [.int 3, .int n, .int y, .int z, .ref bd]) (rest := [.ref q78]) (q := q78) (k := 5) Z (k_X7_init_7 (ids := ids) (D := D) _) hK hP hD hS hA (isC := [1]) (isR := [0]) (wc := [(q78, .inr (7, [.int 0, .int 0, .int 0, .int 0, .int 0, .int 0, .int 0, .int 0, .int 0, .null]))]) (wr := [(a, .inr (11, [.ref pa, .ref ca, .int n, .ref bt, v4, v5, v6, v7, v8, v9, v10, v11, v12, v13, .ref bd, v15, v16]))]) rfl rfl rfl rfl (by decide) rfl kw_414 kw_415 kw_14 kw_416 yd_X7_init rfl (by decide) (by decide) hl.1 (Nat.le_of_ble_eq_true rfl) d_X11_newPane_93 (by show _ ≤ 1; omega) (by show _ ≤ 10; omega) rfl (fun u93 H locs hP hD hS => ?_)
  have hP : va_P D fm_cls [(a, .inr (11, [.ref pa, .ref ca, .int n, .ref bt, v4, v5, v6, v7, v8, v9, v10, v11, v12, v13, .ref bd, v15, v16])), (q78, .inr (7, [.int 3, .int n, .int y, .int z, .int 0, .int 0, .int 0, .int 0, .int 0, .ref bd]))] H := hP
  have hD : va_D (va_A [(a, .inr (11, [.ref pa, .ref ca, .int n, .ref bt, v4, v5, v6, v7, v8, v9, v10, v11, v12, v13, .ref bd, v15, v16]))] s.heap.size) [(a, .inr (11, [.ref pa, .ref ca, .int n, .ref bt, v4, v5, v6, v7, v8, v9, v10, v11, v12, v13, .ref bd, v15, v16])), (q78, .inr (7, [.int 3, .int n, .int y, .int z, .int 0, .int 0, .int 0, .int 0, .int 0, .ref bd]))] := hD
  refine mk_retr (mc := 1) (ms := 10) (h0 := 4) (w0 := [(a, .inr (11, [.ref pa, .ref ca, .int n, .ref bt, v4, v5, v6, v7, v8, v9, v10, v11, v12, v13, .ref bd, v15, v16]))]) (post := (fun u : Nat → Nat => [(a, .inr (11, [.ref pa, .ref ca, .int n, .ref bt, v4, v5, v6, v7, v8, v9, v10, v11, v12, v13, .ref bd, v15, v16])), ((u 0), .inr (7, [.int 3, .int n, .int y, .int z, .int 0, .int 0, .int 0, .int 0, .int 0, .ref bd]))])) (r := fun u : Nat → Nat => u 0) Z hr (Or.inl ⟨_, rfl⟩) hlk hP hD hS (fun i => ([q78] : List Nat).getD i 0) rfl rfl ?_ ?_ d_X11_newPane_96
  · show _ ≤ 1; omega
  · show _ ≤ 10; first | omega | decide +kernel
theorem k_X11_newPane_4 {l : Launch} {D : va_G} {ids : Nat → ClassId} {a pa ca bt bd : Nat} {n y z : Int32} {v4 v5 v6 v7 v8 v9 v10 v11 v12 v13 v15 v16 : Value}  (sz : Nat) : mk_G (fun _ => True) l y_X11_newPane prog_1_method_38_code 4 (some (.object "FrostBids$Pane")) 4 1 10 D ids [(a, .inr (11, [.ref pa, .ref ca, .int n, .ref bt, v4, v5, v6, v7, v8, v9, v10, v11, v12, v13, .ref bd, v15, v16]))] [.ref a, .int 4, .int y, .int z] sz (mk_Qr D (fun u : Nat → Nat => u 0) (fun u : Nat → Nat => [(a, .inr (11, [.ref pa, .ref ca, .int n, .ref bt, v4, v5, v6, v7, v8, v9, v10, v11, v12, v13, .ref bd, v15, v16])), ((u 0), .inr (2, [.int 4, .int n, .int y, .int z, .int 0, .int 0, .int 0, .int 0, .int 0, .ref bd]))])) := by
  refine mk_openG rfl (Nat.le_of_ble_eq_true rfl) (fun p e s m args below meth c ls Z hr hlk hname hX hK hP hD hS hA hl hsz => ?_)
  subst hsz
  obtain ⟨hx, hb, hml, hown, hts⟩ := id Z
  have hl : lv_has ls 4 [(0, .ref a), (1, .int 4), (2, .int y), (3, .int z)] := hl
  have hN0 : fm_N 0 = 10 := rfl
  have hN1 : fm_N 1 = 10 := rfl
  have hN2 : fm_N 2 = 10 := rfl
  have hN3 : fm_N 3 = 10 := rfl
  have hN4 : fm_N 4 = 10 := rfl
  have hN5 : fm_N 5 = 10 := rfl
  have hN7 : fm_N 7 = 10 := rfl
  have hN9 : fm_N 9 = 12 := rfl
  refine lv_iload_n hx hb d_X11_newPane_0 rfl (lv_at hl 1 rfl) ?_
  refine lv_tableIn (off := 96) (tgt := 97) hx hb d_X11_newPane_1 (by decide) (by decide) rfl (by decide) ?_
  refine mk_new (ci := 2) (fs := [.int 0, .int 0, .int 0, .int 0, .int 0, .int 0, .int 0, .int 0, .int 0, .null]) Z (by decide) kw_429 kw_430 kw_15 hK hP hD hS hA mn_2 (by show _ ≤ 1; omega) (by show _ ≤ 10; omega) d_X11_newPane_97 (fun q97 H hP hD hS => ?_)
  have hP : va_P D fm_cls [(a, .inr (11, [.ref pa, .ref ca, .int n, .ref bt, v4, v5, v6, v7, v8, v9, v10, v11, v12, v13, .ref bd, v15, v16])), (q97, .inr (2, [.int 0, .int 0, .int 0, .int 0, .int 0, .int 0, .int 0, .int 0, .int 0, .null]))] H := hP
  have hD : va_D (va_A [(a, .inr (11, [.ref pa, .ref ca, .int n, .ref bt, v4, v5, v6, v7, v8, v9, v10, v11, v12, v13, .ref bd, v15, v16]))] s.heap.size) [(a, .inr (11, [.ref pa, .ref ca, .int n, .ref bt, v4, v5, v6, v7, v8, v9, v10, v11, v12, v13, .ref bd, v15, v16])), (q97, .inr (2, [.int 0, .int 0, .int 0, .int 0, .int 0, .int 0, .int 0, .int 0, .int 0, .null]))] := hD
  refine lv_dup hx hb d_X11_newPane_100 rfl ?_
  refine lv_iload_n hx hb d_X11_newPane_101 rfl (lv_at hl 1 rfl) ?_
  refine lv_aload_n hx hb d_X11_newPane_102 rfl (lv_at hl 0 rfl) ?_
  refine mk_get (ci := 11) (k := 2) (fs := [.ref pa, .ref ca, .int n, .ref bt, v4, v5, v6, v7, v8, v9, v10, v11, v12, v13, .ref bd, v15, v16]) (v := .int n) Z hK hP 0 rfl (by decide) mf_X11_23_11 rfl d_X11_newPane_103 ?_
  refine lv_iload_n hx hb d_X11_newPane_106 rfl (lv_at hl 2 rfl) ?_
  refine lv_iload_n hx hb d_X11_newPane_107 rfl (lv_at hl 3 rfl) ?_
  refine lv_aload_n hx hb d_X11_newPane_108 rfl (lv_at hl 0 rfl) ?_
  refine mk_get (ci := 11) (k := 14) (fs := [.ref pa, .ref ca, .int n, .ref bt, v4, v5, v6, v7, v8, v9, v10, v11, v12, v13, .ref bd, v15, v16]) (v := .ref bd) Z hK hP 0 rfl (by decide) mf_X11_75_11 rfl d_X11_newPane_109 ?_
  refine mk_callI (As := [.int 4, .int n, .int y, .int z, .ref bd]) (rest := [.ref q97]) (q := q97) (k := 5) Z (k_X2_init_2 (ids := ids) (D := D) _) hK hP hD hS hA (isC := [1]) (isR := [0]) (wc := [(q97, .inr (2, [.int 0, .int 0, .int 0, .int 0, .int 0, .int 0, .int 0, .int 0, .int 0, .null]))]) (wr := [(a, .inr (11, [.ref pa, .ref ca, .int n, .ref bt, v4, v5, v6, v7, v8, v9, v10, v11, v12, v13, .ref bd, v15, v16]))]) rfl rfl rfl rfl (by decide) rfl kw_431 kw_432 kw_15 kw_433 yd_X2_init rfl (by decide) (by decide) hl.1 (Nat.le_of_ble_eq_true rfl) d_X11_newPane_112 (by show _ ≤ 1; omega) (by show _ ≤ 10; omega) rfl (fun u112 H locs hP hD hS => ?_)
  have hP : va_P D fm_cls [(a, .inr (11, [.ref pa, .ref ca, .int n, .ref bt, v4, v5, v6, v7, v8, v9, v10, v11, v12, v13, .ref bd, v15, v16])), (q97, .inr (2, [.int 4, .int n, .int y, .int z, .int 0, .int 0, .int 0, .int 0, .int 0, .ref bd]))] H := hP
  have hD : va_D (va_A [(a, .inr (11, [.ref pa, .ref ca, .int n, .ref bt, v4, v5, v6, v7, v8, v9, v10, v11, v12, v13, .ref bd, v15, v16]))] s.heap.size) [(a, .inr (11, [.ref pa, .ref ca, .int n, .ref bt, v4, v5, v6, v7, v8, v9, v10, v11, v12, v13, .ref bd, v15, v16])), (q97, .inr (2, [.int 4, .int n, .int y, .int z, .int 0, .int 0, .int 0, .int 0, .int 0, .ref bd]))] := hD
  refine mk_retr (mc := 1) (ms := 10) (h0 := 4) (w0 := [(a, .inr (11, [.ref pa, .ref ca, .int n, .ref bt, v4, v5, v6, v7, v8, v9, v10, v11, v12, v13, .ref bd, v15, v16]))]) (post := (fun u : Nat → Nat => [(a, .inr (11, [.ref pa, .ref ca, .int n, .ref bt, v4, v5, v6, v7, v8, v9, v10, v11, v12, v13, .ref bd, v15, v16])), ((u 0), .inr (2, [.int 4, .int n, .int y, .int z, .int 0, .int 0, .int 0, .int 0, .int 0, .ref bd]))])) (r := fun u : Nat → Nat => u 0) Z hr (Or.inl ⟨_, rfl⟩) hlk hP hD hS (fun i => ([q97] : List Nat).getD i 0) rfl rfl ?_ ?_ d_X11_newPane_115
  · show _ ≤ 1; omega
  · show _ ≤ 10; first | omega | decide +kernel
theorem k_X11_newPane_5 {l : Launch} {D : va_G} {ids : Nat → ClassId} {a pa ca bt bd : Nat} {n y z : Int32} {v4 v5 v6 v7 v8 v9 v10 v11 v12 v13 v15 v16 : Value}  (sz : Nat) : mk_G (fun _ => True) l y_X11_newPane prog_1_method_38_code 4 (some (.object "FrostBids$Pane")) 4 1 10 D ids [(a, .inr (11, [.ref pa, .ref ca, .int n, .ref bt, v4, v5, v6, v7, v8, v9, v10, v11, v12, v13, .ref bd, v15, v16]))] [.ref a, .int 5, .int y, .int z] sz (mk_Qr D (fun u : Nat → Nat => u 0) (fun u : Nat → Nat => [(a, .inr (11, [.ref pa, .ref ca, .int n, .ref bt, v4, v5, v6, v7, v8, v9, v10, v11, v12, v13, .ref bd, v15, v16])), ((u 0), .inr (0, [.int 5, .int n, .int y, .int z, .int 0, .int 0, .int 0, .int 0, .int 0, .ref bd]))])) := by
  refine mk_openG rfl (Nat.le_of_ble_eq_true rfl) (fun p e s m args below meth c ls Z hr hlk hname hX hK hP hD hS hA hl hsz => ?_)
  subst hsz
  obtain ⟨hx, hb, hml, hown, hts⟩ := id Z
  have hl : lv_has ls 4 [(0, .ref a), (1, .int 5), (2, .int y), (3, .int z)] := hl
  have hN0 : fm_N 0 = 10 := rfl
  have hN1 : fm_N 1 = 10 := rfl
  have hN2 : fm_N 2 = 10 := rfl
  have hN3 : fm_N 3 = 10 := rfl
  have hN4 : fm_N 4 = 10 := rfl
  have hN5 : fm_N 5 = 10 := rfl
  have hN7 : fm_N 7 = 10 := rfl
  have hN9 : fm_N 9 = 12 := rfl
  refine lv_iload_n hx hb d_X11_newPane_0 rfl (lv_at hl 1 rfl) ?_
  refine lv_tableIn (off := 115) (tgt := 116) hx hb d_X11_newPane_1 (by decide) (by decide) rfl (by decide) ?_
  refine mk_new (ci := 0) (fs := [.int 0, .int 0, .int 0, .int 0, .int 0, .int 0, .int 0, .int 0, .int 0, .null]) Z (by decide) kw_446 kw_447 kw_16 hK hP hD hS hA mn_0 (by show _ ≤ 1; omega) (by show _ ≤ 10; omega) d_X11_newPane_116 (fun q116 H hP hD hS => ?_)
  have hP : va_P D fm_cls [(a, .inr (11, [.ref pa, .ref ca, .int n, .ref bt, v4, v5, v6, v7, v8, v9, v10, v11, v12, v13, .ref bd, v15, v16])), (q116, .inr (0, [.int 0, .int 0, .int 0, .int 0, .int 0, .int 0, .int 0, .int 0, .int 0, .null]))] H := hP
  have hD : va_D (va_A [(a, .inr (11, [.ref pa, .ref ca, .int n, .ref bt, v4, v5, v6, v7, v8, v9, v10, v11, v12, v13, .ref bd, v15, v16]))] s.heap.size) [(a, .inr (11, [.ref pa, .ref ca, .int n, .ref bt, v4, v5, v6, v7, v8, v9, v10, v11, v12, v13, .ref bd, v15, v16])), (q116, .inr (0, [.int 0, .int 0, .int 0, .int 0, .int 0, .int 0, .int 0, .int 0, .int 0, .null]))] := hD
  refine lv_dup hx hb d_X11_newPane_119 rfl ?_
  refine lv_iload_n hx hb d_X11_newPane_120 rfl (lv_at hl 1 rfl) ?_
  refine lv_aload_n hx hb d_X11_newPane_121 rfl (lv_at hl 0 rfl) ?_
  refine mk_get (ci := 11) (k := 2) (fs := [.ref pa, .ref ca, .int n, .ref bt, v4, v5, v6, v7, v8, v9, v10, v11, v12, v13, .ref bd, v15, v16]) (v := .int n) Z hK hP 0 rfl (by decide) mf_X11_23_11 rfl d_X11_newPane_122 ?_
  refine lv_iload_n hx hb d_X11_newPane_125 rfl (lv_at hl 2 rfl) ?_
  refine lv_iload_n hx hb d_X11_newPane_126 rfl (lv_at hl 3 rfl) ?_
  refine lv_aload_n hx hb d_X11_newPane_127 rfl (lv_at hl 0 rfl) ?_
  refine mk_get (ci := 11) (k := 14) (fs := [.ref pa, .ref ca, .int n, .ref bt, v4, v5, v6, v7, v8, v9, v10, v11, v12, v13, .ref bd, v15, v16]) (v := .ref bd) Z hK hP 0 rfl (by decide) mf_X11_75_11 rfl d_X11_newPane_128 ?_
  refine mk_callI (As := [.int 5, .int n, .int y, .int z, .ref bd]) (rest := [.ref q116]) (q := q116) (k := 5) Z (k_X0_init_0 (ids := ids) (D := D) _) hK hP hD hS hA (isC := [1]) (isR := [0]) (wc := [(q116, .inr (0, [.int 0, .int 0, .int 0, .int 0, .int 0, .int 0, .int 0, .int 0, .int 0, .null]))]) (wr := [(a, .inr (11, [.ref pa, .ref ca, .int n, .ref bt, v4, v5, v6, v7, v8, v9, v10, v11, v12, v13, .ref bd, v15, v16]))]) rfl rfl rfl rfl (by decide) rfl kw_448 kw_449 kw_16 kw_450 yd_X0_init rfl (by decide) (by decide) hl.1 (Nat.le_of_ble_eq_true rfl) d_X11_newPane_131 (by show _ ≤ 1; omega) (by show _ ≤ 10; omega) rfl (fun u131 H locs hP hD hS => ?_)
  have hP : va_P D fm_cls [(a, .inr (11, [.ref pa, .ref ca, .int n, .ref bt, v4, v5, v6, v7, v8, v9, v10, v11, v12, v13, .ref bd, v15, v16])), (q116, .inr (0, [.int 5, .int n, .int y, .int z, .int 0, .int 0, .int 0, .int 0, .int 0, .ref bd]))] H := hP
  have hD : va_D (va_A [(a, .inr (11, [.ref pa, .ref ca, .int n, .ref bt, v4, v5, v6, v7, v8, v9, v10, v11, v12, v13, .ref bd, v15, v16]))] s.heap.size) [(a, .inr (11, [.ref pa, .ref ca, .int n, .ref bt, v4, v5, v6, v7, v8, v9, v10, v11, v12, v13, .ref bd, v15, v16])), (q116, .inr (0, [.int 5, .int n, .int y, .int z, .int 0, .int 0, .int 0, .int 0, .int 0, .ref bd]))] := hD
  refine mk_retr (mc := 1) (ms := 10) (h0 := 4) (w0 := [(a, .inr (11, [.ref pa, .ref ca, .int n, .ref bt, v4, v5, v6, v7, v8, v9, v10, v11, v12, v13, .ref bd, v15, v16]))]) (post := (fun u : Nat → Nat => [(a, .inr (11, [.ref pa, .ref ca, .int n, .ref bt, v4, v5, v6, v7, v8, v9, v10, v11, v12, v13, .ref bd, v15, v16])), ((u 0), .inr (0, [.int 5, .int n, .int y, .int z, .int 0, .int 0, .int 0, .int 0, .int 0, .ref bd]))])) (r := fun u : Nat → Nat => u 0) Z hr (Or.inl ⟨_, rfl⟩) hlk hP hD hS (fun i => ([q116] : List Nat).getD i 0) rfl rfl ?_ ?_ d_X11_newPane_134
  · show _ ≤ 1; omega
  · show _ ≤ 10; first | omega | decide +kernel
theorem k_X11_newPane_6 {l : Launch} {D : va_G} {ids : Nat → ClassId} {a pa ca bt bd : Nat} {n y z : Int32} {v4 v5 v6 v7 v8 v9 v10 v11 v12 v13 v15 v16 : Value}  (sz : Nat) : mk_G (fun _ => True) l y_X11_newPane prog_1_method_38_code 4 (some (.object "FrostBids$Pane")) 4 3 20 D ids [(a, .inr (11, [.ref pa, .ref ca, .int n, .ref bt, v4, v5, v6, v7, v8, v9, v10, v11, v12, v13, .ref bd, v15, v16]))] [.ref a, .int 6, .int y, .int z] sz (mk_Qr D (fun u : Nat → Nat => u 0) (fun u : Nat → Nat => [(a, .inr (11, [.ref pa, .ref ca, .int n, .ref bt, v4, v5, v6, v7, v8, v9, v10, v11, v12, v13, .ref bd, v15, v16])), ((u 0), .inr (9, [.int 6, .int n, .int y, .int z, .int 0, .int 0, .int 0, .int 0, .int 0, .ref bd, .ref (u 1), .ref (u 2)])), ((u 1), .inl (ids 13, 4, .inl (fun _ => 0))), ((u 2), .inl (ids 13, 4, .inl (fun _ => 0)))])) := by
  refine mk_openG rfl (Nat.le_of_ble_eq_true rfl) (fun p e s m args below meth c ls Z hr hlk hname hX hK hP hD hS hA hl hsz => ?_)
  subst hsz
  obtain ⟨hx, hb, hml, hown, hts⟩ := id Z
  have hl : lv_has ls 4 [(0, .ref a), (1, .int 6), (2, .int y), (3, .int z)] := hl
  have hN0 : fm_N 0 = 10 := rfl
  have hN1 : fm_N 1 = 10 := rfl
  have hN2 : fm_N 2 = 10 := rfl
  have hN3 : fm_N 3 = 10 := rfl
  have hN4 : fm_N 4 = 10 := rfl
  have hN5 : fm_N 5 = 10 := rfl
  have hN7 : fm_N 7 = 10 := rfl
  have hN9 : fm_N 9 = 12 := rfl
  refine lv_iload_n hx hb d_X11_newPane_0 rfl (lv_at hl 1 rfl) ?_
  refine lv_tableIn (off := 134) (tgt := 135) hx hb d_X11_newPane_1 (by decide) (by decide) rfl (by decide) ?_
  refine mk_new (ci := 9) (fs := [.int 0, .int 0, .int 0, .int 0, .int 0, .int 0, .int 0, .int 0, .int 0, .null, .null, .null]) Z (by decide) kw_463 kw_464 kw_17 hK hP hD hS hA mn_9 (by show _ ≤ 3; omega) (by show _ ≤ 20; omega) d_X11_newPane_135 (fun q135 H hP hD hS => ?_)
  have hP : va_P D fm_cls [(a, .inr (11, [.ref pa, .ref ca, .int n, .ref bt, v4, v5, v6, v7, v8, v9, v10, v11, v12, v13, .ref bd, v15, v16])), (q135, .inr (9, [.int 0, .int 0, .int 0, .int 0, .int 0, .int 0, .int 0, .int 0, .int 0, .null, .null, .null]))] H := hP
  have hD : va_D (va_A [(a, .inr (11, [.ref pa, .ref ca, .int n, .ref bt, v4, v5, v6, v7, v8, v9, v10, v11, v12, v13, .ref bd, v15, v16]))] s.heap.size) [(a, .inr (11, [.ref pa, .ref ca, .int n, .ref bt, v4, v5, v6, v7, v8, v9, v10, v11, v12, v13, .ref bd, v15, v16])), (q135, .inr (9, [.int 0, .int 0, .int 0, .int 0, .int 0, .int 0, .int 0, .int 0, .int 0, .null, .null, .null]))] := hD
  refine lv_dup hx hb d_X11_newPane_138 rfl ?_
  refine lv_iload_n hx hb d_X11_newPane_139 rfl (lv_at hl 1 rfl) ?_
  refine lv_aload_n hx hb d_X11_newPane_140 rfl (lv_at hl 0 rfl) ?_
  refine mk_get (ci := 11) (k := 2) (fs := [.ref pa, .ref ca, .int n, .ref bt, v4, v5, v6, v7, v8, v9, v10, v11, v12, v13, .ref bd, v15, v16]) (v := .int n) Z hK hP 0 rfl (by decide) mf_X11_23_11 rfl d_X11_newPane_141 ?_
  refine lv_iload_n hx hb d_X11_newPane_144 rfl (lv_at hl 2 rfl) ?_
  refine lv_iload_n hx hb d_X11_newPane_145 rfl (lv_at hl 3 rfl) ?_
  refine lv_aload_n hx hb d_X11_newPane_146 rfl (lv_at hl 0 rfl) ?_
  refine mk_get (ci := 11) (k := 14) (fs := [.ref pa, .ref ca, .int n, .ref bt, v4, v5, v6, v7, v8, v9, v10, v11, v12, v13, .ref bd, v15, v16]) (v := .ref bd) Z hK hP 0 rfl (by decide) mf_X11_75_11 rfl d_X11_newPane_147 ?_
  refine mk_callI (As := [.int 6, .int n, .int y, .int z, .ref bd]) (rest := [.ref q135]) (q := q135) (k := 5) Z (k_X9_init_9 (ids := ids) (D := D) _) hK hP hD hS hA (isC := [1]) (isR := [0]) (wc := [(q135, .inr (9, [.int 0, .int 0, .int 0, .int 0, .int 0, .int 0, .int 0, .int 0, .int 0, .null, .null, .null]))]) (wr := [(a, .inr (11, [.ref pa, .ref ca, .int n, .ref bt, v4, v5, v6, v7, v8, v9, v10, v11, v12, v13, .ref bd, v15, v16]))]) rfl rfl rfl rfl (by decide) rfl kw_465 kw_466 kw_17 kw_467 yd_X9_init rfl (by decide) (by decide) hl.1 (Nat.le_of_ble_eq_true rfl) d_X11_newPane_150 (by show _ ≤ 3; omega) (by show _ ≤ 20; omega) rfl (fun u150 H locs hP hD hS => ?_)
  have hP : va_P D fm_cls [(a, .inr (11, [.ref pa, .ref ca, .int n, .ref bt, v4, v5, v6, v7, v8, v9, v10, v11, v12, v13, .ref bd, v15, v16])), (q135, .inr (9, [.int 6, .int n, .int y, .int z, .int 0, .int 0, .int 0, .int 0, .int 0, .ref bd, .ref (u150 0), .ref (u150 1)])), ((u150 0), .inl (ids 13, 4, .inl (fun _ => 0))), ((u150 1), .inl (ids 13, 4, .inl (fun _ => 0)))] H := hP
  have hD : va_D (va_A [(a, .inr (11, [.ref pa, .ref ca, .int n, .ref bt, v4, v5, v6, v7, v8, v9, v10, v11, v12, v13, .ref bd, v15, v16]))] s.heap.size) [(a, .inr (11, [.ref pa, .ref ca, .int n, .ref bt, v4, v5, v6, v7, v8, v9, v10, v11, v12, v13, .ref bd, v15, v16])), (q135, .inr (9, [.int 6, .int n, .int y, .int z, .int 0, .int 0, .int 0, .int 0, .int 0, .ref bd, .ref (u150 0), .ref (u150 1)])), ((u150 0), .inl (ids 13, 4, .inl (fun _ => 0))), ((u150 1), .inl (ids 13, 4, .inl (fun _ => 0)))] := hD
  refine mk_retr (mc := 3) (ms := 20) (h0 := 4) (w0 := [(a, .inr (11, [.ref pa, .ref ca, .int n, .ref bt, v4, v5, v6, v7, v8, v9, v10, v11, v12, v13, .ref bd, v15, v16]))]) (post := (fun u : Nat → Nat => [(a, .inr (11, [.ref pa, .ref ca, .int n, .ref bt, v4, v5, v6, v7, v8, v9, v10, v11, v12, v13, .ref bd, v15, v16])), ((u 0), .inr (9, [.int 6, .int n, .int y, .int z, .int 0, .int 0, .int 0, .int 0, .int 0, .ref bd, .ref (u 1), .ref (u 2)])), ((u 1), .inl (ids 13, 4, .inl (fun _ => 0))), ((u 2), .inl (ids 13, 4, .inl (fun _ => 0)))])) (r := fun u : Nat → Nat => u 0) Z hr (Or.inl ⟨_, rfl⟩) hlk hP hD hS (fun i => ([q135, (u150 0), (u150 1)] : List Nat).getD i 0) rfl rfl ?_ ?_ d_X11_newPane_153
  · show _ ≤ 3; omega
  · show _ ≤ 20; first | omega | decide +kernel
