-- ===== PART A: goes FIRST, ahead of the names: the tables' words, and 'selects' of the private methods out of them =====
/-- a private method of a class that the tables say can be made, by its rows of tables_1 -/
def lw_okq (q : MethodName × Nat) : Prop := (q.1.cls ≠ "java/lang/invoke/MethodHandle" ∧ q.1.cls ≠ "java/lang/invoke/VarHandle") ∧ Cond.instantiable q.1.cls q.2 ∈ tables_1 ∧ Cond.privateMethod q.1 ∈ tables_1 ∧ Cond.instanceMethod q.1 ∈ tables_1
theorem lw_p0 : lw_okq (⟨"FrostBids$Reader", "take", "(C)Z"⟩, 4) := ⟨⟨by decide +kernel, by decide +kernel⟩, List.mem_of_getElem? (i := 106) (by decide +kernel), List.mem_of_getElem? (i := 218) (by decide +kernel), List.mem_of_getElem? (i := 219) (by decide +kernel)⟩
theorem lw_p1 : lw_okq (⟨"FrostBids$Reader", "clause", "()Z"⟩, 4) := ⟨⟨by decide +kernel, by decide +kernel⟩, List.mem_of_getElem? (i := 106) (by decide +kernel), List.mem_of_getElem? (i := 222) (by decide +kernel), List.mem_of_getElem? (i := 223) (by decide +kernel)⟩
theorem lw_p2 : lw_okq (⟨"FrostBids$Reader", "word", "(Ljava/lang/String;)Z"⟩, 4) := ⟨⟨by decide +kernel, by decide +kernel⟩, List.mem_of_getElem? (i := 106) (by decide +kernel), List.mem_of_getElem? (i := 233) (by decide +kernel), List.mem_of_getElem? (i := 234) (by decide +kernel)⟩
theorem lw_p3 : lw_okq (⟨"FrostBids$Reader", "number", "()Z"⟩, 4) := ⟨⟨by decide +kernel, by decide +kernel⟩, List.mem_of_getElem? (i := 106) (by decide +kernel), List.mem_of_getElem? (i := 285) (by decide +kernel), List.mem_of_getElem? (i := 286) (by decide +kernel)⟩
theorem lw_p4 : lw_okq (⟨"FrostBids$Reader", "either", "(I)Z"⟩, 4) := ⟨⟨by decide +kernel, by decide +kernel⟩, List.mem_of_getElem? (i := 106) (by decide +kernel), List.mem_of_getElem? (i := 289) (by decide +kernel), List.mem_of_getElem? (i := 290) (by decide +kernel)⟩
theorem lw_p5 : lw_okq (⟨"FrostBids$Reader", "both", "(I)Z"⟩, 4) := ⟨⟨by decide +kernel, by decide +kernel⟩, List.mem_of_getElem? (i := 106) (by decide +kernel), List.mem_of_getElem? (i := 293) (by decide +kernel), List.mem_of_getElem? (i := 294) (by decide +kernel)⟩
theorem lw_p6 : lw_okq (⟨"FrostBids$Reader", "part", "(I)Z"⟩, 4) := ⟨⟨by decide +kernel, by decide +kernel⟩, List.mem_of_getElem? (i := 106) (by decide +kernel), List.mem_of_getElem? (i := 297) (by decide +kernel), List.mem_of_getElem? (i := 298) (by decide +kernel)⟩
theorem lw_p7 : lw_okq (⟨"FrostBids$Reader", "test", "()Z"⟩, 4) := ⟨⟨by decide +kernel, by decide +kernel⟩, List.mem_of_getElem? (i := 106) (by decide +kernel), List.mem_of_getElem? (i := 301) (by decide +kernel), List.mem_of_getElem? (i := 302) (by decide +kernel)⟩
theorem lw_p8 : lw_okq (⟨"FrostBids", "newPane", "(III)LFrostBids$Pane;"⟩, 17) := ⟨⟨by decide +kernel, by decide +kernel⟩, List.mem_of_getElem? (i := 22) (by decide +kernel), List.mem_of_getElem? (i := 325) (by decide +kernel), List.mem_of_getElem? (i := 326) (by decide +kernel)⟩
theorem lw_p9 : lw_okq (⟨"FrostBids", "isPane", "(I)Z"⟩, 17) := ⟨⟨by decide +kernel, by decide +kernel⟩, List.mem_of_getElem? (i := 22) (by decide +kernel), List.mem_of_getElem? (i := 547) (by decide +kernel), List.mem_of_getElem? (i := 548) (by decide +kernel)⟩
theorem lw_p10 : lw_okq (⟨"FrostBids", "heldTown", "()LFrostBids$Town;"⟩, 17) := ⟨⟨by decide +kernel, by decide +kernel⟩, List.mem_of_getElem? (i := 22) (by decide +kernel), List.mem_of_getElem? (i := 551) (by decide +kernel), List.mem_of_getElem? (i := 552) (by decide +kernel)⟩
theorem lw_p11 : lw_okq (⟨"FrostBids", "courseFromNow", "(II)LFrostBids$Course;"⟩, 17) := ⟨⟨by decide +kernel, by decide +kernel⟩, List.mem_of_getElem? (i := 22) (by decide +kernel), List.mem_of_getElem? (i := 565) (by decide +kernel), List.mem_of_getElem? (i := 566) (by decide +kernel)⟩
theorem lw_p12 : lw_okq (⟨"FrostBids$Course", "fillBites", "()V"⟩, 10) := ⟨⟨by decide +kernel, by decide +kernel⟩, List.mem_of_getElem? (i := 499) (by decide +kernel), List.mem_of_getElem? (i := 577) (by decide +kernel), List.mem_of_getElem? (i := 578) (by decide +kernel)⟩
theorem lw_p13 : lw_okq (⟨"FrostBids$Course", "cellsWhere", "(I)I"⟩, 10) := ⟨⟨by decide +kernel, by decide +kernel⟩, List.mem_of_getElem? (i := 499) (by decide +kernel), List.mem_of_getElem? (i := 584) (by decide +kernel), List.mem_of_getElem? (i := 585) (by decide +kernel)⟩
theorem lw_p14 : lw_okq (⟨"FrostBids$Course", "cellsOfTest", "(II)I"⟩, 10) := ⟨⟨by decide +kernel, by decide +kernel⟩, List.mem_of_getElem? (i := 499) (by decide +kernel), List.mem_of_getElem? (i := 588) (by decide +kernel), List.mem_of_getElem? (i := 589) (by decide +kernel)⟩
theorem lw_p15 : lw_okq (⟨"FrostBids$Course", "cellsBeside", "(I)I"⟩, 10) := ⟨⟨by decide +kernel, by decide +kernel⟩, List.mem_of_getElem? (i := 499) (by decide +kernel), List.mem_of_getElem? (i := 592) (by decide +kernel), List.mem_of_getElem? (i := 593) (by decide +kernel)⟩
def lw_privs_1 : List (MethodName × Nat) := [(⟨"FrostBids$Reader", "take", "(C)Z"⟩, 4), (⟨"FrostBids$Reader", "clause", "()Z"⟩, 4), (⟨"FrostBids$Reader", "word", "(Ljava/lang/String;)Z"⟩, 4), (⟨"FrostBids$Reader", "number", "()Z"⟩, 4), (⟨"FrostBids$Reader", "either", "(I)Z"⟩, 4), (⟨"FrostBids$Reader", "both", "(I)Z"⟩, 4), (⟨"FrostBids$Reader", "part", "(I)Z"⟩, 4), (⟨"FrostBids$Reader", "test", "()Z"⟩, 4), (⟨"FrostBids", "newPane", "(III)LFrostBids$Pane;"⟩, 17), (⟨"FrostBids", "isPane", "(I)Z"⟩, 17), (⟨"FrostBids", "heldTown", "()LFrostBids$Town;"⟩, 17), (⟨"FrostBids", "courseFromNow", "(II)LFrostBids$Course;"⟩, 17), (⟨"FrostBids$Course", "fillBites", "()V"⟩, 10), (⟨"FrostBids$Course", "cellsWhere", "(I)I"⟩, 10), (⟨"FrostBids$Course", "cellsOfTest", "(II)I"⟩, 10), (⟨"FrostBids$Course", "cellsBeside", "(I)I"⟩, 10)]
theorem lw_r1 : ∀ q ∈ lw_privs_1, lw_okq q := List.forall_mem_cons.mpr ⟨lw_p0, List.forall_mem_cons.mpr ⟨lw_p1, List.forall_mem_cons.mpr ⟨lw_p2, List.forall_mem_cons.mpr ⟨lw_p3, List.forall_mem_cons.mpr ⟨lw_p4, List.forall_mem_cons.mpr ⟨lw_p5, List.forall_mem_cons.mpr ⟨lw_p6, List.forall_mem_cons.mpr ⟨lw_p7, List.forall_mem_cons.mpr ⟨lw_p8, List.forall_mem_cons.mpr ⟨lw_p9, List.forall_mem_cons.mpr ⟨lw_p10, List.forall_mem_cons.mpr ⟨lw_p11, List.forall_mem_cons.mpr ⟨lw_p12, List.forall_mem_cons.mpr ⟨lw_p13, List.forall_mem_cons.mpr ⟨lw_p14, List.forall_mem_cons.mpr ⟨lw_p15, fun _ h => absurd h List.not_mem_nil⟩⟩⟩⟩⟩⟩⟩⟩⟩⟩⟩⟩⟩⟩⟩⟩
theorem lw_p16 : lw_okq (⟨"FrostBids", "offersBehind", "(I)I"⟩, 17) := ⟨⟨by decide +kernel, by decide +kernel⟩, List.mem_of_getElem? (i := 22) (by decide +kernel), List.mem_of_getElem? (i := 659) (by decide +kernel), List.mem_of_getElem? (i := 660) (by decide +kernel)⟩
theorem lw_p17 : lw_okq (⟨"FrostBids", "shutPanes", "()I"⟩, 17) := ⟨⟨by decide +kernel, by decide +kernel⟩, List.mem_of_getElem? (i := 22) (by decide +kernel), List.mem_of_getElem? (i := 677) (by decide +kernel), List.mem_of_getElem? (i := 678) (by decide +kernel)⟩
theorem lw_p18 : lw_okq (⟨"FrostBids", "iceBehind", "(II)I"⟩, 17) := ⟨⟨by decide +kernel, by decide +kernel⟩, List.mem_of_getElem? (i := 22) (by decide +kernel), List.mem_of_getElem? (i := 685) (by decide +kernel), List.mem_of_getElem? (i := 686) (by decide +kernel)⟩
theorem lw_p19 : lw_okq (⟨"FrostBids", "fillPays", "(I)V"⟩, 17) := ⟨⟨by decide +kernel, by decide +kernel⟩, List.mem_of_getElem? (i := 22) (by decide +kernel), List.mem_of_getElem? (i := 710) (by decide +kernel), List.mem_of_getElem? (i := 711) (by decide +kernel)⟩
theorem lw_p20 : lw_okq (⟨"FrostBids$Course", "breath", "()I"⟩, 10) := ⟨⟨by decide +kernel, by decide +kernel⟩, List.mem_of_getElem? (i := 499) (by decide +kernel), List.mem_of_getElem? (i := 718) (by decide +kernel), List.mem_of_getElem? (i := 719) (by decide +kernel)⟩
theorem lw_p21 : lw_okq (⟨"FrostBids", "rowsOfBreaths", "(I)I"⟩, 17) := ⟨⟨by decide +kernel, by decide +kernel⟩, List.mem_of_getElem? (i := 22) (by decide +kernel), List.mem_of_getElem? (i := 723) (by decide +kernel), List.mem_of_getElem? (i := 724) (by decide +kernel)⟩
theorem lw_p22 : lw_okq (⟨"FrostBids", "paidByRow", "(II)I"⟩, 17) := ⟨⟨by decide +kernel, by decide +kernel⟩, List.mem_of_getElem? (i := 22) (by decide +kernel), List.mem_of_getElem? (i := 727) (by decide +kernel), List.mem_of_getElem? (i := 728) (by decide +kernel)⟩
theorem lw_p23 : lw_okq (⟨"FrostBids", "breathedAt", "(III)I"⟩, 17) := ⟨⟨by decide +kernel, by decide +kernel⟩, List.mem_of_getElem? (i := 22) (by decide +kernel), List.mem_of_getElem? (i := 731) (by decide +kernel), List.mem_of_getElem? (i := 732) (by decide +kernel)⟩
theorem lw_p24 : lw_okq (⟨"FrostBids", "isSeenSo", "(IIII)Z"⟩, 17) := ⟨⟨by decide +kernel, by decide +kernel⟩, List.mem_of_getElem? (i := 22) (by decide +kernel), List.mem_of_getElem? (i := 743) (by decide +kernel), List.mem_of_getElem? (i := 744) (by decide +kernel)⟩
theorem lw_p25 : lw_okq (⟨"FrostBidsModel", "clauseHere", "()V"⟩, 21) := ⟨⟨by decide +kernel, by decide +kernel⟩, List.mem_of_getElem? (i := 931) (by decide +kernel), List.mem_of_getElem? (i := 1012) (by decide +kernel), List.mem_of_getElem? (i := 1013) (by decide +kernel)⟩
theorem lw_p26 : lw_okq (⟨"FrostBidsModel", "here", "()I"⟩, 21) := ⟨⟨by decide +kernel, by decide +kernel⟩, List.mem_of_getElem? (i := 931) (by decide +kernel), List.mem_of_getElem? (i := 1016) (by decide +kernel), List.mem_of_getElem? (i := 1017) (by decide +kernel)⟩
theorem lw_p27 : lw_okq (⟨"FrostBidsModel", "tellsHere", "(ILjava/lang/String;)V"⟩, 21) := ⟨⟨by decide +kernel, by decide +kernel⟩, List.mem_of_getElem? (i := 931) (by decide +kernel), List.mem_of_getElem? (i := 1021) (by decide +kernel), List.mem_of_getElem? (i := 1022) (by decide +kernel)⟩
theorem lw_p28 : lw_okq (⟨"FrostBidsModel", "spells", "(Ljava/lang/String;)V"⟩, 21) := ⟨⟨by decide +kernel, by decide +kernel⟩, List.mem_of_getElem? (i := 931) (by decide +kernel), List.mem_of_getElem? (i := 1025) (by decide +kernel), List.mem_of_getElem? (i := 1026) (by decide +kernel)⟩
theorem lw_p29 : lw_okq (⟨"FrostBidsModel", "must", "(I)V"⟩, 21) := ⟨⟨by decide +kernel, by decide +kernel⟩, List.mem_of_getElem? (i := 931) (by decide +kernel), List.mem_of_getElem? (i := 1031) (by decide +kernel), List.mem_of_getElem? (i := 1032) (by decide +kernel)⟩
theorem lw_p30 : lw_okq (⟨"FrostBidsModel", "figures", "()I"⟩, 21) := ⟨⟨by decide +kernel, by decide +kernel⟩, List.mem_of_getElem? (i := 931) (by decide +kernel), List.mem_of_getElem? (i := 1035) (by decide +kernel), List.mem_of_getElem? (i := 1036) (by decide +kernel)⟩
theorem lw_p31 : lw_okq (⟨"FrostBidsModel", "much", "(ILjava/lang/String;)V"⟩, 21) := ⟨⟨by decide +kernel, by decide +kernel⟩, List.mem_of_getElem? (i := 931) (by decide +kernel), List.mem_of_getElem? (i := 1041) (by decide +kernel), List.mem_of_getElem? (i := 1042) (by decide +kernel)⟩
def lw_privs_2 : List (MethodName × Nat) := [(⟨"FrostBids", "offersBehind", "(I)I"⟩, 17), (⟨"FrostBids", "shutPanes", "()I"⟩, 17), (⟨"FrostBids", "iceBehind", "(II)I"⟩, 17), (⟨"FrostBids", "fillPays", "(I)V"⟩, 17), (⟨"FrostBids$Course", "breath", "()I"⟩, 10), (⟨"FrostBids", "rowsOfBreaths", "(I)I"⟩, 17), (⟨"FrostBids", "paidByRow", "(II)I"⟩, 17), (⟨"FrostBids", "breathedAt", "(III)I"⟩, 17), (⟨"FrostBids", "isSeenSo", "(IIII)Z"⟩, 17), (⟨"FrostBidsModel", "clauseHere", "()V"⟩, 21), (⟨"FrostBidsModel", "here", "()I"⟩, 21), (⟨"FrostBidsModel", "tellsHere", "(ILjava/lang/String;)V"⟩, 21), (⟨"FrostBidsModel", "spells", "(Ljava/lang/String;)V"⟩, 21), (⟨"FrostBidsModel", "must", "(I)V"⟩, 21), (⟨"FrostBidsModel", "figures", "()I"⟩, 21), (⟨"FrostBidsModel", "much", "(ILjava/lang/String;)V"⟩, 21)]
theorem lw_r2 : ∀ q ∈ lw_privs_2, lw_okq q := List.forall_mem_cons.mpr ⟨lw_p16, List.forall_mem_cons.mpr ⟨lw_p17, List.forall_mem_cons.mpr ⟨lw_p18, List.forall_mem_cons.mpr ⟨lw_p19, List.forall_mem_cons.mpr ⟨lw_p20, List.forall_mem_cons.mpr ⟨lw_p21, List.forall_mem_cons.mpr ⟨lw_p22, List.forall_mem_cons.mpr ⟨lw_p23, List.forall_mem_cons.mpr ⟨lw_p24, List.forall_mem_cons.mpr ⟨lw_p25, List.forall_mem_cons.mpr ⟨lw_p26, List.forall_mem_cons.mpr ⟨lw_p27, List.forall_mem_cons.mpr ⟨lw_p28, List.forall_mem_cons.mpr ⟨lw_p29, List.forall_mem_cons.mpr ⟨lw_p30, List.forall_mem_cons.mpr ⟨lw_p31, fun _ h => absurd h List.not_mem_nil⟩⟩⟩⟩⟩⟩⟩⟩⟩⟩⟩⟩⟩⟩⟩⟩
theorem lw_p32 : lw_okq (⟨"FrostBidsModel", "some", "()V"⟩, 21) := ⟨⟨by decide +kernel, by decide +kernel⟩, List.mem_of_getElem? (i := 931) (by decide +kernel), List.mem_of_getElem? (i := 1045) (by decide +kernel), List.mem_of_getElem? (i := 1046) (by decide +kernel)⟩
theorem lw_p33 : lw_okq (⟨"FrostBidsModel", "every", "()V"⟩, 21) := ⟨⟨by decide +kernel, by decide +kernel⟩, List.mem_of_getElem? (i := 931) (by decide +kernel), List.mem_of_getElem? (i := 1049) (by decide +kernel), List.mem_of_getElem? (i := 1050) (by decide +kernel)⟩
theorem lw_p34 : lw_okq (⟨"FrostBidsModel", "factor", "()V"⟩, 21) := ⟨⟨by decide +kernel, by decide +kernel⟩, List.mem_of_getElem? (i := 931) (by decide +kernel), List.mem_of_getElem? (i := 1053) (by decide +kernel), List.mem_of_getElem? (i := 1054) (by decide +kernel)⟩
theorem lw_p35 : lw_okq (⟨"FrostBidsModel", "emits", "(I)V"⟩, 21) := ⟨⟨by decide +kernel, by decide +kernel⟩, List.mem_of_getElem? (i := 931) (by decide +kernel), List.mem_of_getElem? (i := 1057) (by decide +kernel), List.mem_of_getElem? (i := 1058) (by decide +kernel)⟩
theorem lw_p36 : lw_okq (⟨"FrostBidsModel", "among", "(Ljava/lang/String;)I"⟩, 21) := ⟨⟨by decide +kernel, by decide +kernel⟩, List.mem_of_getElem? (i := 931) (by decide +kernel), List.mem_of_getElem? (i := 1062) (by decide +kernel), List.mem_of_getElem? (i := 1063) (by decide +kernel)⟩
theorem lw_p37 : lw_okq (⟨"FrostBidsModel", "isPane", "(I)Z"⟩, 21) := ⟨⟨by decide +kernel, by decide +kernel⟩, List.mem_of_getElem? (i := 931) (by decide +kernel), List.mem_of_getElem? (i := 1076) (by decide +kernel), List.mem_of_getElem? (i := 1077) (by decide +kernel)⟩
theorem lw_p38 : lw_okq (⟨"FrostBidsModel", "offerOf", "(I)I"⟩, 21) := ⟨⟨by decide +kernel, by decide +kernel⟩, List.mem_of_getElem? (i := 931) (by decide +kernel), List.mem_of_getElem? (i := 1080) (by decide +kernel), List.mem_of_getElem? (i := 1081) (by decide +kernel)⟩
theorem lw_p39 : lw_okq (⟨"FrostBidsModel", "tellsOf", "(II)I"⟩, 21) := ⟨⟨by decide +kernel, by decide +kernel⟩, List.mem_of_getElem? (i := 931) (by decide +kernel), List.mem_of_getElem? (i := 1084) (by decide +kernel), List.mem_of_getElem? (i := 1085) (by decide +kernel)⟩
theorem lw_p40 : lw_okq (⟨"FrostBidsModel", "growsOf", "(II)I"⟩, 21) := ⟨⟨by decide +kernel, by decide +kernel⟩, List.mem_of_getElem? (i := 931) (by decide +kernel), List.mem_of_getElem? (i := 1092) (by decide +kernel), List.mem_of_getElem? (i := 1093) (by decide +kernel)⟩
theorem lw_p41 : lw_okq (⟨"FrostBidsModel", "biteOf", "(II)I"⟩, 21) := ⟨⟨by decide +kernel, by decide +kernel⟩, List.mem_of_getElem? (i := 931) (by decide +kernel), List.mem_of_getElem? (i := 1096) (by decide +kernel), List.mem_of_getElem? (i := 1097) (by decide +kernel)⟩
theorem lw_p42 : lw_okq (⟨"FrostBidsModel", "besides", "(II)I"⟩, 21) := ⟨⟨by decide +kernel, by decide +kernel⟩, List.mem_of_getElem? (i := 931) (by decide +kernel), List.mem_of_getElem? (i := 1100) (by decide +kernel), List.mem_of_getElem? (i := 1101) (by decide +kernel)⟩
theorem lw_p43 : lw_okq (⟨"FrostBidsModel", "becomes", "(II)I"⟩, 21) := ⟨⟨by decide +kernel, by decide +kernel⟩, List.mem_of_getElem? (i := 931) (by decide +kernel), List.mem_of_getElem? (i := 1109) (by decide +kernel), List.mem_of_getElem? (i := 1110) (by decide +kernel)⟩
theorem lw_p44 : lw_okq (⟨"FrostBidsModel", "breathes", "(I)I"⟩, 21) := ⟨⟨by decide +kernel, by decide +kernel⟩, List.mem_of_getElem? (i := 931) (by decide +kernel), List.mem_of_getElem? (i := 1129) (by decide +kernel), List.mem_of_getElem? (i := 1130) (by decide +kernel)⟩
theorem lw_p45 : lw_okq (⟨"FrostBidsModel", "holds", "()V"⟩, 21) := ⟨⟨by decide +kernel, by decide +kernel⟩, List.mem_of_getElem? (i := 931) (by decide +kernel), List.mem_of_getElem? (i := 1133) (by decide +kernel), List.mem_of_getElem? (i := 1134) (by decide +kernel)⟩
theorem lw_p46 : lw_okq (⟨"FrostBidsModel", "offers", "()I"⟩, 21) := ⟨⟨by decide +kernel, by decide +kernel⟩, List.mem_of_getElem? (i := 931) (by decide +kernel), List.mem_of_getElem? (i := 1142) (by decide +kernel), List.mem_of_getElem? (i := 1143) (by decide +kernel)⟩
theorem lw_p47 : lw_okq (⟨"FrostBidsModel", "shutOnes", "()I"⟩, 21) := ⟨⟨by decide +kernel, by decide +kernel⟩, List.mem_of_getElem? (i := 931) (by decide +kernel), List.mem_of_getElem? (i := 1146) (by decide +kernel), List.mem_of_getElem? (i := 1147) (by decide +kernel)⟩
def lw_privs_3 : List (MethodName × Nat) := [(⟨"FrostBidsModel", "some", "()V"⟩, 21), (⟨"FrostBidsModel", "every", "()V"⟩, 21), (⟨"FrostBidsModel", "factor", "()V"⟩, 21), (⟨"FrostBidsModel", "emits", "(I)V"⟩, 21), (⟨"FrostBidsModel", "among", "(Ljava/lang/String;)I"⟩, 21), (⟨"FrostBidsModel", "isPane", "(I)Z"⟩, 21), (⟨"FrostBidsModel", "offerOf", "(I)I"⟩, 21), (⟨"FrostBidsModel", "tellsOf", "(II)I"⟩, 21), (⟨"FrostBidsModel", "growsOf", "(II)I"⟩, 21), (⟨"FrostBidsModel", "biteOf", "(II)I"⟩, 21), (⟨"FrostBidsModel", "besides", "(II)I"⟩, 21), (⟨"FrostBidsModel", "becomes", "(II)I"⟩, 21), (⟨"FrostBidsModel", "breathes", "(I)I"⟩, 21), (⟨"FrostBidsModel", "holds", "()V"⟩, 21), (⟨"FrostBidsModel", "offers", "()I"⟩, 21), (⟨"FrostBidsModel", "shutOnes", "()I"⟩, 21)]
theorem lw_r3 : ∀ q ∈ lw_privs_3, lw_okq q := List.forall_mem_cons.mpr ⟨lw_p32, List.forall_mem_cons.mpr ⟨lw_p33, List.forall_mem_cons.mpr ⟨lw_p34, List.forall_mem_cons.mpr ⟨lw_p35, List.forall_mem_cons.mpr ⟨lw_p36, List.forall_mem_cons.mpr ⟨lw_p37, List.forall_mem_cons.mpr ⟨lw_p38, List.forall_mem_cons.mpr ⟨lw_p39, List.forall_mem_cons.mpr ⟨lw_p40, List.forall_mem_cons.mpr ⟨lw_p41, List.forall_mem_cons.mpr ⟨lw_p42, List.forall_mem_cons.mpr ⟨lw_p43, List.forall_mem_cons.mpr ⟨lw_p44, List.forall_mem_cons.mpr ⟨lw_p45, List.forall_mem_cons.mpr ⟨lw_p46, List.forall_mem_cons.mpr ⟨lw_p47, fun _ h => absurd h List.not_mem_nil⟩⟩⟩⟩⟩⟩⟩⟩⟩⟩⟩⟩⟩⟩⟩⟩
theorem lw_p48 : lw_okq (⟨"FrostBidsModel", "goesOn", "(I)V"⟩, 21) := ⟨⟨by decide +kernel, by decide +kernel⟩, List.mem_of_getElem? (i := 931) (by decide +kernel), List.mem_of_getElem? (i := 1154) (by decide +kernel), List.mem_of_getElem? (i := 1155) (by decide +kernel)⟩
theorem lw_p49 : lw_okq (⟨"FrostBidsModel", "goes", "()V"⟩, 21) := ⟨⟨by decide +kernel, by decide +kernel⟩, List.mem_of_getElem? (i := 931) (by decide +kernel), List.mem_of_getElem? (i := 1158) (by decide +kernel), List.mem_of_getElem? (i := 1159) (by decide +kernel)⟩
theorem lw_p50 : lw_okq (⟨"FrostBidsModel", "freezes", "(I)V"⟩, 21) := ⟨⟨by decide +kernel, by decide +kernel⟩, List.mem_of_getElem? (i := 931) (by decide +kernel), List.mem_of_getElem? (i := 1162) (by decide +kernel), List.mem_of_getElem? (i := 1163) (by decide +kernel)⟩
theorem lw_p51 : lw_okq (⟨"FrostBidsModel", "willBe", "(II)Z"⟩, 21) := ⟨⟨by decide +kernel, by decide +kernel⟩, List.mem_of_getElem? (i := 931) (by decide +kernel), List.mem_of_getElem? (i := 1166) (by decide +kernel), List.mem_of_getElem? (i := 1167) (by decide +kernel)⟩
theorem lw_p52 : lw_okq (⟨"FrostBidsModel", "keeps", "()V"⟩, 21) := ⟨⟨by decide +kernel, by decide +kernel⟩, List.mem_of_getElem? (i := 931) (by decide +kernel), List.mem_of_getElem? (i := 1174) (by decide +kernel), List.mem_of_getElem? (i := 1175) (by decide +kernel)⟩
theorem lw_p53 : lw_okq (⟨"FrostBidsModel", "goesBack", "()V"⟩, 21) := ⟨⟨by decide +kernel, by decide +kernel⟩, List.mem_of_getElem? (i := 931) (by decide +kernel), List.mem_of_getElem? (i := 1178) (by decide +kernel), List.mem_of_getElem? (i := 1179) (by decide +kernel)⟩
theorem lw_p54 : lw_okq (⟨"FrostBidsModel", "freezesOn", "(II)V"⟩, 21) := ⟨⟨by decide +kernel, by decide +kernel⟩, List.mem_of_getElem? (i := 931) (by decide +kernel), List.mem_of_getElem? (i := 1186) (by decide +kernel), List.mem_of_getElem? (i := 1187) (by decide +kernel)⟩
theorem lw_p55 : lw_okq (⟨"FrostBidsModel", "looksForPay", "(I)V"⟩, 21) := ⟨⟨by decide +kernel, by decide +kernel⟩, List.mem_of_getElem? (i := 931) (by decide +kernel), List.mem_of_getElem? (i := 1205) (by decide +kernel), List.mem_of_getElem? (i := 1206) (by decide +kernel)⟩
theorem lw_p56 : lw_okq (⟨"FrostBidsModel", "linesFrom", "(II)V"⟩, 21) := ⟨⟨by decide +kernel, by decide +kernel⟩, List.mem_of_getElem? (i := 931) (by decide +kernel), List.mem_of_getElem? (i := 1209) (by decide +kernel), List.mem_of_getElem? (i := 1210) (by decide +kernel)⟩
theorem lw_p57 : lw_okq (⟨"FrostBidsModel", "keepsLine", "(I)V"⟩, 21) := ⟨⟨by decide +kernel, by decide +kernel⟩, List.mem_of_getElem? (i := 931) (by decide +kernel), List.mem_of_getElem? (i := 1213) (by decide +kernel), List.mem_of_getElem? (i := 1214) (by decide +kernel)⟩
theorem lw_p58 : lw_okq (⟨"FrostBidsModel", "paidBy", "(I)I"⟩, 21) := ⟨⟨by decide +kernel, by decide +kernel⟩, List.mem_of_getElem? (i := 931) (by decide +kernel), List.mem_of_getElem? (i := 1217) (by decide +kernel), List.mem_of_getElem? (i := 1218) (by decide +kernel)⟩
theorem lw_p59 : lw_okq (⟨"FrostBidsModel", "fitting", "(III)I"⟩, 21) := ⟨⟨by decide +kernel, by decide +kernel⟩, List.mem_of_getElem? (i := 931) (by decide +kernel), List.mem_of_getElem? (i := 1229) (by decide +kernel), List.mem_of_getElem? (i := 1230) (by decide +kernel)⟩
theorem lw_p60 : lw_okq (⟨"FrostBidsModel", "areAsSeen", "(II)Z"⟩, 21) := ⟨⟨by decide +kernel, by decide +kernel⟩, List.mem_of_getElem? (i := 931) (by decide +kernel), List.mem_of_getElem? (i := 1233) (by decide +kernel), List.mem_of_getElem? (i := 1234) (by decide +kernel)⟩
theorem lw_p61 : lw_okq (⟨"FrostBidsModel", "goesBy", "(II)V"⟩, 21) := ⟨⟨by decide +kernel, by decide +kernel⟩, List.mem_of_getElem? (i := 931) (by decide +kernel), List.mem_of_getElem? (i := 1266) (by decide +kernel), List.mem_of_getElem? (i := 1267) (by decide +kernel)⟩
theorem lw_p62 : lw_okq (⟨"FrostBidsModel", "dripsActs", "(I)I"⟩, 21) := ⟨⟨by decide +kernel, by decide +kernel⟩, List.mem_of_getElem? (i := 931) (by decide +kernel), List.mem_of_getElem? (i := 1282) (by decide +kernel), List.mem_of_getElem? (i := 1283) (by decide +kernel)⟩
theorem lw_p63 : lw_okq (⟨"FrostBidsModel", "ranBody", "(I)V"⟩, 21) := ⟨⟨by decide +kernel, by decide +kernel⟩, List.mem_of_getElem? (i := 931) (by decide +kernel), List.mem_of_getElem? (i := 1289) (by decide +kernel), List.mem_of_getElem? (i := 1290) (by decide +kernel)⟩
def lw_privs_4 : List (MethodName × Nat) := [(⟨"FrostBidsModel", "goesOn", "(I)V"⟩, 21), (⟨"FrostBidsModel", "goes", "()V"⟩, 21), (⟨"FrostBidsModel", "freezes", "(I)V"⟩, 21), (⟨"FrostBidsModel", "willBe", "(II)Z"⟩, 21), (⟨"FrostBidsModel", "keeps", "()V"⟩, 21), (⟨"FrostBidsModel", "goesBack", "()V"⟩, 21), (⟨"FrostBidsModel", "freezesOn", "(II)V"⟩, 21), (⟨"FrostBidsModel", "looksForPay", "(I)V"⟩, 21), (⟨"FrostBidsModel", "linesFrom", "(II)V"⟩, 21), (⟨"FrostBidsModel", "keepsLine", "(I)V"⟩, 21), (⟨"FrostBidsModel", "paidBy", "(I)I"⟩, 21), (⟨"FrostBidsModel", "fitting", "(III)I"⟩, 21), (⟨"FrostBidsModel", "areAsSeen", "(II)Z"⟩, 21), (⟨"FrostBidsModel", "goesBy", "(II)V"⟩, 21), (⟨"FrostBidsModel", "dripsActs", "(I)I"⟩, 21), (⟨"FrostBidsModel", "ranBody", "(I)V"⟩, 21)]
theorem lw_r4 : ∀ q ∈ lw_privs_4, lw_okq q := List.forall_mem_cons.mpr ⟨lw_p48, List.forall_mem_cons.mpr ⟨lw_p49, List.forall_mem_cons.mpr ⟨lw_p50, List.forall_mem_cons.mpr ⟨lw_p51, List.forall_mem_cons.mpr ⟨lw_p52, List.forall_mem_cons.mpr ⟨lw_p53, List.forall_mem_cons.mpr ⟨lw_p54, List.forall_mem_cons.mpr ⟨lw_p55, List.forall_mem_cons.mpr ⟨lw_p56, List.forall_mem_cons.mpr ⟨lw_p57, List.forall_mem_cons.mpr ⟨lw_p58, List.forall_mem_cons.mpr ⟨lw_p59, List.forall_mem_cons.mpr ⟨lw_p60, List.forall_mem_cons.mpr ⟨lw_p61, List.forall_mem_cons.mpr ⟨lw_p62, List.forall_mem_cons.mpr ⟨lw_p63, fun _ h => absurd h List.not_mem_nil⟩⟩⟩⟩⟩⟩⟩⟩⟩⟩⟩⟩⟩⟩⟩⟩
theorem lw_p64 : lw_okq (⟨"FrostBidsModel", "plainDrips", "(I)I"⟩, 21) := ⟨⟨by decide +kernel, by decide +kernel⟩, List.mem_of_getElem? (i := 931) (by decide +kernel), List.mem_of_getElem? (i := 1293) (by decide +kernel), List.mem_of_getElem? (i := 1294) (by decide +kernel)⟩
theorem lw_p65 : lw_okq (⟨"FrostBidsModel", "creaksActs", "(I)I"⟩, 21) := ⟨⟨by decide +kernel, by decide +kernel⟩, List.mem_of_getElem? (i := 931) (by decide +kernel), List.mem_of_getElem? (i := 1297) (by decide +kernel), List.mem_of_getElem? (i := 1298) (by decide +kernel)⟩
theorem lw_p66 : lw_okq (⟨"FrostBidsModel", "plainCreaks", "(I)I"⟩, 21) := ⟨⟨by decide +kernel, by decide +kernel⟩, List.mem_of_getElem? (i := 931) (by decide +kernel), List.mem_of_getElem? (i := 1301) (by decide +kernel), List.mem_of_getElem? (i := 1302) (by decide +kernel)⟩
theorem lw_p67 : lw_okq (⟨"FrostBidsModel", "shinesActs", "(I)I"⟩, 21) := ⟨⟨by decide +kernel, by decide +kernel⟩, List.mem_of_getElem? (i := 931) (by decide +kernel), List.mem_of_getElem? (i := 1305) (by decide +kernel), List.mem_of_getElem? (i := 1306) (by decide +kernel)⟩
theorem lw_p68 : lw_okq (⟨"FrostBidsModel", "plainTelling", "(I)I"⟩, 21) := ⟨⟨by decide +kernel, by decide +kernel⟩, List.mem_of_getElem? (i := 931) (by decide +kernel), List.mem_of_getElem? (i := 1309) (by decide +kernel), List.mem_of_getElem? (i := 1310) (by decide +kernel)⟩
def lw_privs_5 : List (MethodName × Nat) := [(⟨"FrostBidsModel", "plainDrips", "(I)I"⟩, 21), (⟨"FrostBidsModel", "creaksActs", "(I)I"⟩, 21), (⟨"FrostBidsModel", "plainCreaks", "(I)I"⟩, 21), (⟨"FrostBidsModel", "shinesActs", "(I)I"⟩, 21), (⟨"FrostBidsModel", "plainTelling", "(I)I"⟩, 21)]
theorem lw_r5 : ∀ q ∈ lw_privs_5, lw_okq q := List.forall_mem_cons.mpr ⟨lw_p64, List.forall_mem_cons.mpr ⟨lw_p65, List.forall_mem_cons.mpr ⟨lw_p66, List.forall_mem_cons.mpr ⟨lw_p67, List.forall_mem_cons.mpr ⟨lw_p68, fun _ h => absurd h List.not_mem_nil⟩⟩⟩⟩⟩
def lw_privs : List (MethodName × Nat) := lw_privs_1 ++ (lw_privs_2 ++ (lw_privs_3 ++ (lw_privs_4 ++ (lw_privs_5))))
def lw_tbl : List Cond := k2_sels lw_privs ++ tables_1
theorem lw_privs_ok : ∀ q ∈ lw_privs, lw_okq q := by
  show ∀ q ∈ lw_privs_1 ++ (lw_privs_2 ++ (lw_privs_3 ++ (lw_privs_4 ++ (lw_privs_5)))), lw_okq q
  exact List.forall_mem_append.mpr ⟨lw_r1, List.forall_mem_append.mpr ⟨lw_r2, List.forall_mem_append.mpr ⟨lw_r3, List.forall_mem_append.mpr ⟨lw_r4, lw_r5⟩⟩⟩⟩
-- ===== end of PART A; then your names; then what follows =====
-- names (tool/part01.py prints them)
def cR0 : String := "FrostBids$Church"
def cT0 : u_T := fun k => match k with
  | 0 => ("FrostBids$Pane", "kind", "I", true)
  | 1 => ("FrostBids$Pane", "number", "I", true)
  | 2 => ("FrostBids$Pane", "v", "I", true)
  | 3 => ("FrostBids$Pane", "warm", "I", false)
  | 4 => ("FrostBids$Pane", "ice", "I", false)
  | 5 => ("FrostBids$Pane", "isShut", "Z", false)
  | 6 => ("FrostBids$Pane", "keptWarm", "I", false)
  | 7 => ("FrostBids$Pane", "keptIce", "I", false)
  | 8 => ("FrostBids$Pane", "wasShut", "Z", false)
  | _ => ("FrostBids$Pane", "bodies", "LFrostBids$Rows;", true)
def ct0 : Nat → FieldType := fun k => match k with
  | 0 => .int
  | 1 => .int
  | 2 => .int
  | 3 => .int
  | 4 => .int
  | 5 => .boolean
  | 6 => .int
  | 7 => .int
  | 8 => .boolean
  | _ => .object "FrostBids$Rows"
theorem cn0 : ∀ a, a < 10 → ∀ b, b < 10 → a ≠ b → (cT0 a).2.1 ≠ (cT0 b).2.1 := by decide +kernel
theorem ck0 : ∀ k, k < 10 → parseFieldDescriptor (cT0 k).2.2.1 = some (ct0 k) := by decide +kernel
theorem ci0 : ∀ w ∈ u_ws cR0 cT0 10, w ∈ lw_tbl ∧ goodWord w = true := by decide +kernel
def cR1 : String := "FrostBids$Course"
def cT1 : u_T := fun k => match k with
  | 0 => ("FrostBids$Course", "one", "LFrostBids$Pane;", true)
  | 1 => ("FrostBids$Course", "town", "LFrostBids$Town;", false)
  | 2 => ("FrostBids$Course", "cold", "I", false)
  | 3 => ("FrostBids$Course", "warm", "I", false)
  | 4 => ("FrostBids$Course", "v", "I", false)
  | 5 => ("FrostBids$Course", "hour", "I", false)
  | 6 => ("FrostBids$Course", "ice", "I", false)
  | 7 => ("FrostBids$Course", "isShut", "Z", false)
  | 8 => ("FrostBids$Course", "bites", "[I", true)
  | _ => ("FrostBids$Course", "stack", "[I", true)
def ct1 : Nat → FieldType := fun k => match k with
  | 0 => .object "FrostBids$Pane"
  | 1 => .object "FrostBids$Town"
  | 2 => .int
  | 3 => .int
  | 4 => .int
  | 5 => .int
  | 6 => .int
  | 7 => .boolean
  | 8 => .array .int
  | _ => .array .int
theorem cn1 : ∀ a, a < 10 → ∀ b, b < 10 → a ≠ b → (cT1 a).2.1 ≠ (cT1 b).2.1 := by decide +kernel
theorem ck1 : ∀ k, k < 10 → parseFieldDescriptor (cT1 k).2.2.1 = some (ct1 k) := by decide +kernel
theorem ci1 : ∀ w ∈ u_ws cR1 cT1 10, w ∈ lw_tbl ∧ goodWord w = true := by decide +kernel
def cR2 : String := "FrostBids$Jail"
def cT2 : u_T := fun k => match k with
  | 0 => ("FrostBids$Pane", "kind", "I", true)
  | 1 => ("FrostBids$Pane", "number", "I", true)
  | 2 => ("FrostBids$Pane", "v", "I", true)
  | 3 => ("FrostBids$Pane", "warm", "I", false)
  | 4 => ("FrostBids$Pane", "ice", "I", false)
  | 5 => ("FrostBids$Pane", "isShut", "Z", false)
  | 6 => ("FrostBids$Pane", "keptWarm", "I", false)
  | 7 => ("FrostBids$Pane", "keptIce", "I", false)
  | 8 => ("FrostBids$Pane", "wasShut", "Z", false)
  | _ => ("FrostBids$Pane", "bodies", "LFrostBids$Rows;", true)
def ct2 : Nat → FieldType := fun k => match k with
  | 0 => .int
  | 1 => .int
  | 2 => .int
  | 3 => .int
  | 4 => .int
  | 5 => .boolean
  | 6 => .int
  | 7 => .int
  | 8 => .boolean
  | _ => .object "FrostBids$Rows"
theorem cn2 : ∀ a, a < 10 → ∀ b, b < 10 → a ≠ b → (cT2 a).2.1 ≠ (cT2 b).2.1 := by decide +kernel
theorem ck2 : ∀ k, k < 10 → parseFieldDescriptor (cT2 k).2.2.1 = some (ct2 k) := by decide +kernel
theorem ci2 : ∀ w ∈ u_ws cR2 cT2 10, w ∈ lw_tbl ∧ goodWord w = true := by decide +kernel
def cR3 : String := "FrostBids$Kitchen"
def cT3 : u_T := fun k => match k with
  | 0 => ("FrostBids$Pane", "kind", "I", true)
  | 1 => ("FrostBids$Pane", "number", "I", true)
  | 2 => ("FrostBids$Pane", "v", "I", true)
  | 3 => ("FrostBids$Pane", "warm", "I", false)
  | 4 => ("FrostBids$Pane", "ice", "I", false)
  | 5 => ("FrostBids$Pane", "isShut", "Z", false)
  | 6 => ("FrostBids$Pane", "keptWarm", "I", false)
  | 7 => ("FrostBids$Pane", "keptIce", "I", false)
  | 8 => ("FrostBids$Pane", "wasShut", "Z", false)
  | _ => ("FrostBids$Pane", "bodies", "LFrostBids$Rows;", true)
def ct3 : Nat → FieldType := fun k => match k with
  | 0 => .int
  | 1 => .int
  | 2 => .int
  | 3 => .int
  | 4 => .int
  | 5 => .boolean
  | 6 => .int
  | 7 => .int
  | 8 => .boolean
  | _ => .object "FrostBids$Rows"
theorem cn3 : ∀ a, a < 10 → ∀ b, b < 10 → a ≠ b → (cT3 a).2.1 ≠ (cT3 b).2.1 := by decide +kernel
theorem ck3 : ∀ k, k < 10 → parseFieldDescriptor (cT3 k).2.2.1 = some (ct3 k) := by decide +kernel
theorem ci3 : ∀ w ∈ u_ws cR3 cT3 10, w ∈ lw_tbl ∧ goodWord w = true := by decide +kernel
def cR4 : String := "FrostBids$Nursery"
def cT4 : u_T := fun k => match k with
  | 0 => ("FrostBids$Pane", "kind", "I", true)
  | 1 => ("FrostBids$Pane", "number", "I", true)
  | 2 => ("FrostBids$Pane", "v", "I", true)
  | 3 => ("FrostBids$Pane", "warm", "I", false)
  | 4 => ("FrostBids$Pane", "ice", "I", false)
  | 5 => ("FrostBids$Pane", "isShut", "Z", false)
  | 6 => ("FrostBids$Pane", "keptWarm", "I", false)
  | 7 => ("FrostBids$Pane", "keptIce", "I", false)
  | 8 => ("FrostBids$Pane", "wasShut", "Z", false)
  | _ => ("FrostBids$Pane", "bodies", "LFrostBids$Rows;", true)
def ct4 : Nat → FieldType := fun k => match k with
  | 0 => .int
  | 1 => .int
  | 2 => .int
  | 3 => .int
  | 4 => .int
  | 5 => .boolean
  | 6 => .int
  | 7 => .int
  | 8 => .boolean
  | _ => .object "FrostBids$Rows"
theorem cn4 : ∀ a, a < 10 → ∀ b, b < 10 → a ≠ b → (cT4 a).2.1 ≠ (cT4 b).2.1 := by decide +kernel
theorem ck4 : ∀ k, k < 10 → parseFieldDescriptor (cT4 k).2.2.1 = some (ct4 k) := by decide +kernel
theorem ci4 : ∀ w ∈ u_ws cR4 cT4 10, w ∈ lw_tbl ∧ goodWord w = true := by decide +kernel
def cR5 : String := "FrostBids$Pane"
def cT5 : u_T := fun k => match k with
  | 0 => ("FrostBids$Pane", "kind", "I", true)
  | 1 => ("FrostBids$Pane", "number", "I", true)
  | 2 => ("FrostBids$Pane", "v", "I", true)
  | 3 => ("FrostBids$Pane", "warm", "I", false)
  | 4 => ("FrostBids$Pane", "ice", "I", false)
  | 5 => ("FrostBids$Pane", "isShut", "Z", false)
  | 6 => ("FrostBids$Pane", "keptWarm", "I", false)
  | 7 => ("FrostBids$Pane", "keptIce", "I", false)
  | 8 => ("FrostBids$Pane", "wasShut", "Z", false)
  | _ => ("FrostBids$Pane", "bodies", "LFrostBids$Rows;", true)
def ct5 : Nat → FieldType := fun k => match k with
  | 0 => .int
  | 1 => .int
  | 2 => .int
  | 3 => .int
  | 4 => .int
  | 5 => .boolean
  | 6 => .int
  | 7 => .int
  | 8 => .boolean
  | _ => .object "FrostBids$Rows"
theorem cn5 : ∀ a, a < 10 → ∀ b, b < 10 → a ≠ b → (cT5 a).2.1 ≠ (cT5 b).2.1 := by decide +kernel
theorem ck5 : ∀ k, k < 10 → parseFieldDescriptor (cT5 k).2.2.1 = some (ct5 k) := by decide +kernel
theorem ci5 : ∀ w ∈ u_ws cR5 cT5 10, w ∈ lw_tbl ∧ goodWord w = true := by decide +kernel
def cR6 : String := "FrostBids$Reader"
def cT6 : u_T := fun k => match k with
  | 0 => ("FrostBids$Reader", "signs", "[I", true)
  | 1 => ("FrostBids$Reader", "town", "LFrostBids$Town;", false)
  | 2 => ("FrostBids$Reader", "place", "I", false)
  | _ => ("FrostBids$Reader", "number", "I", false)
def ct6 : Nat → FieldType := fun k => match k with
  | 0 => .array .int
  | 1 => .object "FrostBids$Town"
  | 2 => .int
  | _ => .int
theorem cn6 : ∀ a, a < 4 → ∀ b, b < 4 → a ≠ b → (cT6 a).2.1 ≠ (cT6 b).2.1 := by decide +kernel
theorem ck6 : ∀ k, k < 4 → parseFieldDescriptor (cT6 k).2.2.1 = some (ct6 k) := by decide +kernel
theorem ci6 : ∀ w ∈ u_ws cR6 cT6 4, w ∈ lw_tbl ∧ goodWord w = true := by decide +kernel
def cR7 : String := "FrostBids$Rectory"
def cT7 : u_T := fun k => match k with
  | 0 => ("FrostBids$Pane", "kind", "I", true)
  | 1 => ("FrostBids$Pane", "number", "I", true)
  | 2 => ("FrostBids$Pane", "v", "I", true)
  | 3 => ("FrostBids$Pane", "warm", "I", false)
  | 4 => ("FrostBids$Pane", "ice", "I", false)
  | 5 => ("FrostBids$Pane", "isShut", "Z", false)
  | 6 => ("FrostBids$Pane", "keptWarm", "I", false)
  | 7 => ("FrostBids$Pane", "keptIce", "I", false)
  | 8 => ("FrostBids$Pane", "wasShut", "Z", false)
  | _ => ("FrostBids$Pane", "bodies", "LFrostBids$Rows;", true)
def ct7 : Nat → FieldType := fun k => match k with
  | 0 => .int
  | 1 => .int
  | 2 => .int
  | 3 => .int
  | 4 => .int
  | 5 => .boolean
  | 6 => .int
  | 7 => .int
  | 8 => .boolean
  | _ => .object "FrostBids$Rows"
theorem cn7 : ∀ a, a < 10 → ∀ b, b < 10 → a ≠ b → (cT7 a).2.1 ≠ (cT7 b).2.1 := by decide +kernel
theorem ck7 : ∀ k, k < 10 → parseFieldDescriptor (cT7 k).2.2.1 = some (ct7 k) := by decide +kernel
theorem ci7 : ∀ w ∈ u_ws cR7 cT7 10, w ∈ lw_tbl ∧ goodWord w = true := by decide +kernel
def cR8 : String := "FrostBids$Rows"
def cT8 : u_T := fun k => match k with
  | 0 => ("FrostBids$Rows", "most", "I", true)
  | 1 => ("FrostBids$Rows", "numbers", "[I", true)
  | 2 => ("FrostBids$Rows", "kept", "[I", true)
  | 3 => ("FrostBids$Rows", "came", "I", false)
  | _ => ("FrostBids$Rows", "keptCame", "I", false)
def ct8 : Nat → FieldType := fun k => match k with
  | 0 => .int
  | 1 => .array .int
  | 2 => .array .int
  | 3 => .int
  | _ => .int
theorem cn8 : ∀ a, a < 5 → ∀ b, b < 5 → a ≠ b → (cT8 a).2.1 ≠ (cT8 b).2.1 := by decide +kernel
theorem ck8 : ∀ k, k < 5 → parseFieldDescriptor (cT8 k).2.2.1 = some (ct8 k) := by decide +kernel
theorem ci8 : ∀ w ∈ u_ws cR8 cT8 5, w ∈ lw_tbl ∧ goodWord w = true := by decide +kernel
def cR9 : String := "FrostBids$Told"
def cT9 : u_T := fun k => match k with
  | 0 => ("FrostBids$Pane", "kind", "I", true)
  | 1 => ("FrostBids$Pane", "number", "I", true)
  | 2 => ("FrostBids$Pane", "v", "I", true)
  | 3 => ("FrostBids$Pane", "warm", "I", false)
  | 4 => ("FrostBids$Pane", "ice", "I", false)
  | 5 => ("FrostBids$Pane", "isShut", "Z", false)
  | 6 => ("FrostBids$Pane", "keptWarm", "I", false)
  | 7 => ("FrostBids$Pane", "keptIce", "I", false)
  | 8 => ("FrostBids$Pane", "wasShut", "Z", false)
  | 9 => ("FrostBids$Pane", "bodies", "LFrostBids$Rows;", true)
  | 10 => ("FrostBids$Told", "places", "[I", true)
  | _ => ("FrostBids$Told", "keptPlaces", "[I", true)
def ct9 : Nat → FieldType := fun k => match k with
  | 0 => .int
  | 1 => .int
  | 2 => .int
  | 3 => .int
  | 4 => .int
  | 5 => .boolean
  | 6 => .int
  | 7 => .int
  | 8 => .boolean
  | 9 => .object "FrostBids$Rows"
  | 10 => .array .int
  | _ => .array .int
theorem cn9 : ∀ a, a < 12 → ∀ b, b < 12 → a ≠ b → (cT9 a).2.1 ≠ (cT9 b).2.1 := by decide +kernel
theorem ck9 : ∀ k, k < 12 → parseFieldDescriptor (cT9 k).2.2.1 = some (ct9 k) := by decide +kernel
theorem ci9 : ∀ w ∈ u_ws cR9 cT9 12, w ∈ lw_tbl ∧ goodWord w = true := by decide +kernel
def cR10 : String := "FrostBids$Town"
def cT10 : u_T := fun k => match k with
  | 0 => ("FrostBids$Town", "fern", "I", false)
  | 1 => ("FrostBids$Town", "tower", "I", false)
  | 2 => ("FrostBids$Town", "clauses", "I", false)
  | 3 => ("FrostBids$Town", "worths", "[I", true)
  | 4 => ("FrostBids$Town", "ends", "[I", true)
  | 5 => ("FrostBids$Town", "signCount", "I", false)
  | 6 => ("FrostBids$Town", "signs", "[I", true)
  | _ => ("FrostBids$Town", "values", "[I", true)
def ct10 : Nat → FieldType := fun k => match k with
  | 0 => .int
  | 1 => .int
  | 2 => .int
  | 3 => .array .int
  | 4 => .array .int
  | 5 => .int
  | 6 => .array .int
  | _ => .array .int
theorem cn10 : ∀ a, a < 8 → ∀ b, b < 8 → a ≠ b → (cT10 a).2.1 ≠ (cT10 b).2.1 := by decide +kernel
theorem ck10 : ∀ k, k < 8 → parseFieldDescriptor (cT10 k).2.2.1 = some (ct10 k) := by decide +kernel
theorem ci10 : ∀ w ∈ u_ws cR10 cT10 8, w ∈ lw_tbl ∧ goodWord w = true := by decide +kernel
def cR11 : String := "FrostBids"
def cT11 : u_T := fun k => match k with
  | 0 => ("FrostBids", "panes", "[LFrostBids$Pane;", true)
  | 1 => ("FrostBids", "courses", "[LFrostBids$Course;", true)
  | 2 => ("FrostBids", "paneCount", "I", false)
  | 3 => ("FrostBids", "bareTown", "LFrostBids$Town;", true)
  | 4 => ("FrostBids", "towns", "[LFrostBids$Town;", true)
  | 5 => ("FrostBids", "townCount", "I", false)
  | 6 => ("FrostBids", "tape", "LFrostBids$Rows;", true)
  | 7 => ("FrostBids", "reader", "LFrostBids$Reader;", true)
  | 8 => ("FrostBids", "coldNow", "I", false)
  | 9 => ("FrostBids", "paidNow", "I", false)
  | 10 => ("FrostBids", "hourNow", "I", false)
  | 11 => ("FrostBids", "seenRows", "LFrostBids$Rows;", true)
  | 12 => ("FrostBids", "planRows", "LFrostBids$Rows;", true)
  | 13 => ("FrostBids", "bookRows", "LFrostBids$Rows;", true)
  | 14 => ("FrostBids", "bodies", "LFrostBids$Rows;", true)
  | 15 => ("FrostBids", "keptNumbers", "LFrostBids$Rows;", true)
  | _ => ("FrostBids", "pays", "[I", true)
def ct11 : Nat → FieldType := fun k => match k with
  | 0 => .array (.object "FrostBids$Pane")
  | 1 => .array (.object "FrostBids$Course")
  | 2 => .int
  | 3 => .object "FrostBids$Town"
  | 4 => .array (.object "FrostBids$Town")
  | 5 => .int
  | 6 => .object "FrostBids$Rows"
  | 7 => .object "FrostBids$Reader"
  | 8 => .int
  | 9 => .int
  | 10 => .int
  | 11 => .object "FrostBids$Rows"
  | 12 => .object "FrostBids$Rows"
  | 13 => .object "FrostBids$Rows"
  | 14 => .object "FrostBids$Rows"
  | 15 => .object "FrostBids$Rows"
  | _ => .array .int
theorem cn11 : ∀ a, a < 17 → ∀ b, b < 17 → a ≠ b → (cT11 a).2.1 ≠ (cT11 b).2.1 := by decide +kernel
theorem ck11 : ∀ k, k < 17 → parseFieldDescriptor (cT11 k).2.2.1 = some (ct11 k) := by decide +kernel
theorem ci11 : ∀ w ∈ u_ws cR11 cT11 17, w ∈ lw_tbl ∧ goodWord w = true := by decide +kernel
def cR12 : String := "FrostBidsModel"
def cT12 : u_T := fun k => match k with
  | 0 => ("FrostBidsModel", "thrown", "I", false)
  | 1 => ("FrostBidsModel", "s", "[I", true)
  | 2 => ("FrostBidsModel", "image", "[I", true)
  | 3 => ("FrostBidsModel", "frame", "[I", true)
  | 4 => ("FrostBidsModel", "hasImage", "Z", false)
  | 5 => ("FrostBidsModel", "act", "I", false)
  | 6 => ("FrostBidsModel", "spot", "I", false)
  | 7 => ("FrostBidsModel", "end", "I", false)
  | 8 => ("FrostBidsModel", "isWrong", "Z", false)
  | 9 => ("FrostBidsModel", "open", "I", false)
  | 10 => ("FrostBidsModel", "by", "[I", true)
  | 11 => ("FrostBidsModel", "truths", "[Z", true)
  | 12 => ("FrostBidsModel", "pays", "[I", true)
  | 13 => ("FrostBidsModel", "line", "[I", true)
  | 14 => ("FrostBidsModel", "bestLine", "[I", true)
  | 15 => ("FrostBidsModel", "mostPaid", "I", false)
  | 16 => ("FrostBidsModel", "bodies", "[I", true)
  | 17 => ("FrostBidsModel", "ran", "I", false)
  | 18 => ("FrostBidsModel", "kind", "I", false)
  | 19 => ("FrostBidsModel", "number", "I", false)
  | _ => ("FrostBidsModel", "tellsV", "I", false)
def ct12 : Nat → FieldType := fun k => match k with
  | 0 => .int
  | 1 => .array .int
  | 2 => .array .int
  | 3 => .array .int
  | 4 => .boolean
  | 5 => .int
  | 6 => .int
  | 7 => .int
  | 8 => .boolean
  | 9 => .int
  | 10 => .array .int
  | 11 => .array .boolean
  | 12 => .array .int
  | 13 => .array .int
  | 14 => .array .int
  | 15 => .int
  | 16 => .array .int
  | 17 => .int
  | 18 => .int
  | 19 => .int
  | _ => .int
theorem cn12 : ∀ a, a < 21 → ∀ b, b < 21 → a ≠ b → (cT12 a).2.1 ≠ (cT12 b).2.1 := by decide +kernel
theorem ck12 : ∀ k, k < 21 → parseFieldDescriptor (cT12 k).2.2.1 = some (ct12 k) := by decide +kernel
theorem ci12 : ∀ w ∈ u_ws cR12 cT12 21, w ∈ lw_tbl ∧ goodWord w = true := by decide +kernel
def fm_cls : List vw_C := [(cR0, cT0, 10), (cR1, cT1, 10), (cR2, cT2, 10), (cR3, cT3, 10), (cR4, cT4, 10), (cR5, cT5, 10), (cR6, cT6, 4), (cR7, cT7, 10), (cR8, cT8, 5), (cR9, cT9, 12), (cR10, cT10, 8), (cR11, cT11, 17), (cR12, cT12, 21)]
def fm_R (c : Nat) : String := match c with
  | 0 => cR0
  | 1 => cR1
  | 2 => cR2
  | 3 => cR3
  | 4 => cR4
  | 5 => cR5
  | 6 => cR6
  | 7 => cR7
  | 8 => cR8
  | 9 => cR9
  | 10 => cR10
  | 11 => cR11
  | _ => cR12
def fm_T (c : Nat) : u_T := match c with
  | 0 => cT0
  | 1 => cT1
  | 2 => cT2
  | 3 => cT3
  | 4 => cT4
  | 5 => cT5
  | 6 => cT6
  | 7 => cT7
  | 8 => cT8
  | 9 => cT9
  | 10 => cT10
  | 11 => cT11
  | _ => cT12
def fm_ty (c : Nat) : Nat → FieldType := match c with
  | 0 => ct0
  | 1 => ct1
  | 2 => ct2
  | 3 => ct3
  | 4 => ct4
  | 5 => ct5
  | 6 => ct6
  | 7 => ct7
  | 8 => ct8
  | 9 => ct9
  | 10 => ct10
  | 11 => ct11
  | _ => ct12
def fm_N (c : Nat) : Nat := match c with
  | 0 => 10
  | 1 => 10
  | 2 => 10
  | 3 => 10
  | 4 => 10
  | 5 => 10
  | 6 => 4
  | 7 => 10
  | 8 => 5
  | 9 => 12
  | 10 => 8
  | 11 => 17
  | _ => 21
theorem fm_cls_at (c : Nat) (hc : c < 13) : fm_cls[c]? = some (fm_R c, fm_T c, fm_N c) := by
  match c, hc with
  | 0, _ => exact rfl
  | 1, _ => exact rfl
  | 2, _ => exact rfl
  | 3, _ => exact rfl
  | 4, _ => exact rfl
  | 5, _ => exact rfl
  | 6, _ => exact rfl
  | 7, _ => exact rfl
  | 8, _ => exact rfl
  | 9, _ => exact rfl
  | 10, _ => exact rfl
  | 11, _ => exact rfl
  | 12, _ => exact rfl
theorem fm_uin (c : Nat) (hc : c < 13) : ∀ w ∈ u_ws (fm_R c) (fm_T c) (fm_N c), w ∈ lw_tbl ∧ goodWord w = true := by
  match c, hc with
  | 0, _ => exact ci0
  | 1, _ => exact ci1
  | 2, _ => exact ci2
  | 3, _ => exact ci3
  | 4, _ => exact ci4
  | 5, _ => exact ci5
  | 6, _ => exact ci6
  | 7, _ => exact ci7
  | 8, _ => exact ci8
  | 9, _ => exact ci9
  | 10, _ => exact ci10
  | 11, _ => exact ci11
  | 12, _ => exact ci12
theorem fm_tyok (c : Nat) (hc : c < 13) : ∀ k, k < fm_N c → parseFieldDescriptor (fm_T c k).2.2.1 = some (fm_ty c k) := by
  match c, hc with
  | 0, _ => exact ck0
  | 1, _ => exact ck1
  | 2, _ => exact ck2
  | 3, _ => exact ck3
  | 4, _ => exact ck4
  | 5, _ => exact ck5
  | 6, _ => exact ck6
  | 7, _ => exact ck7
  | 8, _ => exact ck8
  | 9, _ => exact ck9
  | 10, _ => exact ck10
  | 11, _ => exact ck11
  | 12, _ => exact ck12
theorem fm_nm (c : Nat) (hc : c < 13) : ∀ a, a < fm_N c → ∀ b, b < fm_N c → a ≠ b → (fm_T c a).2.1 ≠ (fm_T c b).2.1 := by
  match c, hc with
  | 0, _ => exact cn0
  | 1, _ => exact cn1
  | 2, _ => exact cn2
  | 3, _ => exact cn3
  | 4, _ => exact cn4
  | 5, _ => exact cn5
  | 6, _ => exact cn6
  | 7, _ => exact cn7
  | 8, _ => exact cn8
  | 9, _ => exact cn9
  | 10, _ => exact cn10
  | 11, _ => exact cn11
  | 12, _ => exact cn12
def y_X0_init : MethodName := ⟨"FrostBids$Church", "<init>", "(IIIILFrostBids$Rows;)V"⟩
def y_X0_growth : MethodName := ⟨"FrostBids$Church", "growth", "(LFrostBids$Course;I)I"⟩
def y_X0_drips : MethodName := ⟨"FrostBids$Church", "drips", "(I)I"⟩
def y_X1_init : MethodName := ⟨"FrostBids$Course", "<init>", "(LFrostBids$Pane;LFrostBids$Town;)V"⟩
def y_X1_start : MethodName := ⟨"FrostBids$Course", "start", "(LFrostBids$Town;II)V"⟩
def y_X1_offer : MethodName := ⟨"FrostBids$Course", "offer", "()I"⟩
def y_X1_frozenBeside : MethodName := ⟨"FrostBids$Course", "frozenBeside", "(I)I"⟩
def y_X1_growthAt : MethodName := ⟨"FrostBids$Course", "growthAt", "(I)I"⟩
def y_X1_goHours : MethodName := ⟨"FrostBids$Course", "goHours", "(I)V"⟩
def y_X1_goHour : MethodName := ⟨"FrostBids$Course", "goHour", "()V"⟩
def y_X1_goBreathed : MethodName := ⟨"FrostBids$Course", "goBreathed", "(II)I"⟩
def y_X1_goPlan : MethodName := ⟨"FrostBids$Course", "goPlan", "(LFrostBids$Rows;)I"⟩
def y_X1_breath : MethodName := ⟨"FrostBids$Course", "breath", "()I"⟩
def y_X1_fillBites : MethodName := ⟨"FrostBids$Course", "fillBites", "()V"⟩
def y_X1_cellsWhere : MethodName := ⟨"FrostBids$Course", "cellsWhere", "(I)I"⟩
def y_X1_cellsOfTest : MethodName := ⟨"FrostBids$Course", "cellsOfTest", "(II)I"⟩
def y_X1_cellsBeside : MethodName := ⟨"FrostBids$Course", "cellsBeside", "(I)I"⟩
def y_X2_init : MethodName := ⟨"FrostBids$Jail", "<init>", "(IIIILFrostBids$Rows;)V"⟩
def y_X2_growth : MethodName := ⟨"FrostBids$Jail", "growth", "(LFrostBids$Course;I)I"⟩
def y_X2_shines : MethodName := ⟨"FrostBids$Jail", "shines", "(I)I"⟩
def y_X3_init : MethodName := ⟨"FrostBids$Kitchen", "<init>", "(IIIILFrostBids$Rows;)V"⟩
def y_X3_growth : MethodName := ⟨"FrostBids$Kitchen", "growth", "(LFrostBids$Course;I)I"⟩
def y_X3_drips : MethodName := ⟨"FrostBids$Kitchen", "drips", "(I)I"⟩
def y_X4_init : MethodName := ⟨"FrostBids$Nursery", "<init>", "(IIIILFrostBids$Rows;)V"⟩
def y_X4_growth : MethodName := ⟨"FrostBids$Nursery", "growth", "(LFrostBids$Course;I)I"⟩
def y_X4_creaks : MethodName := ⟨"FrostBids$Nursery", "creaks", "(I)I"⟩
def y_X5_init : MethodName := ⟨"FrostBids$Pane", "<init>", "(IIIILFrostBids$Rows;)V"⟩
def y_X5_growth : MethodName := ⟨"FrostBids$Pane", "growth", "(LFrostBids$Course;I)I"⟩
def y_X5_drips : MethodName := ⟨"FrostBids$Pane", "drips", "(I)I"⟩
def y_X5_creaks : MethodName := ⟨"FrostBids$Pane", "creaks", "(I)I"⟩
def y_X5_shines : MethodName := ⟨"FrostBids$Pane", "shines", "(I)I"⟩
def y_X5_keep : MethodName := ⟨"FrostBids$Pane", "keep", "()V"⟩
def y_X5_takeBack : MethodName := ⟨"FrostBids$Pane", "takeBack", "()V"⟩
def y_X6_init : MethodName := ⟨"FrostBids$Reader", "<init>", "()V"⟩
def y_X6_readInto : MethodName := ⟨"FrostBids$Reader", "readInto", "(LFrostBids$Town;LFrostBids$Rows;)I"⟩
def y_X6_clause : MethodName := ⟨"FrostBids$Reader", "clause", "()Z"⟩
def y_X6_wordFrom : MethodName := ⟨"FrostBids$Reader", "wordFrom", "(I)Ljava/lang/String;"⟩
def y_X6_either : MethodName := ⟨"FrostBids$Reader", "either", "(I)Z"⟩
def y_X6_both : MethodName := ⟨"FrostBids$Reader", "both", "(I)Z"⟩
def y_X6_part : MethodName := ⟨"FrostBids$Reader", "part", "(I)Z"⟩
def y_X6_test : MethodName := ⟨"FrostBids$Reader", "test", "()Z"⟩
def y_X6_valuesSo : MethodName := ⟨"FrostBids$Reader", "valuesSo", "(II)I"⟩
def y_X6_word : MethodName := ⟨"FrostBids$Reader", "word", "(Ljava/lang/String;)Z"⟩
def y_X6_number : MethodName := ⟨"FrostBids$Reader", "number", "()Z"⟩
def y_X6_take : MethodName := ⟨"FrostBids$Reader", "take", "(C)Z"⟩
def y_X7_init : MethodName := ⟨"FrostBids$Rectory", "<init>", "(IIIILFrostBids$Rows;)V"⟩
def y_X7_growth : MethodName := ⟨"FrostBids$Rectory", "growth", "(LFrostBids$Course;I)I"⟩
def y_X7_shines : MethodName := ⟨"FrostBids$Rectory", "shines", "(I)I"⟩
def y_X8_init : MethodName := ⟨"FrostBids$Rows", "<init>", "(I)V"⟩
def y_X8_size : MethodName := ⟨"FrostBids$Rows", "size", "()I"⟩
def y_X8_isFull : MethodName := ⟨"FrostBids$Rows", "isFull", "()Z"⟩
def y_X8_at : MethodName := ⟨"FrostBids$Rows", "at", "(II)I"⟩
def y_X8_add : MethodName := ⟨"FrostBids$Rows", "add", "(III)I"⟩
def y_X8_clear : MethodName := ⟨"FrostBids$Rows", "clear", "()I"⟩
def y_X8_keep : MethodName := ⟨"FrostBids$Rows", "keep", "()V"⟩
def y_X8_takeBack : MethodName := ⟨"FrostBids$Rows", "takeBack", "()V"⟩
def y_X9_init : MethodName := ⟨"FrostBids$Told", "<init>", "(IIIILFrostBids$Rows;)V"⟩
def y_X9_change : MethodName := ⟨"FrostBids$Told", "change", "(II)I"⟩
def y_X9_growth : MethodName := ⟨"FrostBids$Told", "growth", "(LFrostBids$Course;I)I"⟩
def y_X9_creaks : MethodName := ⟨"FrostBids$Told", "creaks", "(I)I"⟩
def y_X9_keep : MethodName := ⟨"FrostBids$Told", "keep", "()V"⟩
def y_X9_takeBack : MethodName := ⟨"FrostBids$Told", "takeBack", "()V"⟩
def y_X10_init : MethodName := ⟨"FrostBids$Town", "<init>", "()V"⟩
def y_X10_clear : MethodName := ⟨"FrostBids$Town", "clear", "()V"⟩
def y_X10_addSign : MethodName := ⟨"FrostBids$Town", "addSign", "(II)V"⟩
def y_X10_addClause : MethodName := ⟨"FrostBids$Town", "addClause", "(I)V"⟩
def y_X10_offerOf : MethodName := ⟨"FrostBids$Town", "offerOf", "(I)I"⟩
def y_X11_init : MethodName := ⟨"FrostBids", "<init>", "()V"⟩
def y_X11_feed : MethodName := ⟨"FrostBids", "feed", "(I)I"⟩
def y_X11_town : MethodName := ⟨"FrostBids", "town", "()I"⟩
def y_X11_pane : MethodName := ⟨"FrostBids", "pane", "(III)I"⟩
def y_X11_of : MethodName := ⟨"FrostBids", "of", "(II)I"⟩
def y_X11_grows : MethodName := ⟨"FrostBids", "grows", "(II)I"⟩
def y_X11_row : MethodName := ⟨"FrostBids", "row", "(III)I"⟩
def y_X11_set : MethodName := ⟨"FrostBids", "set", "(III)I"⟩
def y_X11_cold : MethodName := ⟨"FrostBids", "cold", "(I)I"⟩
def y_X11_shut : MethodName := ⟨"FrostBids", "shut", "(IZ)I"⟩
def y_X11_breathe : MethodName := ⟨"FrostBids", "breathe", "(I)I"⟩
def y_X11_told : MethodName := ⟨"FrostBids", "told", "(I)I"⟩
def y_X11_pass : MethodName := ⟨"FrostBids", "pass", "(I)I"⟩
def y_X11_on : MethodName := ⟨"FrostBids", "on", "(II)I"⟩
def y_X11_best : MethodName := ⟨"FrostBids", "best", "(III)I"⟩
def y_X11_heat : MethodName := ⟨"FrostBids", "heat", "(III)I"⟩
def y_X11_comes : MethodName := ⟨"FrostBids", "comes", "(II)I"⟩
def y_X11_breaths : MethodName := ⟨"FrostBids", "breaths", "(II)I"⟩
def y_X11_see : MethodName := ⟨"FrostBids", "see", "(III)I"⟩
def y_X11_colds : MethodName := ⟨"FrostBids", "colds", "(I)I"⟩
def y_X11_warms : MethodName := ⟨"FrostBids", "warms", "(I)I"⟩
def y_X11_firm : MethodName := ⟨"FrostBids", "firm", "(II)I"⟩
def y_X11_odds : MethodName := ⟨"FrostBids", "odds", "(IIII)J"⟩
def y_X11_mean : MethodName := ⟨"FrostBids", "mean", "(I)J"⟩
def y_X11_plan : MethodName := ⟨"FrostBids", "plan", "(II)I"⟩
def y_X11_done : MethodName := ⟨"FrostBids", "done", "(I)I"⟩
def y_X11_book : MethodName := ⟨"FrostBids", "book", "(II)I"⟩
def y_X11_looked : MethodName := ⟨"FrostBids", "looked", "()I"⟩
def y_X11_act : MethodName := ⟨"FrostBids", "act", "(III)I"⟩
def y_X11_trace : MethodName := ⟨"FrostBids", "trace", "(I)I"⟩
def y_X11_as : MethodName := ⟨"FrostBids", "as", "(II)I"⟩
def y_X11_image : MethodName := ⟨"FrostBids", "image", "()I"⟩
def y_X11_undo : MethodName := ⟨"FrostBids", "undo", "()I"⟩
def y_X11_count : MethodName := ⟨"FrostBids", "count", "(I)I"⟩
def y_X11_isWithin : MethodName := ⟨"FrostBids", "isWithin", "(II)Z"⟩
def y_X11_isPane : MethodName := ⟨"FrostBids", "isPane", "(I)Z"⟩
def y_X11_heldTown : MethodName := ⟨"FrostBids", "heldTown", "()LFrostBids$Town;"⟩
def y_X11_newPane : MethodName := ⟨"FrostBids", "newPane", "(III)LFrostBids$Pane;"⟩
def y_X11_isTakenFor : MethodName := ⟨"FrostBids", "isTakenFor", "(LFrostBids$Pane;I)Z"⟩
def y_X11_shutPanes : MethodName := ⟨"FrostBids", "shutPanes", "()I"⟩
def y_X11_courseFromNow : MethodName := ⟨"FrostBids", "courseFromNow", "(II)LFrostBids$Course;"⟩
def y_X11_iceBehind : MethodName := ⟨"FrostBids", "iceBehind", "(II)I"⟩
def y_X11_offersBehind : MethodName := ⟨"FrostBids", "offersBehind", "(I)I"⟩
def y_X11_isSeenSo : MethodName := ⟨"FrostBids", "isSeenSo", "(IIII)Z"⟩
def y_X11_fillPays : MethodName := ⟨"FrostBids", "fillPays", "(I)V"⟩
def y_X11_rowsOfBreaths : MethodName := ⟨"FrostBids", "rowsOfBreaths", "(I)I"⟩
def y_X11_breathedAt : MethodName := ⟨"FrostBids", "breathedAt", "(III)I"⟩
def y_X11_paidByRow : MethodName := ⟨"FrostBids", "paidByRow", "(II)I"⟩
def y_X11_partOf : MethodName := ⟨"FrostBids", "partOf", "(III)J"⟩
def y_X12_init : MethodName := ⟨"FrostBidsModel", "<init>", "()V"⟩
def y_X12_in : MethodName := ⟨"FrostBidsModel", "in", "(III)Z"⟩
def y_X12_isPane : MethodName := ⟨"FrostBidsModel", "isPane", "(I)Z"⟩
def y_X12_isIce : MethodName := ⟨"FrostBidsModel", "isIce", "(I)Z"⟩
def y_X12_keeps : MethodName := ⟨"FrostBidsModel", "keeps", "()V"⟩
def y_X12_goesBack : MethodName := ⟨"FrostBidsModel", "goesBack", "()V"⟩
def y_X12_feed : MethodName := ⟨"FrostBidsModel", "feed", "(I)I"⟩
def y_X12_here : MethodName := ⟨"FrostBidsModel", "here", "()I"⟩
def y_X12_must : MethodName := ⟨"FrostBidsModel", "must", "(I)V"⟩
def y_X12_spells : MethodName := ⟨"FrostBidsModel", "spells", "(Ljava/lang/String;)V"⟩
def y_X12_figures : MethodName := ⟨"FrostBidsModel", "figures", "()I"⟩
def y_X12_among : MethodName := ⟨"FrostBidsModel", "among", "(Ljava/lang/String;)I"⟩
def y_X12_emits : MethodName := ⟨"FrostBidsModel", "emits", "(I)V"⟩
def y_X12_factor : MethodName := ⟨"FrostBidsModel", "factor", "()V"⟩
def y_X12_every : MethodName := ⟨"FrostBidsModel", "every", "()V"⟩
def y_X12_some : MethodName := ⟨"FrostBidsModel", "some", "()V"⟩
def y_X12_much : MethodName := ⟨"FrostBidsModel", "much", "(ILjava/lang/String;)V"⟩
def y_X12_tellsHere : MethodName := ⟨"FrostBidsModel", "tellsHere", "(ILjava/lang/String;)V"⟩
def y_X12_clauseHere : MethodName := ⟨"FrostBidsModel", "clauseHere", "()V"⟩
def y_X12_town : MethodName := ⟨"FrostBidsModel", "town", "()I"⟩
def y_X12_tellsOf : MethodName := ⟨"FrostBidsModel", "tellsOf", "(II)I"⟩
def y_X12_besides : MethodName := ⟨"FrostBidsModel", "besides", "(II)I"⟩
def y_X12_biteOf : MethodName := ⟨"FrostBidsModel", "biteOf", "(II)I"⟩
def y_X12_growsOf : MethodName := ⟨"FrostBidsModel", "growsOf", "(II)I"⟩
def y_X12_offerOf : MethodName := ⟨"FrostBidsModel", "offerOf", "(I)I"⟩
def y_X12_offers : MethodName := ⟨"FrostBidsModel", "offers", "()I"⟩
def y_X12_becomes : MethodName := ⟨"FrostBidsModel", "becomes", "(II)I"⟩
def y_X12_pane : MethodName := ⟨"FrostBidsModel", "pane", "(III)I"⟩
def y_X12_of : MethodName := ⟨"FrostBidsModel", "of", "(II)I"⟩
def y_X12_grows : MethodName := ⟨"FrostBidsModel", "grows", "(II)I"⟩
def y_X12_row : MethodName := ⟨"FrostBidsModel", "row", "(III)I"⟩
def y_X12_set : MethodName := ⟨"FrostBidsModel", "set", "(III)I"⟩
def y_X12_cold : MethodName := ⟨"FrostBidsModel", "cold", "(I)I"⟩
def y_X12_shut : MethodName := ⟨"FrostBidsModel", "shut", "(IZ)I"⟩
def y_X12_breathes : MethodName := ⟨"FrostBidsModel", "breathes", "(I)I"⟩
def y_X12_holds : MethodName := ⟨"FrostBidsModel", "holds", "()V"⟩
def y_X12_breathe : MethodName := ⟨"FrostBidsModel", "breathe", "(I)I"⟩
def y_X12_shutOnes : MethodName := ⟨"FrostBidsModel", "shutOnes", "()I"⟩
def y_X12_told : MethodName := ⟨"FrostBidsModel", "told", "(I)I"⟩
def y_X12_willBe : MethodName := ⟨"FrostBidsModel", "willBe", "(II)Z"⟩
def y_X12_freezes : MethodName := ⟨"FrostBidsModel", "freezes", "(I)V"⟩
def y_X12_goes : MethodName := ⟨"FrostBidsModel", "goes", "()V"⟩
def y_X12_goesOn : MethodName := ⟨"FrostBidsModel", "goesOn", "(I)V"⟩
def y_X12_freezesOn : MethodName := ⟨"FrostBidsModel", "freezesOn", "(II)V"⟩
def y_X12_pass : MethodName := ⟨"FrostBidsModel", "pass", "(I)I"⟩
def y_X12_on : MethodName := ⟨"FrostBidsModel", "on", "(II)I"⟩
def y_X12_best : MethodName := ⟨"FrostBidsModel", "best", "(III)I"⟩
def y_X12_heat : MethodName := ⟨"FrostBidsModel", "heat", "(III)I"⟩
def y_X12_comes : MethodName := ⟨"FrostBidsModel", "comes", "(II)I"⟩
def y_X12_looksForPay : MethodName := ⟨"FrostBidsModel", "looksForPay", "(I)V"⟩
def y_X12_paidBy : MethodName := ⟨"FrostBidsModel", "paidBy", "(I)I"⟩
def y_X12_keepsLine : MethodName := ⟨"FrostBidsModel", "keepsLine", "(I)V"⟩
def y_X12_linesFrom : MethodName := ⟨"FrostBidsModel", "linesFrom", "(II)V"⟩
def y_X12_breaths : MethodName := ⟨"FrostBidsModel", "breaths", "(II)I"⟩
def y_X12_see : MethodName := ⟨"FrostBidsModel", "see", "(III)I"⟩
def y_X12_areAsSeen : MethodName := ⟨"FrostBidsModel", "areAsSeen", "(II)Z"⟩
def y_X12_fitting : MethodName := ⟨"FrostBidsModel", "fitting", "(III)I"⟩
def y_X12_colds : MethodName := ⟨"FrostBidsModel", "colds", "(I)I"⟩
def y_X12_warms : MethodName := ⟨"FrostBidsModel", "warms", "(I)I"⟩
def y_X12_firm : MethodName := ⟨"FrostBidsModel", "firm", "(II)I"⟩
def y_X12_lowest : MethodName := ⟨"FrostBidsModel", "lowest", "(JJI)J"⟩
def y_X12_odds : MethodName := ⟨"FrostBidsModel", "odds", "(IIII)J"⟩
def y_X12_mean : MethodName := ⟨"FrostBidsModel", "mean", "(I)J"⟩
def y_X12_plan : MethodName := ⟨"FrostBidsModel", "plan", "(II)I"⟩
def y_X12_goesBy : MethodName := ⟨"FrostBidsModel", "goesBy", "(II)V"⟩
def y_X12_done : MethodName := ⟨"FrostBidsModel", "done", "(I)I"⟩
def y_X12_book : MethodName := ⟨"FrostBidsModel", "book", "(II)I"⟩
def y_X12_looked : MethodName := ⟨"FrostBidsModel", "looked", "()I"⟩
def y_X12_ranBody : MethodName := ⟨"FrostBidsModel", "ranBody", "(I)V"⟩
def y_X12_isUnder : MethodName := ⟨"FrostBidsModel", "isUnder", "(II)Z"⟩
def y_X12_plainDrips : MethodName := ⟨"FrostBidsModel", "plainDrips", "(I)I"⟩
def y_X12_dripsActs : MethodName := ⟨"FrostBidsModel", "dripsActs", "(I)I"⟩
def y_X12_plainCreaks : MethodName := ⟨"FrostBidsModel", "plainCreaks", "(I)I"⟩
def y_X12_creaksActs : MethodName := ⟨"FrostBidsModel", "creaksActs", "(I)I"⟩
def y_X12_plainTelling : MethodName := ⟨"FrostBidsModel", "plainTelling", "(I)I"⟩
def y_X12_shinesActs : MethodName := ⟨"FrostBidsModel", "shinesActs", "(I)I"⟩
def y_X12_act : MethodName := ⟨"FrostBidsModel", "act", "(III)I"⟩
def y_X12_trace : MethodName := ⟨"FrostBidsModel", "trace", "(I)I"⟩
def y_X12_as : MethodName := ⟨"FrostBidsModel", "as", "(II)I"⟩
def y_X12_image : MethodName := ⟨"FrostBidsModel", "image", "()I"⟩
def y_X12_undo : MethodName := ⟨"FrostBidsModel", "undo", "()I"⟩
def y_X12_count : MethodName := ⟨"FrostBidsModel", "count", "(I)I"⟩
def y_J9_max_7cf53 : MethodName := ⟨"java/lang/Math", "max", "(II)I"⟩
def y_J9_min_7cf53 : MethodName := ⟨"java/lang/Math", "min", "(II)I"⟩
def y_J0_length_8abf5 : MethodName := ⟨"java/lang/String", "length", "()I"⟩
def y_J0_charAt_5068e : MethodName := ⟨"java/lang/String", "charAt", "(I)C"⟩
def y_J0_coder_7d493 : MethodName := ⟨"java/lang/String", "coder", "()B"⟩
def y_J0_isLatin1_aae02 : MethodName := ⟨"java/lang/String", "isLatin1", "()Z"⟩
def y_J0_checkIndex_df160 : MethodName := ⟨"java/lang/String", "checkIndex", "(II)V"⟩
def y_J1_charAt_3b067 : MethodName := ⟨"java/lang/StringLatin1", "charAt", "([BI)C"⟩
def y_J2_getChar_3b067 : MethodName := ⟨"java/lang/StringUTF16", "getChar", "([BI)C"⟩
def y_J2_length_9d52b : MethodName := ⟨"java/lang/StringUTF16", "length", "([B)I"⟩
def y_J2_charAt_3b067 : MethodName := ⟨"java/lang/StringUTF16", "charAt", "([BI)C"⟩
def y_J2_checkIndex_2214a : MethodName := ⟨"java/lang/StringUTF16", "checkIndex", "(I[B)V"⟩
def y_J7_fill_53178 : MethodName := ⟨"java/util/Arrays", "fill", "([II)V"⟩
def y_J3_checkIndex_8e157 : MethodName := ⟨"jdk/internal/util/Preconditions", "checkIndex", "(IILjava/util/function/BiFunction;)I"⟩
