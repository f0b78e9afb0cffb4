/-! models and contracts (tool/gen.py prints them) -/
theorem d_X11_best_0 : decode prog_1_method_15_code 0 = .ok (.aload_n 0, 1) := by decide +kernel
theorem d_X11_best_1 : decode prog_1_method_15_code 1 = .ok (.iload_n 1, 1) := by decide +kernel
theorem d_X11_best_2 : decode prog_1_method_15_code 2 = .ok (.invokevirtual 115, 3) := by decide +kernel
theorem d_X11_best_5 : decode prog_1_method_15_code 5 = .ok (.ifCond .eq 11, 3) := by decide +kernel
theorem d_X11_best_8 : decode prog_1_method_15_code 8 = .ok (.iload_n 3, 1) := by decide +kernel
theorem d_X11_best_9 : decode prog_1_method_15_code 9 = .ok (.iconst 1, 1) := by decide +kernel
theorem d_X11_best_10 : decode prog_1_method_15_code 10 = .ok (.invokestatic 85, 3) := by decide +kernel
theorem d_X11_best_13 : decode prog_1_method_15_code 13 = .ok (.ifCond .ne 5, 3) := by decide +kernel
theorem d_X11_best_16 : decode prog_1_method_15_code 16 = .ok (.iconst (-1), 1) := by decide +kernel
theorem d_X11_best_17 : decode prog_1_method_15_code 17 = .ok (.ireturn, 1) := by decide +kernel
theorem d_X11_best_18 : decode prog_1_method_15_code 18 = .ok (.iload_n 2, 1) := by decide +kernel
theorem d_X11_best_19 : decode prog_1_method_15_code 19 = .ok (.bipush 20, 2) := by decide +kernel
theorem d_X11_best_21 : decode prog_1_method_15_code 21 = .ok (.invokestatic 85, 3) := by decide +kernel
theorem d_X11_best_24 : decode prog_1_method_15_code 24 = .ok (.ifCond .ne 6, 3) := by decide +kernel
theorem d_X11_best_27 : decode prog_1_method_15_code 27 = .ok (.bipush (-2), 2) := by decide +kernel
theorem d_X11_best_29 : decode prog_1_method_15_code 29 = .ok (.ireturn, 1) := by decide +kernel
theorem d_X11_best_30 : decode prog_1_method_15_code 30 = .ok (.aload_n 0, 1) := by decide +kernel
theorem d_X11_best_31 : decode prog_1_method_15_code 31 = .ok (.iload_n 1, 1) := by decide +kernel
theorem d_X11_best_32 : decode prog_1_method_15_code 32 = .ok (.aload_n 0, 1) := by decide +kernel
theorem d_X11_best_33 : decode prog_1_method_15_code 33 = .ok (.getfield 57, 3) := by decide +kernel
theorem d_X11_best_36 : decode prog_1_method_15_code 36 = .ok (.invokevirtual 144, 3) := by decide +kernel
theorem d_X11_best_39 : decode prog_1_method_15_code 39 = .ok (.astore 4, 2) := by decide +kernel
theorem d_X11_best_41 : decode prog_1_method_15_code 41 = .ok (.iconst 0, 1) := by decide +kernel
theorem d_X11_best_42 : decode prog_1_method_15_code 42 = .ok (.istore 5, 2) := by decide +kernel
theorem d_X11_best_44 : decode prog_1_method_15_code 44 = .ok (.aload 4, 2) := by decide +kernel
theorem d_X11_best_46 : decode prog_1_method_15_code 46 = .ok (.invokevirtual 178, 3) := by decide +kernel
theorem d_X11_best_49 : decode prog_1_method_15_code 49 = .ok (.istore 6, 2) := by decide +kernel
theorem d_X11_best_51 : decode prog_1_method_15_code 51 = .ok (.iconst 1, 1) := by decide +kernel
theorem d_X11_best_52 : decode prog_1_method_15_code 52 = .ok (.istore 7, 2) := by decide +kernel
theorem d_X11_best_54 : decode prog_1_method_15_code 54 = .ok (.iload 7, 2) := by decide +kernel
theorem d_X11_best_56 : decode prog_1_method_15_code 56 = .ok (.iload_n 2, 1) := by decide +kernel
theorem d_X11_best_57 : decode prog_1_method_15_code 57 = .ok (.if_icmp .gt 35, 3) := by decide +kernel
theorem d_X11_best_60 : decode prog_1_method_15_code 60 = .ok (.aload 4, 2) := by decide +kernel
theorem d_X11_best_62 : decode prog_1_method_15_code 62 = .ok (.invokevirtual 181, 3) := by decide +kernel
theorem d_X11_best_65 : decode prog_1_method_15_code 65 = .ok (.aload 4, 2) := by decide +kernel
theorem d_X11_best_67 : decode prog_1_method_15_code 67 = .ok (.invokevirtual 178, 3) := by decide +kernel
theorem d_X11_best_70 : decode prog_1_method_15_code 70 = .ok (.iload 6, 2) := by decide +kernel
theorem d_X11_best_72 : decode prog_1_method_15_code 72 = .ok (.if_icmp .le 14, 3) := by decide +kernel
theorem d_X11_best_75 : decode prog_1_method_15_code 75 = .ok (.iload 7, 2) := by decide +kernel
theorem d_X11_best_77 : decode prog_1_method_15_code 77 = .ok (.istore 5, 2) := by decide +kernel
theorem d_X11_best_79 : decode prog_1_method_15_code 79 = .ok (.aload 4, 2) := by decide +kernel
theorem d_X11_best_81 : decode prog_1_method_15_code 81 = .ok (.invokevirtual 178, 3) := by decide +kernel
theorem d_X11_best_84 : decode prog_1_method_15_code 84 = .ok (.istore 6, 2) := by decide +kernel
theorem d_X11_best_86 : decode prog_1_method_15_code 86 = .ok (.iinc 7 1, 3) := by decide +kernel
theorem d_X11_best_89 : decode prog_1_method_15_code 89 = .ok (.goto (-35), 3) := by decide +kernel
theorem d_X11_best_92 : decode prog_1_method_15_code 92 = .ok (.iload_n 3, 1) := by decide +kernel
theorem d_X11_best_93 : decode prog_1_method_15_code 93 = .ok (.ifCond .ne 8, 3) := by decide +kernel
theorem d_X11_best_96 : decode prog_1_method_15_code 96 = .ok (.iload 5, 2) := by decide +kernel
theorem d_X11_best_98 : decode prog_1_method_15_code 98 = .ok (.goto 5, 3) := by decide +kernel
theorem d_X11_best_101 : decode prog_1_method_15_code 101 = .ok (.iload 6, 2) := by decide +kernel
theorem d_X11_best_103 : decode prog_1_method_15_code 103 = .ok (.ireturn, 1) := by decide +kernel
def k_X11_best_54 (kap lam : Nat → Nat) (go54 : Int32 → Int32 → Nat → Int32 → Int32 → Int32 → fm_M → Option (Int32 × fm_M)) (a2 : Int32) (a3 : Int32) (r4 : Nat) (a5 : Int32) (a6 : Int32) (a7 : Int32)  (S : fm_M) : Option (Int32 × fm_M) :=
  if a2 < a7 then (
   if a3 = 0 then (
    some (a5, S)
   ) else (
    some (a6, S)
   )
  ) else (
   fm_ck (kap r4 == 1) <|
   fm_b1 (m_X1_goHour kap lam r4 S) fun S62 =>
   fm_ck (kap r4 == 1) <|
   fm_b1 (m_X1_offer kap lam r4 S62) fun x67 =>
   if x67 ≤ a6 then (
    fm_let (a7 + 1 : Int32) fun x86 =>
    go54 a2 a3 r4 a5 a6 x86 S62
   ) else (
    fm_ck (kap r4 == 1) <|
    fm_b1 (m_X1_offer kap lam r4 S62) fun x81 =>
    fm_let (a7 + 1 : Int32) fun x86 =>
    go54 a2 a3 r4 a7 x81 x86 S62
   )
  )
def b_X11_best_54 (kap lam : Nat → Nat) : Nat → Int32 → Int32 → Nat → Int32 → Int32 → Int32 → fm_M → Option (Int32 × fm_M)
  | 0 => fun _ _ _ _ _ _ _ => none
  | n + 1 => k_X11_best_54 kap lam (b_X11_best_54 kap lam n)
def m_X11_best (kap lam : Nat → Nat) (r0 : Nat) (a1 : Int32) (a2 : Int32) (a3 : Int32) (S : fm_M) : Option (Int32 × fm_M) :=
  fm_ck (kap r0 == 11) <|
  fm_b1 (m_X11_isPane kap lam r0 a1 S) fun x2 =>
  if x2 = 0 then (
   some ((-1), S)
  ) else (
   fm_b1 (m_X11_isWithin kap lam a3 1 S) fun x10 =>
   if x10 = 0 then (
    some ((-1), S)
   ) else (
    fm_b1 (m_X11_isWithin kap lam a2 20 S) fun x21 =>
    if x21 = 0 then (
     some ((-2), S)
    ) else (
     fm_gi kap 11 r0 8 S fun x33 =>
     fm_ck (kap r0 == 11) <|
     fm_bi (m_X11_courseFromNow kap lam r0 a1 x33 S) fun q36 S36 =>
     fm_let (0 : Int32) fun x42 =>
     fm_ck (kap q36 == 1) <|
     fm_b1 (m_X1_offer kap lam q36 S36) fun x46 =>
     fm_let (1 : Int32) fun x52 =>
     b_X11_best_54 kap lam fm_LF a2 a3 q36 x42 x46 x52 S36
    )
   )
  )
set_option maxHeartbeats 4000000 in
set_option maxRecDepth 100000 in
theorem c_X11_best {l : Launch} {D : va_G} {ids kap lam : Nat → Nat} {RL : List Nat} {ad sk sv : Nat → Nat} {S : fm_M} {r0 : Nat} {a1 : Int32} {a2 : Int32} {a3 : Int32} {r : Int32} {u : fm_M} (hE : fm_E kap RL ad) (hf : m_X11_best kap lam r0 a1 a2 a3 S = some (r, u)) (sz : Nat) : fm_MI l y_X11_best prog_1_method_15_code 8 (Option.some Jvm.ClassFile.FieldType.int) 5 D ids kap lam RL ad sk sv S [.ref (ad r0), .int a1, .int a2, .int a3] sz r u := by
  refine fm_open rfl hE (Nat.le_of_ble_eq_true rfl) (fun p e s m args below meth c ls Z hr hlk G F N hl hsz => ?_)
  subst hsz
  obtain ⟨hx, hb, hml, hown, hts⟩ := id Z
  have hl : lv_has ls 8 [(0, .ref (ad r0)), (1, .int a1), (2, .int a2), (3, .int a3)] := hl
  generalize hQ : MQ below _ args s 0 0 (fm_A RL ad s.heap.size) = Qf
  have hL : ∀ n : Nat, (∀ (a2 : Int32) (a3 : Int32) (r4 : Nat) (a5 : Int32) (a6 : Int32) (a7 : Int32)  (S : fm_M) (H : Heap) (locs : List Loc) (ls : Array Slot), fm_F D ids kap lam RL ad S (fm_A RL ad s.heap.size) s.heap H locs → lv_has ls 8 [(2, .int a2), (3, .int a3), (4, .ref (ad r4)), (5, .int a5), (6, .int a6), (7, .int a7)] → b_X11_best_54 kap lam n a2 a3 r4 a5 a6 a7 S = some (r, u) → W p l e (fm_rm 5) s m args below meth c H locs 0 0 Qf (F0 m 54 ls [])) := by
    intro n
    induction n with
    | zero => exact fun _ _ _ _ _ _ _ _ _ _ _ _ hf => absurd hf (by intro h; cases h)
    | succ n ih =>
      intro a2 a3 r4 a5 a6 a7 S H locs ls F hl hf
      have hf : k_X11_best_54 kap lam (b_X11_best_54 kap lam n) a2 a3 r4 a5 a6 a7 S = some (r, u) := hf
      unfold k_X11_best_54 at hf
      refine lv_iload hx hb d_X11_best_54 (lv_at hl 5 rfl) ?_
      refine lv_iload_n hx hb d_X11_best_56 rfl (lv_at hl 0 rfl) ?_
      refine lv_icmp_gt (tgt := 92) hx hb d_X11_best_57 (by decide) (fun c57 => ?_) (fun c57 => ?_)
      · have hf := fm_ip c57 hf
        refine lv_iload_n hx hb d_X11_best_92 rfl (lv_at hl 1 rfl) ?_
        refine lv_if_ne (tgt := 101) hx hb d_X11_best_93 (by decide) (fun c93 => ?_) (fun c93 => ?_)
        · have hf := fm_ig c93 hf
          refine lv_iload hx hb d_X11_best_101 (lv_at hl 4 rfl) ?_
          rw [← hQ]; exact fm_reti Z hr hlk F d_X11_best_103 (Prod.mk.inj (Option.some.inj hf)).1 (Prod.mk.inj (Option.some.inj hf)).2
        · have hf := fm_ip c93 hf
          refine lv_iload hx hb d_X11_best_96 (lv_at hl 3 rfl) ?_
          refine lv_goto (tgt := 103) hx hb d_X11_best_98 (by decide) ?_
          rw [← hQ]; exact fm_reti Z hr hlk F d_X11_best_103 (Prod.mk.inj (Option.some.inj hf)).1 (Prod.mk.inj (Option.some.inj hf)).2
      · have hf := fm_ig c57 hf
        refine lv_aload hx hb d_X11_best_60 (lv_at hl 2 rfl) ?_
        obtain ⟨hk62, hf⟩ := fm_some hf
        refine fm_rcv G F hf (fun u ho => fm_runV (k := 0) Z G F N (As := []) (rest := []) (c_X1_goHour hE ho _) (by rw [eq_of_beq hk62]; decide) (by rw [eq_of_beq hk62]; rfl) kw_696 kw_667 kw_668 kw_18 kw_669 yd_X1_goHour rfl (by decide) (by decide) hl.1 (Nat.le_of_ble_eq_true rfl) d_X11_best_62 (Nat.le_refl 0) (Nat.le_refl 0)) (fun S62 H locs _ F hf => ?_)
        refine lv_aload hx hb d_X11_best_65 (lv_at hl 2 rfl) ?_
        obtain ⟨hk67, hf⟩ := fm_some hf
        refine fm_rcr G F hf (fun r ho => fm_runV (k := 0) Z G F N (As := []) (rest := []) (c_X1_offer hE ho _) (by rw [eq_of_beq hk67]; decide) (by rw [eq_of_beq hk67]; rfl) kw_671 kw_672 kw_673 kw_18 kw_674 yd_X1_offer rfl (by decide) (by decide) hl.1 (Nat.le_of_ble_eq_true rfl) d_X11_best_67 (Nat.le_refl 0) (Nat.le_refl 0)) (fun x67 H locs _ F hf => ?_)
        refine lv_iload hx hb d_X11_best_70 (lv_at hl 4 rfl) ?_
        refine lv_icmp_le (tgt := 86) hx hb d_X11_best_72 (by decide) (fun c72 => ?_) (fun c72 => ?_)
        · have hf := fm_ip c72 hf
          obtain ⟨x86, ex86⟩ : ∃ y : Int32, y = a7 + 1 := ⟨_, rfl⟩
          have hf := fm_let_at ex86 hf
          refine lv_iinc (v := x86) (lv' := [(7, .int x86), (2, .int a2), (3, .int a3), (4, .ref (ad r4)), (5, .int a5), (6, .int a6)]) hx hb d_X11_best_86 hl (k := 5) rfl (by rw [ex86]; rfl) (by decide) rfl (fun ls hl => ?_)
          refine lv_goto (tgt := 54) hx hb d_X11_best_89 (by decide) ?_
          exact ih a2 a3 r4 a5 a6 x86 S62 _ _ _ F (lv_sub hl [1, 2, 3, 4, 5, 0] rfl) hf
        · have hf := fm_ig c72 hf
          refine lv_iload hx hb d_X11_best_75 (lv_at hl 5 rfl) ?_
          refine lv_istore (lv' := [(5, .int a7), (2, .int a2), (3, .int a3), (4, .ref (ad r4)), (6, .int a6), (7, .int a7)]) hx hb d_X11_best_77 hl (by decide) rfl (fun ls hl => ?_)
          refine lv_aload hx hb d_X11_best_79 (lv_at hl 3 rfl) ?_
          obtain ⟨hk81, hf⟩ := fm_some hf
          refine fm_rcr G F hf (fun r ho => fm_runV (k := 0) Z G F N (As := []) (rest := []) (c_X1_offer hE ho _) (by rw [eq_of_beq hk81]; decide) (by rw [eq_of_beq hk81]; rfl) kw_671 kw_672 kw_673 kw_18 kw_674 yd_X1_offer rfl (by decide) (by decide) hl.1 (Nat.le_of_ble_eq_true rfl) d_X11_best_81 (Nat.le_refl 0) (Nat.le_refl 0)) (fun x81 H locs _ F hf => ?_)
          refine lv_istore (lv' := [(6, .int x81), (5, .int a7), (2, .int a2), (3, .int a3), (4, .ref (ad r4)), (7, .int a7)]) hx hb d_X11_best_84 hl (by decide) rfl (fun ls hl => ?_)
          obtain ⟨x86, ex86⟩ : ∃ y : Int32, y = a7 + 1 := ⟨_, rfl⟩
          have hf := fm_let_at ex86 hf
          refine lv_iinc (v := x86) (lv' := [(7, .int x86), (6, .int x81), (5, .int a7), (2, .int a2), (3, .int a3), (4, .ref (ad r4))]) hx hb d_X11_best_86 hl (k := 5) rfl (by rw [ex86]; rfl) (by decide) rfl (fun ls hl => ?_)
          refine lv_goto (tgt := 54) hx hb d_X11_best_89 (by decide) ?_
          exact ih a2 a3 r4 a7 x81 x86 S62 _ _ _ F (lv_sub hl [3, 4, 5, 2, 1, 0] rfl) hf
  unfold m_X11_best at hf
  refine lv_aload_n hx hb d_X11_best_0 rfl (lv_at hl 0 rfl) ?_
  refine lv_iload_n hx hb d_X11_best_1 rfl (lv_at hl 1 rfl) ?_
  obtain ⟨hk2, hf⟩ := fm_some hf
  refine fm_rcr G F hf (fun r ho => fm_runV (k := 1) Z G F N (As := [.int a1]) (rest := []) (c_X11_isPane hE ho _) (by rw [eq_of_beq hk2]; decide) (by rw [eq_of_beq hk2]; rfl) kw_546 kw_548 kp_9 kw_1 kw_549 yd_X11_isPane rfl (by decide) (by decide) hl.1 (Nat.le_of_ble_eq_true rfl) d_X11_best_2 (Nat.le_refl 0) (Nat.le_refl 0)) (fun x2 H locs _ F hf => ?_)
  refine lv_if_eq (tgt := 16) hx hb d_X11_best_5 (by decide) (fun c5 => ?_) (fun c5 => ?_)
  · have hf := fm_ip c5 hf
    refine lv_iconst (v := (-1)) hx hb d_X11_best_16 (by decide) ?_
    rw [← hQ]; exact fm_reti Z hr hlk F d_X11_best_17 (Prod.mk.inj (Option.some.inj hf)).1 (Prod.mk.inj (Option.some.inj hf)).2
  · have hf := fm_ig c5 hf
    refine lv_iload_n hx hb d_X11_best_8 rfl (lv_at hl 3 rfl) ?_
    refine lv_iconst (v := 1) hx hb d_X11_best_9 (by decide) ?_
    refine fm_rcr G F hf (fun r ho => fm_runS (k := 2) Z G F N (As := [.int a3, .int 1]) (rest := []) (c_X11_isWithin hE ho _) kw_182 kw_183 kw_1 kw_184 yd_X11_isWithin rfl (by decide) (by decide) hl.1 (Nat.le_of_ble_eq_true rfl) d_X11_best_10 (Nat.le_refl 0) (Nat.le_refl 0)) (fun x10 H locs _ F hf => ?_)
    refine lv_if_ne (tgt := 18) hx hb d_X11_best_13 (by decide) (fun c13 => ?_) (fun c13 => ?_)
    · have hf := fm_ig c13 hf
      refine lv_iload_n hx hb d_X11_best_18 rfl (lv_at hl 2 rfl) ?_
      refine lv_bipush (v := 20) hx hb d_X11_best_19 (by decide) ?_
      refine fm_rcr G F hf (fun r ho => fm_runS (k := 2) Z G F N (As := [.int a2, .int 20]) (rest := []) (c_X11_isWithin hE ho _) kw_182 kw_183 kw_1 kw_184 yd_X11_isWithin rfl (by decide) (by decide) hl.1 (Nat.le_of_ble_eq_true rfl) d_X11_best_21 (Nat.le_refl 0) (Nat.le_refl 0)) (fun x21 H locs _ F hf => ?_)
      refine lv_if_ne (tgt := 30) hx hb d_X11_best_24 (by decide) (fun c24 => ?_) (fun c24 => ?_)
      · have hf := fm_ig c24 hf
        refine lv_aload_n hx hb d_X11_best_30 rfl (lv_at hl 0 rfl) ?_
        refine lv_iload_n hx hb d_X11_best_31 rfl (lv_at hl 1 rfl) ?_
        refine lv_aload_n hx hb d_X11_best_32 rfl (lv_at hl 0 rfl) ?_
        refine fm_rgi Z G F hf fr_X11_57 d_X11_best_33 (fun x33 _ hf => ?_)
        obtain ⟨hk36, hf⟩ := fm_some hf
        refine fm_rcqq G F hf (fun r u ho => fm_runV (k := 2) Z G F N (As := [.int a1, .int x33]) (rest := []) (c_X11_courseFromNow hE ho _) (by rw [eq_of_beq hk36]; decide) (by rw [eq_of_beq hk36]; rfl) kw_564 kw_566 kp_11 kw_1 kw_567 yd_X11_courseFromNow rfl (by decide) (by decide) hl.1 (Nat.le_of_ble_eq_true rfl) d_X11_best_36 (Nat.le_refl 0) (Nat.le_refl 0)) (fun q36 S36 H locs _ F hf => ?_)
        refine lv_astore (lv' := [(4, .ref (ad q36)), (0, .ref (ad r0)), (1, .int a1), (2, .int a2), (3, .int a3)]) hx hb d_X11_best_39 hl (by decide) rfl (fun ls hl => ?_)
        refine lv_iconst (v := 0) hx hb d_X11_best_41 (by decide) ?_
        refine lv_topi (fun x42 ex42 => ?_)
        have hf := fm_let_at ex42 hf
        refine lv_istore (lv' := [(5, .int x42), (4, .ref (ad q36)), (0, .ref (ad r0)), (1, .int a1), (2, .int a2), (3, .int a3)]) hx hb d_X11_best_42 hl (by decide) rfl (fun ls hl => ?_)
        refine lv_aload hx hb d_X11_best_44 (lv_at hl 1 rfl) ?_
        obtain ⟨hk46, hf⟩ := fm_some hf
        refine fm_rcr G F hf (fun r ho => fm_runV (k := 0) Z G F N (As := []) (rest := []) (c_X1_offer hE ho _) (by rw [eq_of_beq hk46]; decide) (by rw [eq_of_beq hk46]; rfl) kw_671 kw_672 kw_673 kw_18 kw_674 yd_X1_offer rfl (by decide) (by decide) hl.1 (Nat.le_of_ble_eq_true rfl) d_X11_best_46 (Nat.le_refl 0) (Nat.le_refl 0)) (fun x46 H locs _ F hf => ?_)
        refine lv_istore (lv' := [(6, .int x46), (5, .int x42), (4, .ref (ad q36)), (0, .ref (ad r0)), (1, .int a1), (2, .int a2), (3, .int a3)]) hx hb d_X11_best_49 hl (by decide) rfl (fun ls hl => ?_)
        refine lv_iconst (v := 1) hx hb d_X11_best_51 (by decide) ?_
        refine lv_topi (fun x52 ex52 => ?_)
        have hf := fm_let_at ex52 hf
        refine lv_istore (lv' := [(7, .int x52), (6, .int x46), (5, .int x42), (4, .ref (ad q36)), (0, .ref (ad r0)), (1, .int a1), (2, .int a2), (3, .int a3)]) hx hb d_X11_best_52 hl (by decide) rfl (fun ls hl => ?_)
        exact (hL fm_LF) a2 a3 q36 x42 x46 x52 S36 _ _ _ F (lv_sub hl [6, 7, 3, 2, 1, 0] rfl) hf
      · have hf := fm_ip c24 hf
        refine lv_bipush (v := (-2)) hx hb d_X11_best_27 (by decide) ?_
        rw [← hQ]; exact fm_reti Z hr hlk F d_X11_best_29 (Prod.mk.inj (Option.some.inj hf)).1 (Prod.mk.inj (Option.some.inj hf)).2
    · have hf := fm_ip c13 hf
      refine lv_iconst (v := (-1)) hx hb d_X11_best_16 (by decide) ?_
      rw [← hQ]; exact fm_reti Z hr hlk F d_X11_best_17 (Prod.mk.inj (Option.some.inj hf)).1 (Prod.mk.inj (Option.some.inj hf)).2
theorem d_X11_heat_0 : decode prog_1_method_16_code 0 = .ok (.aload_n 0, 1) := by decide +kernel
theorem d_X11_heat_1 : decode prog_1_method_16_code 1 = .ok (.iload_n 1, 1) := by decide +kernel
theorem d_X11_heat_2 : decode prog_1_method_16_code 2 = .ok (.invokevirtual 115, 3) := by decide +kernel
theorem d_X11_heat_5 : decode prog_1_method_16_code 5 = .ok (.ifCond .eq 11, 3) := by decide +kernel
theorem d_X11_heat_8 : decode prog_1_method_16_code 8 = .ok (.iload_n 3, 1) := by decide +kernel
theorem d_X11_heat_9 : decode prog_1_method_16_code 9 = .ok (.iconst 1, 1) := by decide +kernel
theorem d_X11_heat_10 : decode prog_1_method_16_code 10 = .ok (.invokestatic 85, 3) := by decide +kernel
theorem d_X11_heat_13 : decode prog_1_method_16_code 13 = .ok (.ifCond .ne 5, 3) := by decide +kernel
theorem d_X11_heat_16 : decode prog_1_method_16_code 16 = .ok (.iconst (-1), 1) := by decide +kernel
theorem d_X11_heat_17 : decode prog_1_method_16_code 17 = .ok (.ireturn, 1) := by decide +kernel
theorem d_X11_heat_18 : decode prog_1_method_16_code 18 = .ok (.iload_n 2, 1) := by decide +kernel
theorem d_X11_heat_19 : decode prog_1_method_16_code 19 = .ok (.bipush 20, 2) := by decide +kernel
theorem d_X11_heat_21 : decode prog_1_method_16_code 21 = .ok (.invokestatic 85, 3) := by decide +kernel
theorem d_X11_heat_24 : decode prog_1_method_16_code 24 = .ok (.ifCond .ne 6, 3) := by decide +kernel
theorem d_X11_heat_27 : decode prog_1_method_16_code 27 = .ok (.bipush (-2), 2) := by decide +kernel
theorem d_X11_heat_29 : decode prog_1_method_16_code 29 = .ok (.ireturn, 1) := by decide +kernel
theorem d_X11_heat_30 : decode prog_1_method_16_code 30 = .ok (.iconst 0, 1) := by decide +kernel
theorem d_X11_heat_31 : decode prog_1_method_16_code 31 = .ok (.istore 4, 2) := by decide +kernel
theorem d_X11_heat_33 : decode prog_1_method_16_code 33 = .ok (.iconst (-1), 1) := by decide +kernel
theorem d_X11_heat_34 : decode prog_1_method_16_code 34 = .ok (.istore 5, 2) := by decide +kernel
theorem d_X11_heat_36 : decode prog_1_method_16_code 36 = .ok (.iconst 0, 1) := by decide +kernel
theorem d_X11_heat_37 : decode prog_1_method_16_code 37 = .ok (.istore 6, 2) := by decide +kernel
theorem d_X11_heat_39 : decode prog_1_method_16_code 39 = .ok (.iload 6, 2) := by decide +kernel
theorem d_X11_heat_41 : decode prog_1_method_16_code 41 = .ok (.bipush 9, 2) := by decide +kernel
theorem d_X11_heat_43 : decode prog_1_method_16_code 43 = .ok (.if_icmp .gt 54, 3) := by decide +kernel
theorem d_X11_heat_46 : decode prog_1_method_16_code 46 = .ok (.aload_n 0, 1) := by decide +kernel
theorem d_X11_heat_47 : decode prog_1_method_16_code 47 = .ok (.iload_n 1, 1) := by decide +kernel
theorem d_X11_heat_48 : decode prog_1_method_16_code 48 = .ok (.aload_n 0, 1) := by decide +kernel
theorem d_X11_heat_49 : decode prog_1_method_16_code 49 = .ok (.getfield 57, 3) := by decide +kernel
theorem d_X11_heat_52 : decode prog_1_method_16_code 52 = .ok (.invokevirtual 144, 3) := by decide +kernel
theorem d_X11_heat_55 : decode prog_1_method_16_code 55 = .ok (.astore 7, 2) := by decide +kernel
theorem d_X11_heat_57 : decode prog_1_method_16_code 57 = .ok (.aload 7, 2) := by decide +kernel
theorem d_X11_heat_59 : decode prog_1_method_16_code 59 = .ok (.iload 6, 2) := by decide +kernel
theorem d_X11_heat_61 : decode prog_1_method_16_code 61 = .ok (.putfield 184, 3) := by decide +kernel
theorem d_X11_heat_64 : decode prog_1_method_16_code 64 = .ok (.aload 7, 2) := by decide +kernel
theorem d_X11_heat_66 : decode prog_1_method_16_code 66 = .ok (.iload_n 2, 1) := by decide +kernel
theorem d_X11_heat_67 : decode prog_1_method_16_code 67 = .ok (.invokevirtual 185, 3) := by decide +kernel
theorem d_X11_heat_70 : decode prog_1_method_16_code 70 = .ok (.aload 7, 2) := by decide +kernel
theorem d_X11_heat_72 : decode prog_1_method_16_code 72 = .ok (.invokevirtual 178, 3) := by decide +kernel
theorem d_X11_heat_75 : decode prog_1_method_16_code 75 = .ok (.iload 5, 2) := by decide +kernel
theorem d_X11_heat_77 : decode prog_1_method_16_code 77 = .ok (.if_icmp .le 14, 3) := by decide +kernel
theorem d_X11_heat_80 : decode prog_1_method_16_code 80 = .ok (.iload 6, 2) := by decide +kernel
theorem d_X11_heat_82 : decode prog_1_method_16_code 82 = .ok (.istore 4, 2) := by decide +kernel
theorem d_X11_heat_84 : decode prog_1_method_16_code 84 = .ok (.aload 7, 2) := by decide +kernel
theorem d_X11_heat_86 : decode prog_1_method_16_code 86 = .ok (.invokevirtual 178, 3) := by decide +kernel
theorem d_X11_heat_89 : decode prog_1_method_16_code 89 = .ok (.istore 5, 2) := by decide +kernel
theorem d_X11_heat_91 : decode prog_1_method_16_code 91 = .ok (.iinc 6 1, 3) := by decide +kernel
theorem d_X11_heat_94 : decode prog_1_method_16_code 94 = .ok (.goto (-55), 3) := by decide +kernel
theorem d_X11_heat_97 : decode prog_1_method_16_code 97 = .ok (.iload_n 3, 1) := by decide +kernel
theorem d_X11_heat_98 : decode prog_1_method_16_code 98 = .ok (.ifCond .ne 8, 3) := by decide +kernel
theorem d_X11_heat_101 : decode prog_1_method_16_code 101 = .ok (.iload 4, 2) := by decide +kernel
theorem d_X11_heat_103 : decode prog_1_method_16_code 103 = .ok (.goto 5, 3) := by decide +kernel
theorem d_X11_heat_106 : decode prog_1_method_16_code 106 = .ok (.iload 5, 2) := by decide +kernel
theorem d_X11_heat_108 : decode prog_1_method_16_code 108 = .ok (.ireturn, 1) := by decide +kernel
def k_X11_heat_39 (kap lam : Nat → Nat) (go39 : Nat → Int32 → Int32 → Int32 → Int32 → Int32 → Int32 → fm_M → Option (Int32 × fm_M)) (r0 : Nat) (a1 : Int32) (a2 : Int32) (a3 : Int32) (a4 : Int32) (a5 : Int32) (a6 : Int32)  (S : fm_M) : Option (Int32 × fm_M) :=
  if 9 < a6 then (
   if a3 = 0 then (
    some (a4, S)
   ) else (
    some (a5, S)
   )
  ) else (
   fm_gi kap 11 r0 8 S fun x49 =>
   fm_ck (kap r0 == 11) <|
   fm_bi (m_X11_courseFromNow kap lam r0 a1 x49 S) fun q52 S52 =>
   fm_pi kap 1 q52 3 S52 a6 fun S61 =>
   fm_ck (kap q52 == 1) <|
   fm_b1 (m_X1_goHours kap lam q52 a2 S61) fun S67 =>
   fm_ck (kap q52 == 1) <|
   fm_b1 (m_X1_offer kap lam q52 S67) fun x72 =>
   if x72 ≤ a5 then (
    fm_let (a6 + 1 : Int32) fun x91 =>
    go39 r0 a1 a2 a3 a4 a5 x91 S67
   ) else (
    fm_ck (kap q52 == 1) <|
    fm_b1 (m_X1_offer kap lam q52 S67) fun x86 =>
    fm_let (a6 + 1 : Int32) fun x91 =>
    go39 r0 a1 a2 a3 a6 x86 x91 S67
   )
  )
def b_X11_heat_39 (kap lam : Nat → Nat) : Nat → Nat → Int32 → Int32 → Int32 → Int32 → Int32 → Int32 → fm_M → Option (Int32 × fm_M)
  | 0 => fun _ _ _ _ _ _ _ _ => none
  | n + 1 => k_X11_heat_39 kap lam (b_X11_heat_39 kap lam n)
def m_X11_heat (kap lam : Nat → Nat) (r0 : Nat) (a1 : Int32) (a2 : Int32) (a3 : Int32) (S : fm_M) : Option (Int32 × fm_M) :=
  fm_ck (kap r0 == 11) <|
  fm_b1 (m_X11_isPane kap lam r0 a1 S) fun x2 =>
  if x2 = 0 then (
   some ((-1), S)
  ) else (
   fm_b1 (m_X11_isWithin kap lam a3 1 S) fun x10 =>
   if x10 = 0 then (
    some ((-1), S)
   ) else (
    fm_b1 (m_X11_isWithin kap lam a2 20 S) fun x21 =>
    if x21 = 0 then (
     some ((-2), S)
    ) else (
     fm_let (0 : Int32) fun x31 =>
     fm_let ((-1) : Int32) fun x34 =>
     fm_let (0 : Int32) fun x37 =>
     b_X11_heat_39 kap lam fm_LF r0 a1 a2 a3 x31 x34 x37 S
    )
   )
  )
set_option maxHeartbeats 4000000 in
set_option maxRecDepth 100000 in
theorem c_X11_heat {l : Launch} {D : va_G} {ids kap lam : Nat → Nat} {RL : List Nat} {ad sk sv : Nat → Nat} {S : fm_M} {r0 : Nat} {a1 : Int32} {a2 : Int32} {a3 : Int32} {r : Int32} {u : fm_M} (hE : fm_E kap RL ad) (hf : m_X11_heat kap lam r0 a1 a2 a3 S = some (r, u)) (sz : Nat) : fm_MI l y_X11_heat prog_1_method_16_code 8 (Option.some Jvm.ClassFile.FieldType.int) 6 D ids kap lam RL ad sk sv S [.ref (ad r0), .int a1, .int a2, .int a3] sz r u := by
  refine fm_open rfl hE (Nat.le_of_ble_eq_true rfl) (fun p e s m args below meth c ls Z hr hlk G F N hl hsz => ?_)
  subst hsz
  obtain ⟨hx, hb, hml, hown, hts⟩ := id Z
  have hl : lv_has ls 8 [(0, .ref (ad r0)), (1, .int a1), (2, .int a2), (3, .int a3)] := hl
  generalize hQ : MQ below _ args s 0 0 (fm_A RL ad s.heap.size) = Qf
  have hL : ∀ n : Nat, (∀ (r0 : Nat) (a1 : Int32) (a2 : Int32) (a3 : Int32) (a4 : Int32) (a5 : Int32) (a6 : Int32)  (S : fm_M) (H : Heap) (locs : List Loc) (ls : Array Slot), fm_F D ids kap lam RL ad S (fm_A RL ad s.heap.size) s.heap H locs → lv_has ls 8 [(0, .ref (ad r0)), (1, .int a1), (2, .int a2), (3, .int a3), (4, .int a4), (5, .int a5), (6, .int a6)] → b_X11_heat_39 kap lam n r0 a1 a2 a3 a4 a5 a6 S = some (r, u) → W p l e (fm_rm 6) s m args below meth c H locs 0 0 Qf (F0 m 39 ls [])) := by
    intro n
    induction n with
    | zero => exact fun _ _ _ _ _ _ _ _ _ _ _ _ _ hf => absurd hf (by intro h; cases h)
    | succ n ih =>
      intro r0 a1 a2 a3 a4 a5 a6 S H locs ls F hl hf
      have hf : k_X11_heat_39 kap lam (b_X11_heat_39 kap lam n) r0 a1 a2 a3 a4 a5 a6 S = some (r, u) := hf
      unfold k_X11_heat_39 at hf
      refine lv_iload hx hb d_X11_heat_39 (lv_at hl 6 rfl) ?_
      refine lv_bipush (v := 9) hx hb d_X11_heat_41 (by decide) ?_
      refine lv_icmp_gt (tgt := 97) hx hb d_X11_heat_43 (by decide) (fun c43 => ?_) (fun c43 => ?_)
      · have hf := fm_ip c43 hf
        refine lv_iload_n hx hb d_X11_heat_97 rfl (lv_at hl 3 rfl) ?_
        refine lv_if_ne (tgt := 106) hx hb d_X11_heat_98 (by decide) (fun c98 => ?_) (fun c98 => ?_)
        · have hf := fm_ig c98 hf
          refine lv_iload hx hb d_X11_heat_106 (lv_at hl 5 rfl) ?_
          rw [← hQ]; exact fm_reti Z hr hlk F d_X11_heat_108 (Prod.mk.inj (Option.some.inj hf)).1 (Prod.mk.inj (Option.some.inj hf)).2
        · have hf := fm_ip c98 hf
          refine lv_iload hx hb d_X11_heat_101 (lv_at hl 4 rfl) ?_
          refine lv_goto (tgt := 108) hx hb d_X11_heat_103 (by decide) ?_
          rw [← hQ]; exact fm_reti Z hr hlk F d_X11_heat_108 (Prod.mk.inj (Option.some.inj hf)).1 (Prod.mk.inj (Option.some.inj hf)).2
      · have hf := fm_ig c43 hf
        refine lv_aload_n hx hb d_X11_heat_46 rfl (lv_at hl 0 rfl) ?_
        refine lv_iload_n hx hb d_X11_heat_47 rfl (lv_at hl 1 rfl) ?_
        refine lv_aload_n hx hb d_X11_heat_48 rfl (lv_at hl 0 rfl) ?_
        refine fm_rgi Z G F hf fr_X11_57 d_X11_heat_49 (fun x49 _ hf => ?_)
        obtain ⟨hk52, hf⟩ := fm_some hf
        refine fm_rcqq G F hf (fun r u ho => fm_runV (k := 2) Z G F N (As := [.int a1, .int x49]) (rest := []) (c_X11_courseFromNow hE ho _) (by rw [eq_of_beq hk52]; decide) (by rw [eq_of_beq hk52]; rfl) kw_564 kw_566 kp_11 kw_1 kw_567 yd_X11_courseFromNow rfl (by decide) (by decide) hl.1 (Nat.le_of_ble_eq_true rfl) d_X11_heat_52 (Nat.le_refl 0) (Nat.le_refl 0)) (fun q52 S52 H locs _ F hf => ?_)
        refine lv_astore (lv' := [(7, .ref (ad q52)), (0, .ref (ad r0)), (1, .int a1), (2, .int a2), (3, .int a3), (4, .int a4), (5, .int a5), (6, .int a6)]) hx hb d_X11_heat_55 hl (by decide) rfl (fun ls hl => ?_)
        refine lv_aload hx hb d_X11_heat_57 (lv_at hl 0 rfl) ?_
        refine lv_iload hx hb d_X11_heat_59 (lv_at hl 7 rfl) ?_
        refine fm_rpi Z G F hf fs_X11_184 d_X11_heat_61 (fun c h => by have h := eq_of_beq (show (c == 1) = true from h); subst h; rfl) (fun S61 H locs _ F hf => ?_)
        refine lv_aload hx hb d_X11_heat_64 (lv_at hl 0 rfl) ?_
        refine lv_iload_n hx hb d_X11_heat_66 rfl (lv_at hl 3 rfl) ?_
        obtain ⟨hk67, hf⟩ := fm_some hf
        refine fm_rcv G F hf (fun u ho => fm_runV (k := 1) Z G F N (As := [.int a2]) (rest := []) (c_X1_goHours hE ho _) (by rw [eq_of_beq hk67]; decide) (by rw [eq_of_beq hk67]; rfl) kw_662 kw_663 kw_664 kw_18 kw_665 yd_X1_goHours rfl (by decide) (by decide) hl.1 (Nat.le_of_ble_eq_true rfl) d_X11_heat_67 (Nat.le_refl 0) (Nat.le_refl 0)) (fun S67 H locs _ F hf => ?_)
        refine lv_aload hx hb d_X11_heat_70 (lv_at hl 0 rfl) ?_
        obtain ⟨hk72, hf⟩ := fm_some hf
        refine fm_rcr G F hf (fun r ho => fm_runV (k := 0) Z G F N (As := []) (rest := []) (c_X1_offer hE ho _) (by rw [eq_of_beq hk72]; decide) (by rw [eq_of_beq hk72]; rfl) kw_671 kw_672 kw_673 kw_18 kw_674 yd_X1_offer rfl (by decide) (by decide) hl.1 (Nat.le_of_ble_eq_true rfl) d_X11_heat_72 (Nat.le_refl 0) (Nat.le_refl 0)) (fun x72 H locs _ F hf => ?_)
        refine lv_iload hx hb d_X11_heat_75 (lv_at hl 6 rfl) ?_
        refine lv_icmp_le (tgt := 91) hx hb d_X11_heat_77 (by decide) (fun c77 => ?_) (fun c77 => ?_)
        · have hf := fm_ip c77 hf
          obtain ⟨x91, ex91⟩ : ∃ y : Int32, y = a6 + 1 := ⟨_, rfl⟩
          have hf := fm_let_at ex91 hf
          refine lv_iinc (v := x91) (lv' := [(6, .int x91), (7, .ref (ad q52)), (0, .ref (ad r0)), (1, .int a1), (2, .int a2), (3, .int a3), (4, .int a4), (5, .int a5)]) hx hb d_X11_heat_91 hl (k := 7) rfl (by rw [ex91]; rfl) (by decide) rfl (fun ls hl => ?_)
          refine lv_goto (tgt := 39) hx hb d_X11_heat_94 (by decide) ?_
          exact ih r0 a1 a2 a3 a4 a5 x91 S67 _ _ _ F (lv_sub hl [2, 3, 4, 5, 6, 7, 0] rfl) hf
        · have hf := fm_ig c77 hf
          refine lv_iload hx hb d_X11_heat_80 (lv_at hl 7 rfl) ?_
          refine lv_istore (lv' := [(4, .int a6), (7, .ref (ad q52)), (0, .ref (ad r0)), (1, .int a1), (2, .int a2), (3, .int a3), (5, .int a5), (6, .int a6)]) hx hb d_X11_heat_82 hl (by decide) rfl (fun ls hl => ?_)
          refine lv_aload hx hb d_X11_heat_84 (lv_at hl 1 rfl) ?_
          obtain ⟨hk86, hf⟩ := fm_some hf
          refine fm_rcr G F hf (fun r ho => fm_runV (k := 0) Z G F N (As := []) (rest := []) (c_X1_offer hE ho _) (by rw [eq_of_beq hk86]; decide) (by rw [eq_of_beq hk86]; rfl) kw_671 kw_672 kw_673 kw_18 kw_674 yd_X1_offer rfl (by decide) (by decide) hl.1 (Nat.le_of_ble_eq_true rfl) d_X11_heat_86 (Nat.le_refl 0) (Nat.le_refl 0)) (fun x86 H locs _ F hf => ?_)
          refine lv_istore (lv' := [(5, .int x86), (4, .int a6), (7, .ref (ad q52)), (0, .ref (ad r0)), (1, .int a1), (2, .int a2), (3, .int a3), (6, .int a6)]) hx hb d_X11_heat_89 hl (by decide) rfl (fun ls hl => ?_)
          obtain ⟨x91, ex91⟩ : ∃ y : Int32, y = a6 + 1 := ⟨_, rfl⟩
          have hf := fm_let_at ex91 hf
          refine lv_iinc (v := x91) (lv' := [(6, .int x91), (5, .int x86), (4, .int a6), (7, .ref (ad q52)), (0, .ref (ad r0)), (1, .int a1), (2, .int a2), (3, .int a3)]) hx hb d_X11_heat_91 hl (k := 7) rfl (by rw [ex91]; rfl) (by decide) rfl (fun ls hl => ?_)
          refine lv_goto (tgt := 39) hx hb d_X11_heat_94 (by decide) ?_
          exact ih r0 a1 a2 a3 a6 x86 x91 S67 _ _ _ F (lv_sub hl [4, 5, 6, 7, 2, 1, 0] rfl) hf
  unfold m_X11_heat at hf
  refine lv_aload_n hx hb d_X11_heat_0 rfl (lv_at hl 0 rfl) ?_
  refine lv_iload_n hx hb d_X11_heat_1 rfl (lv_at hl 1 rfl) ?_
  obtain ⟨hk2, hf⟩ := fm_some hf
  refine fm_rcr G F hf (fun r ho => fm_runV (k := 1) Z G F N (As := [.int a1]) (rest := []) (c_X11_isPane hE ho _) (by rw [eq_of_beq hk2]; decide) (by rw [eq_of_beq hk2]; rfl) kw_546 kw_548 kp_9 kw_1 kw_549 yd_X11_isPane rfl (by decide) (by decide) hl.1 (Nat.le_of_ble_eq_true rfl) d_X11_heat_2 (Nat.le_refl 0) (Nat.le_refl 0)) (fun x2 H locs _ F hf => ?_)
  refine lv_if_eq (tgt := 16) hx hb d_X11_heat_5 (by decide) (fun c5 => ?_) (fun c5 => ?_)
  · have hf := fm_ip c5 hf
    refine lv_iconst (v := (-1)) hx hb d_X11_heat_16 (by decide) ?_
    rw [← hQ]; exact fm_reti Z hr hlk F d_X11_heat_17 (Prod.mk.inj (Option.some.inj hf)).1 (Prod.mk.inj (Option.some.inj hf)).2
  · have hf := fm_ig c5 hf
    refine lv_iload_n hx hb d_X11_heat_8 rfl (lv_at hl 3 rfl) ?_
    refine lv_iconst (v := 1) hx hb d_X11_heat_9 (by decide) ?_
    refine fm_rcr G F hf (fun r ho => fm_runS (k := 2) Z G F N (As := [.int a3, .int 1]) (rest := []) (c_X11_isWithin hE ho _) kw_182 kw_183 kw_1 kw_184 yd_X11_isWithin rfl (by decide) (by decide) hl.1 (Nat.le_of_ble_eq_true rfl) d_X11_heat_10 (Nat.le_refl 0) (Nat.le_refl 0)) (fun x10 H locs _ F hf => ?_)
    refine lv_if_ne (tgt := 18) hx hb d_X11_heat_13 (by decide) (fun c13 => ?_) (fun c13 => ?_)
    · have hf := fm_ig c13 hf
      refine lv_iload_n hx hb d_X11_heat_18 rfl (lv_at hl 2 rfl) ?_
      refine lv_bipush (v := 20) hx hb d_X11_heat_19 (by decide) ?_
      refine fm_rcr G F hf (fun r ho => fm_runS (k := 2) Z G F N (As := [.int a2, .int 20]) (rest := []) (c_X11_isWithin hE ho _) kw_182 kw_183 kw_1 kw_184 yd_X11_isWithin rfl (by decide) (by decide) hl.1 (Nat.le_of_ble_eq_true rfl) d_X11_heat_21 (Nat.le_refl 0) (Nat.le_refl 0)) (fun x21 H locs _ F hf => ?_)
      refine lv_if_ne (tgt := 30) hx hb d_X11_heat_24 (by decide) (fun c24 => ?_) (fun c24 => ?_)
      · have hf := fm_ig c24 hf
        refine lv_iconst (v := 0) hx hb d_X11_heat_30 (by decide) ?_
        refine lv_topi (fun x31 ex31 => ?_)
        have hf := fm_let_at ex31 hf
        refine lv_istore (lv' := [(4, .int x31), (0, .ref (ad r0)), (1, .int a1), (2, .int a2), (3, .int a3)]) hx hb d_X11_heat_31 hl (by decide) rfl (fun ls hl => ?_)
        refine lv_iconst (v := (-1)) hx hb d_X11_heat_33 (by decide) ?_
        refine lv_topi (fun x34 ex34 => ?_)
        have hf := fm_let_at ex34 hf
        refine lv_istore (lv' := [(5, .int x34), (4, .int x31), (0, .ref (ad r0)), (1, .int a1), (2, .int a2), (3, .int a3)]) hx hb d_X11_heat_34 hl (by decide) rfl (fun ls hl => ?_)
        refine lv_iconst (v := 0) hx hb d_X11_heat_36 (by decide) ?_
        refine lv_topi (fun x37 ex37 => ?_)
        have hf := fm_let_at ex37 hf
        refine lv_istore (lv' := [(6, .int x37), (5, .int x34), (4, .int x31), (0, .ref (ad r0)), (1, .int a1), (2, .int a2), (3, .int a3)]) hx hb d_X11_heat_37 hl (by decide) rfl (fun ls hl => ?_)
        exact (hL fm_LF) r0 a1 a2 a3 x31 x34 x37 S _ _ _ F (lv_sub hl [3, 4, 5, 6, 2, 1, 0] rfl) hf
      · have hf := fm_ip c24 hf
        refine lv_bipush (v := (-2)) hx hb d_X11_heat_27 (by decide) ?_
        rw [← hQ]; exact fm_reti Z hr hlk F d_X11_heat_29 (Prod.mk.inj (Option.some.inj hf)).1 (Prod.mk.inj (Option.some.inj hf)).2
    · have hf := fm_ip c13 hf
      refine lv_iconst (v := (-1)) hx hb d_X11_heat_16 (by decide) ?_
      rw [← hQ]; exact fm_reti Z hr hlk F d_X11_heat_17 (Prod.mk.inj (Option.some.inj hf)).1 (Prod.mk.inj (Option.some.inj hf)).2
theorem d_X11_comes_0 : decode prog_1_method_17_code 0 = .ok (.aload_n 0, 1) := by decide +kernel
theorem d_X11_comes_1 : decode prog_1_method_17_code 1 = .ok (.iload_n 1, 1) := by decide +kernel
theorem d_X11_comes_2 : decode prog_1_method_17_code 2 = .ok (.invokevirtual 115, 3) := by decide +kernel
theorem d_X11_comes_5 : decode prog_1_method_17_code 5 = .ok (.ifCond .ne 5, 3) := by decide +kernel
theorem d_X11_comes_8 : decode prog_1_method_17_code 8 = .ok (.iconst (-1), 1) := by decide +kernel
theorem d_X11_comes_9 : decode prog_1_method_17_code 9 = .ok (.ireturn, 1) := by decide +kernel
theorem d_X11_comes_10 : decode prog_1_method_17_code 10 = .ok (.iload_n 2, 1) := by decide +kernel
theorem d_X11_comes_11 : decode prog_1_method_17_code 11 = .ok (.sipush 4095, 3) := by decide +kernel
theorem d_X11_comes_14 : decode prog_1_method_17_code 14 = .ok (.invokestatic 85, 3) := by decide +kernel
theorem d_X11_comes_17 : decode prog_1_method_17_code 17 = .ok (.ifCond .ne 6, 3) := by decide +kernel
theorem d_X11_comes_20 : decode prog_1_method_17_code 20 = .ok (.bipush (-2), 2) := by decide +kernel
theorem d_X11_comes_22 : decode prog_1_method_17_code 22 = .ok (.ireturn, 1) := by decide +kernel
theorem d_X11_comes_23 : decode prog_1_method_17_code 23 = .ok (.aload_n 0, 1) := by decide +kernel
theorem d_X11_comes_24 : decode prog_1_method_17_code 24 = .ok (.iload_n 1, 1) := by decide +kernel
theorem d_X11_comes_25 : decode prog_1_method_17_code 25 = .ok (.aload_n 0, 1) := by decide +kernel
theorem d_X11_comes_26 : decode prog_1_method_17_code 26 = .ok (.getfield 57, 3) := by decide +kernel
theorem d_X11_comes_29 : decode prog_1_method_17_code 29 = .ok (.invokevirtual 144, 3) := by decide +kernel
theorem d_X11_comes_32 : decode prog_1_method_17_code 32 = .ok (.astore_n 3, 1) := by decide +kernel
theorem d_X11_comes_33 : decode prog_1_method_17_code 33 = .ok (.iconst 0, 1) := by decide +kernel
theorem d_X11_comes_34 : decode prog_1_method_17_code 34 = .ok (.istore 4, 2) := by decide +kernel
theorem d_X11_comes_36 : decode prog_1_method_17_code 36 = .ok (.iload 4, 2) := by decide +kernel
theorem d_X11_comes_38 : decode prog_1_method_17_code 38 = .ok (.bipush 60, 2) := by decide +kernel
theorem d_X11_comes_40 : decode prog_1_method_17_code 40 = .ok (.if_icmp .gt 24, 3) := by decide +kernel
theorem d_X11_comes_43 : decode prog_1_method_17_code 43 = .ok (.aload_n 3, 1) := by decide +kernel
theorem d_X11_comes_44 : decode prog_1_method_17_code 44 = .ok (.getfield 188, 3) := by decide +kernel
theorem d_X11_comes_47 : decode prog_1_method_17_code 47 = .ok (.iload_n 2, 1) := by decide +kernel
theorem d_X11_comes_48 : decode prog_1_method_17_code 48 = .ok (.if_icmp .ne 6, 3) := by decide +kernel
theorem d_X11_comes_51 : decode prog_1_method_17_code 51 = .ok (.iload 4, 2) := by decide +kernel
theorem d_X11_comes_53 : decode prog_1_method_17_code 53 = .ok (.ireturn, 1) := by decide +kernel
theorem d_X11_comes_54 : decode prog_1_method_17_code 54 = .ok (.aload_n 3, 1) := by decide +kernel
theorem d_X11_comes_55 : decode prog_1_method_17_code 55 = .ok (.invokevirtual 181, 3) := by decide +kernel
theorem d_X11_comes_58 : decode prog_1_method_17_code 58 = .ok (.iinc 4 1, 3) := by decide +kernel
theorem d_X11_comes_61 : decode prog_1_method_17_code 61 = .ok (.goto (-25), 3) := by decide +kernel
theorem d_X11_comes_64 : decode prog_1_method_17_code 64 = .ok (.bipush (-5), 2) := by decide +kernel
theorem d_X11_comes_66 : decode prog_1_method_17_code 66 = .ok (.ireturn, 1) := by decide +kernel
def k_X11_comes_36 (kap lam : Nat → Nat) (go36 : Int32 → Nat → Int32 → fm_M → Option (Int32 × fm_M)) (a2 : Int32) (r3 : Nat) (a4 : Int32)  (S : fm_M) : Option (Int32 × fm_M) :=
  if 60 < a4 then (
   some ((-5), S)
  ) else (
   fm_gi kap 1 r3 6 S fun x44 =>
   if x44 = a2 then (
    some (a4, S)
   ) else (
    fm_ck (kap r3 == 1) <|
    fm_b1 (m_X1_goHour kap lam r3 S) fun S55 =>
    fm_let (a4 + 1 : Int32) fun x58 =>
    go36 a2 r3 x58 S55
   )
  )
def b_X11_comes_36 (kap lam : Nat → Nat) : Nat → Int32 → Nat → Int32 → fm_M → Option (Int32 × fm_M)
  | 0 => fun _ _ _ _ => none
  | n + 1 => k_X11_comes_36 kap lam (b_X11_comes_36 kap lam n)
def m_X11_comes (kap lam : Nat → Nat) (r0 : Nat) (a1 : Int32) (a2 : Int32) (S : fm_M) : Option (Int32 × fm_M) :=
  fm_ck (kap r0 == 11) <|
  fm_b1 (m_X11_isPane kap lam r0 a1 S) fun x2 =>
  if x2 = 0 then (
   some ((-1), S)
  ) else (
   fm_b1 (m_X11_isWithin kap lam a2 4095 S) fun x14 =>
   if x14 = 0 then (
    some ((-2), S)
   ) else (
    fm_gi kap 11 r0 8 S fun x26 =>
    fm_ck (kap r0 == 11) <|
    fm_bi (m_X11_courseFromNow kap lam r0 a1 x26 S) fun q29 S29 =>
    fm_let (0 : Int32) fun x34 =>
    b_X11_comes_36 kap lam fm_LF a2 q29 x34 S29
   )
  )
set_option maxHeartbeats 4000000 in
set_option maxRecDepth 100000 in
theorem c_X11_comes {l : Launch} {D : va_G} {ids kap lam : Nat → Nat} {RL : List Nat} {ad sk sv : Nat → Nat} {S : fm_M} {r0 : Nat} {a1 : Int32} {a2 : Int32} {r : Int32} {u : fm_M} (hE : fm_E kap RL ad) (hf : m_X11_comes kap lam r0 a1 a2 S = some (r, u)) (sz : Nat) : fm_MI l y_X11_comes prog_1_method_17_code 5 (Option.some Jvm.ClassFile.FieldType.int) 5 D ids kap lam RL ad sk sv S [.ref (ad r0), .int a1, .int a2] sz r u := by
  refine fm_open rfl hE (Nat.le_of_ble_eq_true rfl) (fun p e s m args below meth c ls Z hr hlk G F N hl hsz => ?_)
  subst hsz
  obtain ⟨hx, hb, hml, hown, hts⟩ := id Z
  have hl : lv_has ls 5 [(0, .ref (ad r0)), (1, .int a1), (2, .int a2)] := hl
  generalize hQ : MQ below _ args s 0 0 (fm_A RL ad s.heap.size) = Qf
  have hL : ∀ n : Nat, (∀ (a2 : Int32) (r3 : Nat) (a4 : Int32)  (S : fm_M) (H : Heap) (locs : List Loc) (ls : Array Slot), fm_F D ids kap lam RL ad S (fm_A RL ad s.heap.size) s.heap H locs → lv_has ls 5 [(2, .int a2), (3, .ref (ad r3)), (4, .int a4)] → b_X11_comes_36 kap lam n a2 r3 a4 S = some (r, u) → W p l e (fm_rm 5) s m args below meth c H locs 0 0 Qf (F0 m 36 ls [])) := by
    intro n
    induction n with
    | zero => exact fun _ _ _ _ _ _ _ _ _ hf => absurd hf (by intro h; cases h)
    | succ n ih =>
      intro a2 r3 a4 S H locs ls F hl hf
      have hf : k_X11_comes_36 kap lam (b_X11_comes_36 kap lam n) a2 r3 a4 S = some (r, u) := hf
      unfold k_X11_comes_36 at hf
      refine lv_iload hx hb d_X11_comes_36 (lv_at hl 2 rfl) ?_
      refine lv_bipush (v := 60) hx hb d_X11_comes_38 (by decide) ?_
      refine lv_icmp_gt (tgt := 64) hx hb d_X11_comes_40 (by decide) (fun c40 => ?_) (fun c40 => ?_)
      · have hf := fm_ip c40 hf
        refine lv_bipush (v := (-5)) hx hb d_X11_comes_64 (by decide) ?_
        rw [← hQ]; exact fm_reti Z hr hlk F d_X11_comes_66 (Prod.mk.inj (Option.some.inj hf)).1 (Prod.mk.inj (Option.some.inj hf)).2
      · have hf := fm_ig c40 hf
        refine lv_aload_n hx hb d_X11_comes_43 rfl (lv_at hl 1 rfl) ?_
        refine fm_rgi Z G F hf fr_X11_188 d_X11_comes_44 (fun x44 _ hf => ?_)
        refine lv_iload_n hx hb d_X11_comes_47 rfl (lv_at hl 0 rfl) ?_
        refine lv_icmp_ne (tgt := 54) hx hb d_X11_comes_48 (by decide) (fun c48 => ?_) (fun c48 => ?_)
        · have hf := fm_ig c48 hf
          refine lv_aload_n hx hb d_X11_comes_54 rfl (lv_at hl 1 rfl) ?_
          obtain ⟨hk55, hf⟩ := fm_some hf
          refine fm_rcv G F hf (fun u ho => fm_runV (k := 0) Z G F N (As := []) (rest := []) (c_X1_goHour hE ho _) (by rw [eq_of_beq hk55]; decide) (by rw [eq_of_beq hk55]; rfl) kw_696 kw_667 kw_668 kw_18 kw_669 yd_X1_goHour rfl (by decide) (by decide) hl.1 (Nat.le_of_ble_eq_true rfl) d_X11_comes_55 (Nat.le_refl 0) (Nat.le_refl 0)) (fun S55 H locs _ F hf => ?_)
          obtain ⟨x58, ex58⟩ : ∃ y : Int32, y = a4 + 1 := ⟨_, rfl⟩
          have hf := fm_let_at ex58 hf
          refine lv_iinc (v := x58) (lv' := [(4, .int x58), (2, .int a2), (3, .ref (ad r3))]) hx hb d_X11_comes_58 hl (k := 2) rfl (by rw [ex58]; rfl) (by decide) rfl (fun ls hl => ?_)
          refine lv_goto (tgt := 36) hx hb d_X11_comes_61 (by decide) ?_
          exact ih a2 r3 x58 S55 _ _ _ F (lv_sub hl [1, 2, 0] rfl) hf
        · have hf := fm_ip c48 hf
          refine lv_iload hx hb d_X11_comes_51 (lv_at hl 2 rfl) ?_
          rw [← hQ]; exact fm_reti Z hr hlk F d_X11_comes_53 (Prod.mk.inj (Option.some.inj hf)).1 (Prod.mk.inj (Option.some.inj hf)).2
  unfold m_X11_comes at hf
  refine lv_aload_n hx hb d_X11_comes_0 rfl (lv_at hl 0 rfl) ?_
  refine lv_iload_n hx hb d_X11_comes_1 rfl (lv_at hl 1 rfl) ?_
  obtain ⟨hk2, hf⟩ := fm_some hf
  refine fm_rcr G F hf (fun r ho => fm_runV (k := 1) Z G F N (As := [.int a1]) (rest := []) (c_X11_isPane hE ho _) (by rw [eq_of_beq hk2]; decide) (by rw [eq_of_beq hk2]; rfl) kw_546 kw_548 kp_9 kw_1 kw_549 yd_X11_isPane rfl (by decide) (by decide) hl.1 (Nat.le_of_ble_eq_true rfl) d_X11_comes_2 (Nat.le_refl 0) (Nat.le_refl 0)) (fun x2 H locs _ F hf => ?_)
  refine lv_if_ne (tgt := 10) hx hb d_X11_comes_5 (by decide) (fun c5 => ?_) (fun c5 => ?_)
  · have hf := fm_ig c5 hf
    refine lv_iload_n hx hb d_X11_comes_10 rfl (lv_at hl 2 rfl) ?_
    refine lv_sipush (v := 4095) hx hb d_X11_comes_11 (by decide) ?_
    refine fm_rcr G F hf (fun r ho => fm_runS (k := 2) Z G F N (As := [.int a2, .int 4095]) (rest := []) (c_X11_isWithin hE ho _) kw_182 kw_183 kw_1 kw_184 yd_X11_isWithin rfl (by decide) (by decide) hl.1 (Nat.le_of_ble_eq_true rfl) d_X11_comes_14 (Nat.le_refl 0) (Nat.le_refl 0)) (fun x14 H locs _ F hf => ?_)
    refine lv_if_ne (tgt := 23) hx hb d_X11_comes_17 (by decide) (fun c17 => ?_) (fun c17 => ?_)
    · have hf := fm_ig c17 hf
      refine lv_aload_n hx hb d_X11_comes_23 rfl (lv_at hl 0 rfl) ?_
      refine lv_iload_n hx hb d_X11_comes_24 rfl (lv_at hl 1 rfl) ?_
      refine lv_aload_n hx hb d_X11_comes_25 rfl (lv_at hl 0 rfl) ?_
      refine fm_rgi Z G F hf fr_X11_57 d_X11_comes_26 (fun x26 _ hf => ?_)
      obtain ⟨hk29, hf⟩ := fm_some hf
      refine fm_rcqq G F hf (fun r u ho => fm_runV (k := 2) Z G F N (As := [.int a1, .int x26]) (rest := []) (c_X11_courseFromNow hE ho _) (by rw [eq_of_beq hk29]; decide) (by rw [eq_of_beq hk29]; rfl) kw_564 kw_566 kp_11 kw_1 kw_567 yd_X11_courseFromNow rfl (by decide) (by decide) hl.1 (Nat.le_of_ble_eq_true rfl) d_X11_comes_29 (Nat.le_refl 0) (Nat.le_refl 0)) (fun q29 S29 H locs _ F hf => ?_)
      refine lv_astore_n (lv' := [(3, .ref (ad q29)), (0, .ref (ad r0)), (1, .int a1), (2, .int a2)]) hx hb d_X11_comes_32 rfl hl (by decide) rfl (fun ls hl => ?_)
      refine lv_iconst (v := 0) hx hb d_X11_comes_33 (by decide) ?_
      refine lv_topi (fun x34 ex34 => ?_)
      have hf := fm_let_at ex34 hf
      refine lv_istore (lv' := [(4, .int x34), (3, .ref (ad q29)), (0, .ref (ad r0)), (1, .int a1), (2, .int a2)]) hx hb d_X11_comes_34 hl (by decide) rfl (fun ls hl => ?_)
      exact (hL fm_LF) a2 q29 x34 S29 _ _ _ F (lv_sub hl [4, 1, 0] rfl) hf
    · have hf := fm_ip c17 hf
      refine lv_bipush (v := (-2)) hx hb d_X11_comes_20 (by decide) ?_
      rw [← hQ]; exact fm_reti Z hr hlk F d_X11_comes_22 (Prod.mk.inj (Option.some.inj hf)).1 (Prod.mk.inj (Option.some.inj hf)).2
  · have hf := fm_ip c5 hf
    refine lv_iconst (v := (-1)) hx hb d_X11_comes_8 (by decide) ?_
    rw [← hQ]; exact fm_reti Z hr hlk F d_X11_comes_9 (Prod.mk.inj (Option.some.inj hf)).1 (Prod.mk.inj (Option.some.inj hf)).2
theorem d_X11_breaths_0 : decode prog_1_method_18_code 0 = .ok (.iload_n 2, 1) := by decide +kernel
theorem d_X11_breaths_1 : decode prog_1_method_18_code 1 = .ok (.iconst (-1), 1) := by decide +kernel
theorem d_X11_breaths_2 : decode prog_1_method_18_code 2 = .ok (.if_icmp .lt 8, 3) := by decide +kernel
theorem d_X11_breaths_5 : decode prog_1_method_18_code 5 = .ok (.iload_n 2, 1) := by decide +kernel
theorem d_X11_breaths_6 : decode prog_1_method_18_code 6 = .ok (.iconst 3, 1) := by decide +kernel
theorem d_X11_breaths_7 : decode prog_1_method_18_code 7 = .ok (.if_icmp .lt 5, 3) := by decide +kernel
theorem d_X11_breaths_10 : decode prog_1_method_18_code 10 = .ok (.iconst (-1), 1) := by decide +kernel
theorem d_X11_breaths_11 : decode prog_1_method_18_code 11 = .ok (.ireturn, 1) := by decide +kernel
theorem d_X11_breaths_12 : decode prog_1_method_18_code 12 = .ok (.iload_n 1, 1) := by decide +kernel
theorem d_X11_breaths_13 : decode prog_1_method_18_code 13 = .ok (.iconst 1, 1) := by decide +kernel
theorem d_X11_breaths_14 : decode prog_1_method_18_code 14 = .ok (.if_icmp .lt 8, 3) := by decide +kernel
theorem d_X11_breaths_17 : decode prog_1_method_18_code 17 = .ok (.iload_n 1, 1) := by decide +kernel
theorem d_X11_breaths_18 : decode prog_1_method_18_code 18 = .ok (.iconst 3, 1) := by decide +kernel
theorem d_X11_breaths_19 : decode prog_1_method_18_code 19 = .ok (.if_icmp .le 6, 3) := by decide +kernel
theorem d_X11_breaths_22 : decode prog_1_method_18_code 22 = .ok (.bipush (-2), 2) := by decide +kernel
theorem d_X11_breaths_24 : decode prog_1_method_18_code 24 = .ok (.ireturn, 1) := by decide +kernel
theorem d_X11_breaths_25 : decode prog_1_method_18_code 25 = .ok (.iload_n 2, 1) := by decide +kernel
theorem d_X11_breaths_26 : decode prog_1_method_18_code 26 = .ok (.iload_n 1, 1) := by decide +kernel
theorem d_X11_breaths_27 : decode prog_1_method_18_code 27 = .ok (.if_icmp .lt 6, 3) := by decide +kernel
theorem d_X11_breaths_30 : decode prog_1_method_18_code 30 = .ok (.bipush (-5), 2) := by decide +kernel
theorem d_X11_breaths_32 : decode prog_1_method_18_code 32 = .ok (.ireturn, 1) := by decide +kernel
theorem d_X11_breaths_33 : decode prog_1_method_18_code 33 = .ok (.aload_n 0, 1) := by decide +kernel
theorem d_X11_breaths_34 : decode prog_1_method_18_code 34 = .ok (.iload_n 1, 1) := by decide +kernel
theorem d_X11_breaths_35 : decode prog_1_method_18_code 35 = .ok (.invokevirtual 189, 3) := by decide +kernel
theorem d_X11_breaths_38 : decode prog_1_method_18_code 38 = .ok (.iconst 0, 1) := by decide +kernel
theorem d_X11_breaths_39 : decode prog_1_method_18_code 39 = .ok (.istore_n 3, 1) := by decide +kernel
theorem d_X11_breaths_40 : decode prog_1_method_18_code 40 = .ok (.iconst (-1), 1) := by decide +kernel
theorem d_X11_breaths_41 : decode prog_1_method_18_code 41 = .ok (.istore 4, 2) := by decide +kernel
theorem d_X11_breaths_43 : decode prog_1_method_18_code 43 = .ok (.aload_n 0, 1) := by decide +kernel
theorem d_X11_breaths_44 : decode prog_1_method_18_code 44 = .ok (.iload_n 1, 1) := by decide +kernel
theorem d_X11_breaths_45 : decode prog_1_method_18_code 45 = .ok (.invokevirtual 192, 3) := by decide +kernel
theorem d_X11_breaths_48 : decode prog_1_method_18_code 48 = .ok (.istore 5, 2) := by decide +kernel
theorem d_X11_breaths_50 : decode prog_1_method_18_code 50 = .ok (.iconst 0, 1) := by decide +kernel
theorem d_X11_breaths_51 : decode prog_1_method_18_code 51 = .ok (.istore 6, 2) := by decide +kernel
theorem d_X11_breaths_53 : decode prog_1_method_18_code 53 = .ok (.iload 6, 2) := by decide +kernel
theorem d_X11_breaths_55 : decode prog_1_method_18_code 55 = .ok (.iload 5, 2) := by decide +kernel
theorem d_X11_breaths_57 : decode prog_1_method_18_code 57 = .ok (.if_icmp .ge 32, 3) := by decide +kernel
theorem d_X11_breaths_60 : decode prog_1_method_18_code 60 = .ok (.aload_n 0, 1) := by decide +kernel
theorem d_X11_breaths_61 : decode prog_1_method_18_code 61 = .ok (.iload 6, 2) := by decide +kernel
theorem d_X11_breaths_63 : decode prog_1_method_18_code 63 = .ok (.iload_n 1, 1) := by decide +kernel
theorem d_X11_breaths_64 : decode prog_1_method_18_code 64 = .ok (.invokevirtual 195, 3) := by decide +kernel
theorem d_X11_breaths_67 : decode prog_1_method_18_code 67 = .ok (.istore 7, 2) := by decide +kernel
theorem d_X11_breaths_69 : decode prog_1_method_18_code 69 = .ok (.iload 7, 2) := by decide +kernel
theorem d_X11_breaths_71 : decode prog_1_method_18_code 71 = .ok (.iload 4, 2) := by decide +kernel
theorem d_X11_breaths_73 : decode prog_1_method_18_code 73 = .ok (.if_icmp .le 10, 3) := by decide +kernel
theorem d_X11_breaths_76 : decode prog_1_method_18_code 76 = .ok (.iload 6, 2) := by decide +kernel
theorem d_X11_breaths_78 : decode prog_1_method_18_code 78 = .ok (.istore_n 3, 1) := by decide +kernel
theorem d_X11_breaths_79 : decode prog_1_method_18_code 79 = .ok (.iload 7, 2) := by decide +kernel
theorem d_X11_breaths_81 : decode prog_1_method_18_code 81 = .ok (.istore 4, 2) := by decide +kernel
theorem d_X11_breaths_83 : decode prog_1_method_18_code 83 = .ok (.iinc 6 1, 3) := by decide +kernel
theorem d_X11_breaths_86 : decode prog_1_method_18_code 86 = .ok (.goto (-33), 3) := by decide +kernel
theorem d_X11_breaths_89 : decode prog_1_method_18_code 89 = .ok (.iload_n 2, 1) := by decide +kernel
theorem d_X11_breaths_90 : decode prog_1_method_18_code 90 = .ok (.ifCond .ge 6, 3) := by decide +kernel
theorem d_X11_breaths_93 : decode prog_1_method_18_code 93 = .ok (.iload 4, 2) := by decide +kernel
theorem d_X11_breaths_95 : decode prog_1_method_18_code 95 = .ok (.ireturn, 1) := by decide +kernel
theorem d_X11_breaths_96 : decode prog_1_method_18_code 96 = .ok (.aload_n 0, 1) := by decide +kernel
theorem d_X11_breaths_97 : decode prog_1_method_18_code 97 = .ok (.iload_n 3, 1) := by decide +kernel
theorem d_X11_breaths_98 : decode prog_1_method_18_code 98 = .ok (.iload_n 2, 1) := by decide +kernel
theorem d_X11_breaths_99 : decode prog_1_method_18_code 99 = .ok (.iload_n 1, 1) := by decide +kernel
theorem d_X11_breaths_100 : decode prog_1_method_18_code 100 = .ok (.invokevirtual 198, 3) := by decide +kernel
theorem d_X11_breaths_103 : decode prog_1_method_18_code 103 = .ok (.istore 6, 2) := by decide +kernel
theorem d_X11_breaths_105 : decode prog_1_method_18_code 105 = .ok (.iload 6, 2) := by decide +kernel
theorem d_X11_breaths_107 : decode prog_1_method_18_code 107 = .ok (.aload_n 0, 1) := by decide +kernel
theorem d_X11_breaths_108 : decode prog_1_method_18_code 108 = .ok (.getfield 23, 3) := by decide +kernel
theorem d_X11_breaths_111 : decode prog_1_method_18_code 111 = .ok (.if_icmp .ge 8, 3) := by decide +kernel
theorem d_X11_breaths_114 : decode prog_1_method_18_code 114 = .ok (.iload 6, 2) := by decide +kernel
theorem d_X11_breaths_116 : decode prog_1_method_18_code 116 = .ok (.goto 5, 3) := by decide +kernel
theorem d_X11_breaths_119 : decode prog_1_method_18_code 119 = .ok (.bipush 9, 2) := by decide +kernel
theorem d_X11_breaths_121 : decode prog_1_method_18_code 121 = .ok (.ireturn, 1) := by decide +kernel
def k_X11_breaths_53 (kap lam : Nat → Nat) (go53 : Nat → Int32 → Int32 → Int32 → Int32 → Int32 → Int32 → fm_M → Option (Int32 × fm_M)) (r0 : Nat) (a1 : Int32) (a2 : Int32) (a3 : Int32) (a4 : Int32) (a5 : Int32) (a6 : Int32)  (S : fm_M) : Option (Int32 × fm_M) :=
  if a5 ≤ a6 then (
   if 0 ≤ a2 then (
    fm_ck (kap r0 == 11) <|
    fm_b1 (m_X11_breathedAt kap lam r0 a3 a2 a1 S) fun x100 =>
    fm_gi kap 11 r0 2 S fun x108 =>
    if x108 ≤ x100 then (
     some (9, S)
    ) else (
     some (x100, S)
    )
   ) else (
    some (a4, S)
   )
  ) else (
   fm_ck (kap r0 == 11) <|
   fm_b1 (m_X11_paidByRow kap lam r0 a6 a1 S) fun x64 =>
   if x64 ≤ a4 then (
    fm_let (a6 + 1 : Int32) fun x83 =>
    go53 r0 a1 a2 a3 a4 a5 x83 S
   ) else (
    fm_let (a6 + 1 : Int32) fun x83 =>
    go53 r0 a1 a2 a6 x64 a5 x83 S
   )
  )
def b_X11_breaths_53 (kap lam : Nat → Nat) : Nat → Nat → Int32 → Int32 → Int32 → Int32 → Int32 → Int32 → fm_M → Option (Int32 × fm_M)
  | 0 => fun _ _ _ _ _ _ _ _ => none
  | n + 1 => k_X11_breaths_53 kap lam (b_X11_breaths_53 kap lam n)
def m_X11_breaths (kap lam : Nat → Nat) (r0 : Nat) (a1 : Int32) (a2 : Int32) (S : fm_M) : Option (Int32 × fm_M) :=
  if a2 < (-1) then (
   some ((-1), S)
  ) else (
   if a2 < 3 then (
    if a1 < 1 then (
     some ((-2), S)
    ) else (
     if a1 ≤ 3 then (
      if a2 < a1 then (
       fm_ck (kap r0 == 11) <|
       fm_b1 (m_X11_fillPays kap lam r0 a1 S) fun S35 =>
       fm_let (0 : Int32) fun x39 =>
       fm_let ((-1) : Int32) fun x41 =>
       fm_ck (kap r0 == 11) <|
       fm_b1 (m_X11_rowsOfBreaths kap lam r0 a1 S35) fun x45 =>
       fm_let (0 : Int32) fun x51 =>
       b_X11_breaths_53 kap lam fm_LF r0 a1 a2 x39 x41 x45 x51 S35
      ) else (
       some ((-5), S)
      )
     ) else (
      some ((-2), S)
     )
    )
   ) else (
    some ((-1), S)
   )
  )
set_option maxHeartbeats 4000000 in
set_option maxRecDepth 100000 in
theorem c_X11_breaths {l : Launch} {D : va_G} {ids kap lam : Nat → Nat} {RL : List Nat} {ad sk sv : Nat → Nat} {S : fm_M} {r0 : Nat} {a1 : Int32} {a2 : Int32} {r : Int32} {u : fm_M} (hE : fm_E kap RL ad) (hf : m_X11_breaths kap lam r0 a1 a2 S = some (r, u)) (sz : Nat) : fm_MI l y_X11_breaths prog_1_method_18_code 8 (Option.some Jvm.ClassFile.FieldType.int) 7 D ids kap lam RL ad sk sv S [.ref (ad r0), .int a1, .int a2] sz r u := by
  refine fm_open rfl hE (Nat.le_of_ble_eq_true rfl) (fun p e s m args below meth c ls Z hr hlk G F N hl hsz => ?_)
  subst hsz
  obtain ⟨hx, hb, hml, hown, hts⟩ := id Z
  have hl : lv_has ls 8 [(0, .ref (ad r0)), (1, .int a1), (2, .int a2)] := hl
  generalize hQ : MQ below _ args s 0 0 (fm_A RL ad s.heap.size) = Qf
  have hL : ∀ n : Nat, (∀ (r0 : Nat) (a1 : Int32) (a2 : Int32) (a3 : Int32) (a4 : Int32) (a5 : Int32) (a6 : Int32)  (S : fm_M) (H : Heap) (locs : List Loc) (ls : Array Slot), fm_F D ids kap lam RL ad S (fm_A RL ad s.heap.size) s.heap H locs → lv_has ls 8 [(0, .ref (ad r0)), (1, .int a1), (2, .int a2), (3, .int a3), (4, .int a4), (5, .int a5), (6, .int a6)] → b_X11_breaths_53 kap lam n r0 a1 a2 a3 a4 a5 a6 S = some (r, u) → W p l e (fm_rm 7) s m args below meth c H locs 0 0 Qf (F0 m 53 ls [])) := by
    intro n
    induction n with
    | zero => exact fun _ _ _ _ _ _ _ _ _ _ _ _ _ hf => absurd hf (by intro h; cases h)
    | succ n ih =>
      intro r0 a1 a2 a3 a4 a5 a6 S H locs ls F hl hf
      have hf : k_X11_breaths_53 kap lam (b_X11_breaths_53 kap lam n) r0 a1 a2 a3 a4 a5 a6 S = some (r, u) := hf
      unfold k_X11_breaths_53 at hf
      refine lv_iload hx hb d_X11_breaths_53 (lv_at hl 6 rfl) ?_
      refine lv_iload hx hb d_X11_breaths_55 (lv_at hl 5 rfl) ?_
      refine lv_icmp_ge (tgt := 89) hx hb d_X11_breaths_57 (by decide) (fun c57 => ?_) (fun c57 => ?_)
      · have hf := fm_ip c57 hf
        refine lv_iload_n hx hb d_X11_breaths_89 rfl (lv_at hl 2 rfl) ?_
        refine lv_if_ge (tgt := 96) hx hb d_X11_breaths_90 (by decide) (fun c90 => ?_) (fun c90 => ?_)
        · have hf := fm_ip c90 hf
          refine lv_aload_n hx hb d_X11_breaths_96 rfl (lv_at hl 0 rfl) ?_
          refine lv_iload_n hx hb d_X11_breaths_97 rfl (lv_at hl 3 rfl) ?_
          refine lv_iload_n hx hb d_X11_breaths_98 rfl (lv_at hl 2 rfl) ?_
          refine lv_iload_n hx hb d_X11_breaths_99 rfl (lv_at hl 1 rfl) ?_
          obtain ⟨hk100, hf⟩ := fm_some hf
          refine fm_rcr G F hf (fun r ho => fm_runV (k := 3) Z G F N (As := [.int a3, .int a2, .int a1]) (rest := []) (c_X11_breathedAt hE ho _) (by rw [eq_of_beq hk100]; decide) (by rw [eq_of_beq hk100]; rfl) kw_730 kw_732 kp_23 kw_1 kw_733 yd_X11_breathedAt rfl (by decide) (by decide) hl.1 (Nat.le_of_ble_eq_true rfl) d_X11_breaths_100 (Nat.le_refl 0) (Nat.le_refl 0)) (fun x100 H locs _ F hf => ?_)
          refine lv_istore (lv' := [(6, .int x100), (0, .ref (ad r0)), (1, .int a1), (2, .int a2), (3, .int a3), (4, .int a4), (5, .int a5)]) hx hb d_X11_breaths_103 hl (by decide) rfl (fun ls hl => ?_)
          refine lv_iload hx hb d_X11_breaths_105 (lv_at hl 0 rfl) ?_
          refine lv_aload_n hx hb d_X11_breaths_107 rfl (lv_at hl 1 rfl) ?_
          refine fm_rgi Z G F hf fr_X11_23 d_X11_breaths_108 (fun x108 _ hf => ?_)
          refine lv_icmp_ge (tgt := 119) hx hb d_X11_breaths_111 (by decide) (fun c111 => ?_) (fun c111 => ?_)
          · have hf := fm_ip c111 hf
            refine lv_bipush (v := 9) hx hb d_X11_breaths_119 (by decide) ?_
            rw [← hQ]; exact fm_reti Z hr hlk F d_X11_breaths_121 (Prod.mk.inj (Option.some.inj hf)).1 (Prod.mk.inj (Option.some.inj hf)).2
          · have hf := fm_ig c111 hf
            refine lv_iload hx hb d_X11_breaths_114 (lv_at hl 0 rfl) ?_
            refine lv_goto (tgt := 121) hx hb d_X11_breaths_116 (by decide) ?_
            rw [← hQ]; exact fm_reti Z hr hlk F d_X11_breaths_121 (Prod.mk.inj (Option.some.inj hf)).1 (Prod.mk.inj (Option.some.inj hf)).2
        · have hf := fm_ig c90 hf
          refine lv_iload hx hb d_X11_breaths_93 (lv_at hl 4 rfl) ?_
          rw [← hQ]; exact fm_reti Z hr hlk F d_X11_breaths_95 (Prod.mk.inj (Option.some.inj hf)).1 (Prod.mk.inj (Option.some.inj hf)).2
      · have hf := fm_ig c57 hf
        refine lv_aload_n hx hb d_X11_breaths_60 rfl (lv_at hl 0 rfl) ?_
        refine lv_iload hx hb d_X11_breaths_61 (lv_at hl 6 rfl) ?_
        refine lv_iload_n hx hb d_X11_breaths_63 rfl (lv_at hl 1 rfl) ?_
        obtain ⟨hk64, hf⟩ := fm_some hf
        refine fm_rcr G F hf (fun r ho => fm_runV (k := 2) Z G F N (As := [.int a6, .int a1]) (rest := []) (c_X11_paidByRow hE ho _) (by rw [eq_of_beq hk64]; decide) (by rw [eq_of_beq hk64]; rfl) kw_726 kw_728 kp_22 kw_1 kw_729 yd_X11_paidByRow rfl (by decide) (by decide) hl.1 (Nat.le_of_ble_eq_true rfl) d_X11_breaths_64 (Nat.le_refl 0) (Nat.le_refl 0)) (fun x64 H locs _ F hf => ?_)
        refine lv_istore (lv' := [(7, .int x64), (0, .ref (ad r0)), (1, .int a1), (2, .int a2), (3, .int a3), (4, .int a4), (5, .int a5), (6, .int a6)]) hx hb d_X11_breaths_67 hl (by decide) rfl (fun ls hl => ?_)
        refine lv_iload hx hb d_X11_breaths_69 (lv_at hl 0 rfl) ?_
        refine lv_iload hx hb d_X11_breaths_71 (lv_at hl 5 rfl) ?_
        refine lv_icmp_le (tgt := 83) hx hb d_X11_breaths_73 (by decide) (fun c73 => ?_) (fun c73 => ?_)
        · have hf := fm_ip c73 hf
          obtain ⟨x83, ex83⟩ : ∃ y : Int32, y = a6 + 1 := ⟨_, rfl⟩
          have hf := fm_let_at ex83 hf
          refine lv_iinc (v := x83) (lv' := [(6, .int x83), (7, .int x64), (0, .ref (ad r0)), (1, .int a1), (2, .int a2), (3, .int a3), (4, .int a4), (5, .int a5)]) hx hb d_X11_breaths_83 hl (k := 7) rfl (by rw [ex83]; rfl) (by decide) rfl (fun ls hl => ?_)
          refine lv_goto (tgt := 53) hx hb d_X11_breaths_86 (by decide) ?_
          exact ih r0 a1 a2 a3 a4 a5 x83 S _ _ _ F (lv_sub hl [2, 3, 4, 5, 6, 7, 0] rfl) hf
        · have hf := fm_ig c73 hf
          refine lv_iload hx hb d_X11_breaths_76 (lv_at hl 7 rfl) ?_
          refine lv_istore_n (lv' := [(3, .int a6), (7, .int x64), (0, .ref (ad r0)), (1, .int a1), (2, .int a2), (4, .int a4), (5, .int a5), (6, .int a6)]) hx hb d_X11_breaths_78 rfl hl (by decide) rfl (fun ls hl => ?_)
          refine lv_iload hx hb d_X11_breaths_79 (lv_at hl 1 rfl) ?_
          refine lv_istore (lv' := [(4, .int x64), (3, .int a6), (7, .int x64), (0, .ref (ad r0)), (1, .int a1), (2, .int a2), (5, .int a5), (6, .int a6)]) hx hb d_X11_breaths_81 hl (by decide) rfl (fun ls hl => ?_)
          obtain ⟨x83, ex83⟩ : ∃ y : Int32, y = a6 + 1 := ⟨_, rfl⟩
          have hf := fm_let_at ex83 hf
          refine lv_iinc (v := x83) (lv' := [(6, .int x83), (4, .int x64), (3, .int a6), (7, .int x64), (0, .ref (ad r0)), (1, .int a1), (2, .int a2), (5, .int a5)]) hx hb d_X11_breaths_83 hl (k := 7) rfl (by rw [ex83]; rfl) (by decide) rfl (fun ls hl => ?_)
          refine lv_goto (tgt := 53) hx hb d_X11_breaths_86 (by decide) ?_
          exact ih r0 a1 a2 a6 x64 a5 x83 S _ _ _ F (lv_sub hl [4, 5, 6, 2, 1, 7, 0] rfl) hf
  unfold m_X11_breaths at hf
  refine lv_iload_n hx hb d_X11_breaths_0 rfl (lv_at hl 2 rfl) ?_
  refine lv_iconst (v := (-1)) hx hb d_X11_breaths_1 (by decide) ?_
  refine lv_icmp_lt (tgt := 10) hx hb d_X11_breaths_2 (by decide) (fun c2 => ?_) (fun c2 => ?_)
  · have hf := fm_ip c2 hf
    refine lv_iconst (v := (-1)) hx hb d_X11_breaths_10 (by decide) ?_
    rw [← hQ]; exact fm_reti Z hr hlk F d_X11_breaths_11 (Prod.mk.inj (Option.some.inj hf)).1 (Prod.mk.inj (Option.some.inj hf)).2
  · have hf := fm_ig c2 hf
    refine lv_iload_n hx hb d_X11_breaths_5 rfl (lv_at hl 2 rfl) ?_
    refine lv_iconst (v := 3) hx hb d_X11_breaths_6 (by decide) ?_
    refine lv_icmp_lt (tgt := 12) hx hb d_X11_breaths_7 (by decide) (fun c7 => ?_) (fun c7 => ?_)
    · have hf := fm_ip c7 hf
      refine lv_iload_n hx hb d_X11_breaths_12 rfl (lv_at hl 1 rfl) ?_
      refine lv_iconst (v := 1) hx hb d_X11_breaths_13 (by decide) ?_
      refine lv_icmp_lt (tgt := 22) hx hb d_X11_breaths_14 (by decide) (fun c14 => ?_) (fun c14 => ?_)
      · have hf := fm_ip c14 hf
        refine lv_bipush (v := (-2)) hx hb d_X11_breaths_22 (by decide) ?_
        rw [← hQ]; exact fm_reti Z hr hlk F d_X11_breaths_24 (Prod.mk.inj (Option.some.inj hf)).1 (Prod.mk.inj (Option.some.inj hf)).2
      · have hf := fm_ig c14 hf
        refine lv_iload_n hx hb d_X11_breaths_17 rfl (lv_at hl 1 rfl) ?_
        refine lv_iconst (v := 3) hx hb d_X11_breaths_18 (by decide) ?_
        refine lv_icmp_le (tgt := 25) hx hb d_X11_breaths_19 (by decide) (fun c19 => ?_) (fun c19 => ?_)
        · have hf := fm_ip c19 hf
          refine lv_iload_n hx hb d_X11_breaths_25 rfl (lv_at hl 2 rfl) ?_
          refine lv_iload_n hx hb d_X11_breaths_26 rfl (lv_at hl 1 rfl) ?_
          refine lv_icmp_lt (tgt := 33) hx hb d_X11_breaths_27 (by decide) (fun c27 => ?_) (fun c27 => ?_)
          · have hf := fm_ip c27 hf
            refine lv_aload_n hx hb d_X11_breaths_33 rfl (lv_at hl 0 rfl) ?_
            refine lv_iload_n hx hb d_X11_breaths_34 rfl (lv_at hl 1 rfl) ?_
            obtain ⟨hk35, hf⟩ := fm_some hf
            refine fm_rcv G F hf (fun u ho => fm_runV (k := 1) Z G F N (As := [.int a1]) (rest := []) (c_X11_fillPays hE ho _) (by rw [eq_of_beq hk35]; decide) (by rw [eq_of_beq hk35]; rfl) kw_709 kw_711 kp_19 kw_1 kw_712 yd_X11_fillPays rfl (by decide) (by decide) hl.1 (Nat.le_of_ble_eq_true rfl) d_X11_breaths_35 (Nat.le_refl 0) (Nat.le_refl 0)) (fun S35 H locs _ F hf => ?_)
            refine lv_iconst (v := 0) hx hb d_X11_breaths_38 (by decide) ?_
            refine lv_topi (fun x39 ex39 => ?_)
            have hf := fm_let_at ex39 hf
            refine lv_istore_n (lv' := [(3, .int x39), (0, .ref (ad r0)), (1, .int a1), (2, .int a2)]) hx hb d_X11_breaths_39 rfl hl (by decide) rfl (fun ls hl => ?_)
            refine lv_iconst (v := (-1)) hx hb d_X11_breaths_40 (by decide) ?_
            refine lv_topi (fun x41 ex41 => ?_)
            have hf := fm_let_at ex41 hf
            refine lv_istore (lv' := [(4, .int x41), (3, .int x39), (0, .ref (ad r0)), (1, .int a1), (2, .int a2)]) hx hb d_X11_breaths_41 hl (by decide) rfl (fun ls hl => ?_)
            refine lv_aload_n hx hb d_X11_breaths_43 rfl (lv_at hl 2 rfl) ?_
            refine lv_iload_n hx hb d_X11_breaths_44 rfl (lv_at hl 3 rfl) ?_
            obtain ⟨hk45, hf⟩ := fm_some hf
            refine fm_rcr G F hf (fun r ho => fm_runV (k := 1) Z G F N (As := [.int a1]) (rest := []) (c_X11_rowsOfBreaths hE ho _) (by rw [eq_of_beq hk45]; decide) (by rw [eq_of_beq hk45]; rfl) kw_722 kw_724 kp_21 kw_1 kw_725 yd_X11_rowsOfBreaths rfl (by decide) (by decide) hl.1 (Nat.le_of_ble_eq_true rfl) d_X11_breaths_45 (Nat.le_refl 0) (Nat.le_refl 0)) (fun x45 H locs _ F hf => ?_)
            refine lv_istore (lv' := [(5, .int x45), (4, .int x41), (3, .int x39), (0, .ref (ad r0)), (1, .int a1), (2, .int a2)]) hx hb d_X11_breaths_48 hl (by decide) rfl (fun ls hl => ?_)
            refine lv_iconst (v := 0) hx hb d_X11_breaths_50 (by decide) ?_
            refine lv_topi (fun x51 ex51 => ?_)
            have hf := fm_let_at ex51 hf
            refine lv_istore (lv' := [(6, .int x51), (5, .int x45), (4, .int x41), (3, .int x39), (0, .ref (ad r0)), (1, .int a1), (2, .int a2)]) hx hb d_X11_breaths_51 hl (by decide) rfl (fun ls hl => ?_)
            exact (hL fm_LF) r0 a1 a2 x39 x41 x45 x51 S35 _ _ _ F (lv_sub hl [4, 5, 6, 3, 2, 1, 0] rfl) hf
          · have hf := fm_ig c27 hf
            refine lv_bipush (v := (-5)) hx hb d_X11_breaths_30 (by decide) ?_
            rw [← hQ]; exact fm_reti Z hr hlk F d_X11_breaths_32 (Prod.mk.inj (Option.some.inj hf)).1 (Prod.mk.inj (Option.some.inj hf)).2
        · have hf := fm_ig c19 hf
          refine lv_bipush (v := (-2)) hx hb d_X11_breaths_22 (by decide) ?_
          rw [← hQ]; exact fm_reti Z hr hlk F d_X11_breaths_24 (Prod.mk.inj (Option.some.inj hf)).1 (Prod.mk.inj (Option.some.inj hf)).2
    · have hf := fm_ig c7 hf
      refine lv_iconst (v := (-1)) hx hb d_X11_breaths_10 (by decide) ?_
      rw [← hQ]; exact fm_reti Z hr hlk F d_X11_breaths_11 (Prod.mk.inj (Option.some.inj hf)).1 (Prod.mk.inj (Option.some.inj hf)).2
theorem d_X11_see_0 : decode prog_1_method_19_code 0 = .ok (.iload_n 1, 1) := by decide +kernel
theorem d_X11_see_1 : decode prog_1_method_19_code 1 = .ok (.iconst (-1), 1) := by decide +kernel
theorem d_X11_see_2 : decode prog_1_method_19_code 2 = .ok (.if_icmp .ne 11, 3) := by decide +kernel
theorem d_X11_see_5 : decode prog_1_method_19_code 5 = .ok (.aload_n 0, 1) := by decide +kernel
theorem d_X11_see_6 : decode prog_1_method_19_code 6 = .ok (.getfield 66, 3) := by decide +kernel
theorem d_X11_see_9 : decode prog_1_method_19_code 9 = .ok (.invokevirtual 105, 3) := by decide +kernel
theorem d_X11_see_12 : decode prog_1_method_19_code 12 = .ok (.ireturn, 1) := by decide +kernel
theorem d_X11_see_13 : decode prog_1_method_19_code 13 = .ok (.aload_n 0, 1) := by decide +kernel
theorem d_X11_see_14 : decode prog_1_method_19_code 14 = .ok (.iload_n 1, 1) := by decide +kernel
theorem d_X11_see_15 : decode prog_1_method_19_code 15 = .ok (.invokevirtual 115, 3) := by decide +kernel
theorem d_X11_see_18 : decode prog_1_method_19_code 18 = .ok (.ifCond .ne 5, 3) := by decide +kernel
theorem d_X11_see_21 : decode prog_1_method_19_code 21 = .ok (.iconst (-1), 1) := by decide +kernel
theorem d_X11_see_22 : decode prog_1_method_19_code 22 = .ok (.ireturn, 1) := by decide +kernel
theorem d_X11_see_23 : decode prog_1_method_19_code 23 = .ok (.iload_n 2, 1) := by decide +kernel
theorem d_X11_see_24 : decode prog_1_method_19_code 24 = .ok (.bipush 20, 2) := by decide +kernel
theorem d_X11_see_26 : decode prog_1_method_19_code 26 = .ok (.invokestatic 85, 3) := by decide +kernel
theorem d_X11_see_29 : decode prog_1_method_19_code 29 = .ok (.ifCond .eq 13, 3) := by decide +kernel
theorem d_X11_see_32 : decode prog_1_method_19_code 32 = .ok (.iload_n 3, 1) := by decide +kernel
theorem d_X11_see_33 : decode prog_1_method_19_code 33 = .ok (.sipush 4095, 3) := by decide +kernel
theorem d_X11_see_36 : decode prog_1_method_19_code 36 = .ok (.invokestatic 85, 3) := by decide +kernel
theorem d_X11_see_39 : decode prog_1_method_19_code 39 = .ok (.ifCond .ne 6, 3) := by decide +kernel
theorem d_X11_see_42 : decode prog_1_method_19_code 42 = .ok (.bipush (-2), 2) := by decide +kernel
theorem d_X11_see_44 : decode prog_1_method_19_code 44 = .ok (.ireturn, 1) := by decide +kernel
theorem d_X11_see_45 : decode prog_1_method_19_code 45 = .ok (.aload_n 0, 1) := by decide +kernel
theorem d_X11_see_46 : decode prog_1_method_19_code 46 = .ok (.getfield 66, 3) := by decide +kernel
theorem d_X11_see_49 : decode prog_1_method_19_code 49 = .ok (.invokevirtual 89, 3) := by decide +kernel
theorem d_X11_see_52 : decode prog_1_method_19_code 52 = .ok (.ifCond .eq 8, 3) := by decide +kernel
theorem d_X11_see_55 : decode prog_1_method_19_code 55 = .ok (.bipush (-4), 2) := by decide +kernel
theorem d_X11_see_57 : decode prog_1_method_19_code 57 = .ok (.goto 13, 3) := by decide +kernel
theorem d_X11_see_60 : decode prog_1_method_19_code 60 = .ok (.aload_n 0, 1) := by decide +kernel
theorem d_X11_see_61 : decode prog_1_method_19_code 61 = .ok (.getfield 66, 3) := by decide +kernel
theorem d_X11_see_64 : decode prog_1_method_19_code 64 = .ok (.iload_n 1, 1) := by decide +kernel
theorem d_X11_see_65 : decode prog_1_method_19_code 65 = .ok (.iload_n 2, 1) := by decide +kernel
theorem d_X11_see_66 : decode prog_1_method_19_code 66 = .ok (.iload_n 3, 1) := by decide +kernel
theorem d_X11_see_67 : decode prog_1_method_19_code 67 = .ok (.invokevirtual 93, 3) := by decide +kernel
theorem d_X11_see_70 : decode prog_1_method_19_code 70 = .ok (.ireturn, 1) := by decide +kernel
def m_X11_see (kap lam : Nat → Nat) (r0 : Nat) (a1 : Int32) (a2 : Int32) (a3 : Int32) (S : fm_M) : Option (Int32 × fm_M) :=
  if a1 = (-1) then (
   fm_gr kap 11 r0 11 S fun q6 =>
   fm_ck (kap q6 == 8) <|
   fm_bi (m_X8_clear kap lam q6 S) fun x9 S9 =>
   some (x9, S9)
  ) else (
   fm_ck (kap r0 == 11) <|
   fm_b1 (m_X11_isPane kap lam r0 a1 S) fun x15 =>
   if x15 = 0 then (
    some ((-1), S)
   ) else (
    fm_b1 (m_X11_isWithin kap lam a2 20 S) fun x26 =>
    if x26 = 0 then (
     some ((-2), S)
    ) else (
     fm_b1 (m_X11_isWithin kap lam a3 4095 S) fun x36 =>
     if x36 = 0 then (
      some ((-2), S)
     ) else (
      fm_gr kap 11 r0 11 S fun q46 =>
      fm_ck (kap q46 == 8) <|
      fm_b1 (m_X8_isFull kap lam q46 S) fun x49 =>
      if x49 = 0 then (
       fm_gr kap 11 r0 11 S fun q61 =>
       fm_ck (kap q61 == 8) <|
       fm_bi (m_X8_add kap lam q61 a1 a2 a3 S) fun x67 S67 =>
       some (x67, S67)
      ) else (
       some ((-4), S)
      )
     )
    )
   )
  )
set_option maxHeartbeats 4000000 in
set_option maxRecDepth 100000 in
theorem c_X11_see {l : Launch} {D : va_G} {ids kap lam : Nat → Nat} {RL : List Nat} {ad sk sv : Nat → Nat} {S : fm_M} {r0 : Nat} {a1 : Int32} {a2 : Int32} {a3 : Int32} {r : Int32} {u : fm_M} (hE : fm_E kap RL ad) (hf : m_X11_see kap lam r0 a1 a2 a3 S = some (r, u)) (sz : Nat) : fm_MI l y_X11_see prog_1_method_19_code 4 (Option.some Jvm.ClassFile.FieldType.int) 2 D ids kap lam RL ad sk sv S [.ref (ad r0), .int a1, .int a2, .int a3] sz r u := by
  refine fm_open rfl hE (Nat.le_of_ble_eq_true rfl) (fun p e s m args below meth c ls Z hr hlk G F N hl hsz => ?_)
  subst hsz
  obtain ⟨hx, hb, hml, hown, hts⟩ := id Z
  have hl : lv_has ls 4 [(0, .ref (ad r0)), (1, .int a1), (2, .int a2), (3, .int a3)] := hl
  unfold m_X11_see at hf
  refine lv_iload_n hx hb d_X11_see_0 rfl (lv_at hl 1 rfl) ?_
  refine lv_iconst (v := (-1)) hx hb d_X11_see_1 (by decide) ?_
  refine lv_icmp_ne (tgt := 13) hx hb d_X11_see_2 (by decide) (fun c2 => ?_) (fun c2 => ?_)
  · have hf := fm_ig c2 hf
    refine lv_aload_n hx hb d_X11_see_13 rfl (lv_at hl 0 rfl) ?_
    refine lv_iload_n hx hb d_X11_see_14 rfl (lv_at hl 1 rfl) ?_
    obtain ⟨hk15, hf⟩ := fm_some hf
    refine fm_rcr G F hf (fun r ho => fm_runV (k := 1) Z G F N (As := [.int a1]) (rest := []) (c_X11_isPane hE ho _) (by rw [eq_of_beq hk15]; decide) (by rw [eq_of_beq hk15]; rfl) kw_546 kw_548 kp_9 kw_1 kw_549 yd_X11_isPane rfl (by decide) (by decide) hl.1 (Nat.le_of_ble_eq_true rfl) d_X11_see_15 (Nat.le_refl 0) (Nat.le_refl 0)) (fun x15 H locs _ F hf => ?_)
    refine lv_if_ne (tgt := 23) hx hb d_X11_see_18 (by decide) (fun c18 => ?_) (fun c18 => ?_)
    · have hf := fm_ig c18 hf
      refine lv_iload_n hx hb d_X11_see_23 rfl (lv_at hl 2 rfl) ?_
      refine lv_bipush (v := 20) hx hb d_X11_see_24 (by decide) ?_
      refine fm_rcr G F hf (fun r ho => fm_runS (k := 2) Z G F N (As := [.int a2, .int 20]) (rest := []) (c_X11_isWithin hE ho _) kw_182 kw_183 kw_1 kw_184 yd_X11_isWithin rfl (by decide) (by decide) hl.1 (Nat.le_of_ble_eq_true rfl) d_X11_see_26 (Nat.le_refl 0) (Nat.le_refl 0)) (fun x26 H locs _ F hf => ?_)
      refine lv_if_eq (tgt := 42) hx hb d_X11_see_29 (by decide) (fun c29 => ?_) (fun c29 => ?_)
      · have hf := fm_ip c29 hf
        refine lv_bipush (v := (-2)) hx hb d_X11_see_42 (by decide) ?_
        exact fm_reti Z hr hlk F d_X11_see_44 (Prod.mk.inj (Option.some.inj hf)).1 (Prod.mk.inj (Option.some.inj hf)).2
      · have hf := fm_ig c29 hf
        refine lv_iload_n hx hb d_X11_see_32 rfl (lv_at hl 3 rfl) ?_
        refine lv_sipush (v := 4095) hx hb d_X11_see_33 (by decide) ?_
        refine fm_rcr G F hf (fun r ho => fm_runS (k := 2) Z G F N (As := [.int a3, .int 4095]) (rest := []) (c_X11_isWithin hE ho _) kw_182 kw_183 kw_1 kw_184 yd_X11_isWithin rfl (by decide) (by decide) hl.1 (Nat.le_of_ble_eq_true rfl) d_X11_see_36 (Nat.le_refl 0) (Nat.le_refl 0)) (fun x36 H locs _ F hf => ?_)
        refine lv_if_ne (tgt := 45) hx hb d_X11_see_39 (by decide) (fun c39 => ?_) (fun c39 => ?_)
        · have hf := fm_ig c39 hf
          refine lv_aload_n hx hb d_X11_see_45 rfl (lv_at hl 0 rfl) ?_
          refine fm_rgr Z G F hf fr_X11_66 d_X11_see_46 (fun q46 _ hf => ?_)
          obtain ⟨hk49, hf⟩ := fm_some hf
          refine fm_rcr G F hf (fun r ho => fm_runV (k := 0) Z G F N (As := []) (rest := []) (c_X8_isFull hE ho _) (by rw [eq_of_beq hk49]; decide) (by rw [eq_of_beq hk49]; rfl) kw_185 kw_186 kw_187 kw_3 kw_188 yd_X8_isFull rfl (by decide) (by decide) hl.1 (Nat.le_of_ble_eq_true rfl) d_X11_see_49 (Nat.le_refl 0) (Nat.le_refl 0)) (fun x49 H locs _ F hf => ?_)
          refine lv_if_eq (tgt := 60) hx hb d_X11_see_52 (by decide) (fun c52 => ?_) (fun c52 => ?_)
          · have hf := fm_ip c52 hf
            refine lv_aload_n hx hb d_X11_see_60 rfl (lv_at hl 0 rfl) ?_
            refine fm_rgr Z G F hf fr_X11_66 d_X11_see_61 (fun q61 _ hf => ?_)
            refine lv_iload_n hx hb d_X11_see_64 rfl (lv_at hl 1 rfl) ?_
            refine lv_iload_n hx hb d_X11_see_65 rfl (lv_at hl 2 rfl) ?_
            refine lv_iload_n hx hb d_X11_see_66 rfl (lv_at hl 3 rfl) ?_
            obtain ⟨hk67, hf⟩ := fm_some hf
            refine fm_rci G F hf (fun r u ho => fm_runV (k := 3) Z G F N (As := [.int a1, .int a2, .int a3]) (rest := []) (c_X8_add hE ho _) (by rw [eq_of_beq hk67]; decide) (by rw [eq_of_beq hk67]; rfl) kw_189 kw_190 kw_191 kw_3 kw_192 yd_X8_add rfl (by decide) (by decide) hl.1 (Nat.le_of_ble_eq_true rfl) d_X11_see_67 (Nat.le_refl 0) (Nat.le_refl 0)) (fun x67 S67 H locs _ F hf => ?_)
            exact fm_reti Z hr hlk F d_X11_see_70 (Prod.mk.inj (Option.some.inj hf)).1 (Prod.mk.inj (Option.some.inj hf)).2
          · have hf := fm_ig c52 hf
            refine lv_bipush (v := (-4)) hx hb d_X11_see_55 (by decide) ?_
            refine lv_goto (tgt := 70) hx hb d_X11_see_57 (by decide) ?_
            exact fm_reti Z hr hlk F d_X11_see_70 (Prod.mk.inj (Option.some.inj hf)).1 (Prod.mk.inj (Option.some.inj hf)).2
        · have hf := fm_ip c39 hf
          refine lv_bipush (v := (-2)) hx hb d_X11_see_42 (by decide) ?_
          exact fm_reti Z hr hlk F d_X11_see_44 (Prod.mk.inj (Option.some.inj hf)).1 (Prod.mk.inj (Option.some.inj hf)).2
    · have hf := fm_ip c18 hf
      refine lv_iconst (v := (-1)) hx hb d_X11_see_21 (by decide) ?_
      exact fm_reti Z hr hlk F d_X11_see_22 (Prod.mk.inj (Option.some.inj hf)).1 (Prod.mk.inj (Option.some.inj hf)).2
  · have hf := fm_ip c2 hf
    refine lv_aload_n hx hb d_X11_see_5 rfl (lv_at hl 0 rfl) ?_
    refine fm_rgr Z G F hf fr_X11_66 d_X11_see_6 (fun q6 _ hf => ?_)
    obtain ⟨hk9, hf⟩ := fm_some hf
    refine fm_rci G F hf (fun r u ho => fm_runV (k := 0) Z G F N (As := []) (rest := []) (c_X8_clear hE ho _) (by rw [eq_of_beq hk9]; decide) (by rw [eq_of_beq hk9]; rfl) kw_315 kw_316 kw_317 kw_3 kw_318 yd_X8_clear rfl (by decide) (by decide) hl.1 (Nat.le_of_ble_eq_true rfl) d_X11_see_9 (Nat.le_refl 0) (Nat.le_refl 0)) (fun x9 S9 H locs _ F hf => ?_)
    exact fm_reti Z hr hlk F d_X11_see_12 (Prod.mk.inj (Option.some.inj hf)).1 (Prod.mk.inj (Option.some.inj hf)).2
theorem d_X11_colds_0 : decode prog_1_method_20_code 0 = .ok (.iload_n 1, 1) := by decide +kernel
theorem d_X11_colds_1 : decode prog_1_method_20_code 1 = .ok (.iconst 1, 1) := by decide +kernel
theorem d_X11_colds_2 : decode prog_1_method_20_code 2 = .ok (.invokestatic 85, 3) := by decide +kernel
theorem d_X11_colds_5 : decode prog_1_method_20_code 5 = .ok (.ifCond .ne 5, 3) := by decide +kernel
theorem d_X11_colds_8 : decode prog_1_method_20_code 8 = .ok (.iconst (-1), 1) := by decide +kernel
theorem d_X11_colds_9 : decode prog_1_method_20_code 9 = .ok (.ireturn, 1) := by decide +kernel
theorem d_X11_colds_10 : decode prog_1_method_20_code 10 = .ok (.iconst 0, 1) := by decide +kernel
theorem d_X11_colds_11 : decode prog_1_method_20_code 11 = .ok (.istore_n 2, 1) := by decide +kernel
theorem d_X11_colds_12 : decode prog_1_method_20_code 12 = .ok (.bipush (-5), 2) := by decide +kernel
theorem d_X11_colds_14 : decode prog_1_method_20_code 14 = .ok (.istore_n 3, 1) := by decide +kernel
theorem d_X11_colds_15 : decode prog_1_method_20_code 15 = .ok (.bipush 20, 2) := by decide +kernel
theorem d_X11_colds_17 : decode prog_1_method_20_code 17 = .ok (.istore 4, 2) := by decide +kernel
theorem d_X11_colds_19 : decode prog_1_method_20_code 19 = .ok (.iload 4, 2) := by decide +kernel
theorem d_X11_colds_21 : decode prog_1_method_20_code 21 = .ok (.ifCond .lt 27, 3) := by decide +kernel
theorem d_X11_colds_24 : decode prog_1_method_20_code 24 = .ok (.aload_n 0, 1) := by decide +kernel
theorem d_X11_colds_25 : decode prog_1_method_20_code 25 = .ok (.iload 4, 2) := by decide +kernel
theorem d_X11_colds_27 : decode prog_1_method_20_code 27 = .ok (.iconst (-1), 1) := by decide +kernel
theorem d_X11_colds_28 : decode prog_1_method_20_code 28 = .ok (.iconst 0, 1) := by decide +kernel
theorem d_X11_colds_29 : decode prog_1_method_20_code 29 = .ok (.iconst 0, 1) := by decide +kernel
theorem d_X11_colds_30 : decode prog_1_method_20_code 30 = .ok (.invokevirtual 201, 3) := by decide +kernel
theorem d_X11_colds_33 : decode prog_1_method_20_code 33 = .ok (.ifCond .eq 9, 3) := by decide +kernel
theorem d_X11_colds_36 : decode prog_1_method_20_code 36 = .ok (.iinc 2 1, 3) := by decide +kernel
theorem d_X11_colds_39 : decode prog_1_method_20_code 39 = .ok (.iload 4, 2) := by decide +kernel
theorem d_X11_colds_41 : decode prog_1_method_20_code 41 = .ok (.istore_n 3, 1) := by decide +kernel
theorem d_X11_colds_42 : decode prog_1_method_20_code 42 = .ok (.iinc 4 (-1), 3) := by decide +kernel
theorem d_X11_colds_45 : decode prog_1_method_20_code 45 = .ok (.goto (-26), 3) := by decide +kernel
theorem d_X11_colds_48 : decode prog_1_method_20_code 48 = .ok (.iload_n 1, 1) := by decide +kernel
theorem d_X11_colds_49 : decode prog_1_method_20_code 49 = .ok (.ifCond .ne 7, 3) := by decide +kernel
theorem d_X11_colds_52 : decode prog_1_method_20_code 52 = .ok (.iload_n 2, 1) := by decide +kernel
theorem d_X11_colds_53 : decode prog_1_method_20_code 53 = .ok (.goto 4, 3) := by decide +kernel
theorem d_X11_colds_56 : decode prog_1_method_20_code 56 = .ok (.iload_n 3, 1) := by decide +kernel
theorem d_X11_colds_57 : decode prog_1_method_20_code 57 = .ok (.ireturn, 1) := by decide +kernel
def k_X11_colds_19 (kap lam : Nat → Nat) (go19 : Nat → Int32 → Int32 → Int32 → Int32 → fm_M → Option (Int32 × fm_M)) (r0 : Nat) (a1 : Int32) (a2 : Int32) (a3 : Int32) (a4 : Int32)  (S : fm_M) : Option (Int32 × fm_M) :=
  if a4 < 0 then (
   if a1 = 0 then (
    some (a2, S)
   ) else (
    some (a3, S)
   )
  ) else (
   fm_ck (kap r0 == 11) <|
   fm_bi (m_X11_isSeenSo kap lam r0 a4 (-1) 0 0 S) fun x30 S30 =>
   if x30 = 0 then (
    fm_let (a4 + (-1) : Int32) fun x42 =>
    go19 r0 a1 a2 a3 x42 S30
   ) else (
    fm_let (a2 + 1 : Int32) fun x36 =>
    fm_let (a4 + (-1) : Int32) fun x42 =>
    go19 r0 a1 x36 a4 x42 S30
   )
  )
def b_X11_colds_19 (kap lam : Nat → Nat) : Nat → Nat → Int32 → Int32 → Int32 → Int32 → fm_M → Option (Int32 × fm_M)
  | 0 => fun _ _ _ _ _ _ => none
  | n + 1 => k_X11_colds_19 kap lam (b_X11_colds_19 kap lam n)
def m_X11_colds (kap lam : Nat → Nat) (r0 : Nat) (a1 : Int32) (S : fm_M) : Option (Int32 × fm_M) :=
  fm_b1 (m_X11_isWithin kap lam a1 1 S) fun x2 =>
  if x2 = 0 then (
   some ((-1), S)
  ) else (
   fm_let (0 : Int32) fun x11 =>
   fm_let ((-5) : Int32) fun x14 =>
   fm_let (20 : Int32) fun x17 =>
   b_X11_colds_19 kap lam fm_LF r0 a1 x11 x14 x17 S
  )
set_option maxHeartbeats 4000000 in
set_option maxRecDepth 100000 in
theorem c_X11_colds {l : Launch} {D : va_G} {ids kap lam : Nat → Nat} {RL : List Nat} {ad sk sv : Nat → Nat} {S : fm_M} {r0 : Nat} {a1 : Int32} {r : Int32} {u : fm_M} (hE : fm_E kap RL ad) (hf : m_X11_colds kap lam r0 a1 S = some (r, u)) (sz : Nat) : fm_MI l y_X11_colds prog_1_method_20_code 5 (Option.some Jvm.ClassFile.FieldType.int) 7 D ids kap lam RL ad sk sv S [.ref (ad r0), .int a1] sz r u := by
  refine fm_open rfl hE (Nat.le_of_ble_eq_true rfl) (fun p e s m args below meth c ls Z hr hlk G F N hl hsz => ?_)
  subst hsz
  obtain ⟨hx, hb, hml, hown, hts⟩ := id Z
  have hl : lv_has ls 5 [(0, .ref (ad r0)), (1, .int a1)] := hl
  generalize hQ : MQ below _ args s 0 0 (fm_A RL ad s.heap.size) = Qf
  have hL : ∀ n : Nat, (∀ (r0 : Nat) (a1 : Int32) (a2 : Int32) (a3 : Int32) (a4 : Int32)  (S : fm_M) (H : Heap) (locs : List Loc) (ls : Array Slot), fm_F D ids kap lam RL ad S (fm_A RL ad s.heap.size) s.heap H locs → lv_has ls 5 [(0, .ref (ad r0)), (1, .int a1), (2, .int a2), (3, .int a3), (4, .int a4)] → b_X11_colds_19 kap lam n r0 a1 a2 a3 a4 S = some (r, u) → W p l e (fm_rm 7) s m args below meth c H locs 0 0 Qf (F0 m 19 ls [])) := by
    intro n
    induction n with
    | zero => exact fun _ _ _ _ _ _ _ _ _ _ _ hf => absurd hf (by intro h; cases h)
    | succ n ih =>
      intro r0 a1 a2 a3 a4 S H locs ls F hl hf
      have hf : k_X11_colds_19 kap lam (b_X11_colds_19 kap lam n) r0 a1 a2 a3 a4 S = some (r, u) := hf
      unfold k_X11_colds_19 at hf
      refine lv_iload hx hb d_X11_colds_19 (lv_at hl 4 rfl) ?_
      refine lv_if_lt (tgt := 48) hx hb d_X11_colds_21 (by decide) (fun c21 => ?_) (fun c21 => ?_)
      · have hf := fm_ip c21 hf
        refine lv_iload_n hx hb d_X11_colds_48 rfl (lv_at hl 1 rfl) ?_
        refine lv_if_ne (tgt := 56) hx hb d_X11_colds_49 (by decide) (fun c49 => ?_) (fun c49 => ?_)
        · have hf := fm_ig c49 hf
          refine lv_iload_n hx hb d_X11_colds_56 rfl (lv_at hl 3 rfl) ?_
          rw [← hQ]; exact fm_reti Z hr hlk F d_X11_colds_57 (Prod.mk.inj (Option.some.inj hf)).1 (Prod.mk.inj (Option.some.inj hf)).2
        · have hf := fm_ip c49 hf
          refine lv_iload_n hx hb d_X11_colds_52 rfl (lv_at hl 2 rfl) ?_
          refine lv_goto (tgt := 57) hx hb d_X11_colds_53 (by decide) ?_
          rw [← hQ]; exact fm_reti Z hr hlk F d_X11_colds_57 (Prod.mk.inj (Option.some.inj hf)).1 (Prod.mk.inj (Option.some.inj hf)).2
      · have hf := fm_ig c21 hf
        refine lv_aload_n hx hb d_X11_colds_24 rfl (lv_at hl 0 rfl) ?_
        refine lv_iload hx hb d_X11_colds_25 (lv_at hl 4 rfl) ?_
        refine lv_iconst (v := (-1)) hx hb d_X11_colds_27 (by decide) ?_
        refine lv_iconst (v := 0) hx hb d_X11_colds_28 (by decide) ?_
        refine lv_iconst (v := 0) hx hb d_X11_colds_29 (by decide) ?_
        obtain ⟨hk30, hf⟩ := fm_some hf
        refine fm_rci G F hf (fun r u ho => fm_runV (k := 4) Z G F N (As := [.int a4, .int (-1), .int 0, .int 0]) (rest := []) (c_X11_isSeenSo hE ho _) (by rw [eq_of_beq hk30]; decide) (by rw [eq_of_beq hk30]; rfl) kw_742 kw_744 kp_24 kw_1 kw_745 yd_X11_isSeenSo rfl (by decide) (by decide) hl.1 (Nat.le_of_ble_eq_true rfl) d_X11_colds_30 (Nat.le_refl 0) (Nat.le_refl 0)) (fun x30 S30 H locs _ F hf => ?_)
        refine lv_if_eq (tgt := 42) hx hb d_X11_colds_33 (by decide) (fun c33 => ?_) (fun c33 => ?_)
        · have hf := fm_ip c33 hf
          obtain ⟨x42, ex42⟩ : ∃ y : Int32, y = a4 + (-1) := ⟨_, rfl⟩
          have hf := fm_let_at ex42 hf
          refine lv_iinc (v := x42) (lv' := [(4, .int x42), (0, .ref (ad r0)), (1, .int a1), (2, .int a2), (3, .int a3)]) hx hb d_X11_colds_42 hl (k := 4) rfl (by rw [ex42]; rfl) (by decide) rfl (fun ls hl => ?_)
          refine lv_goto (tgt := 19) hx hb d_X11_colds_45 (by decide) ?_
          exact ih r0 a1 a2 a3 x42 S30 _ _ _ F (lv_sub hl [1, 2, 3, 4, 0] rfl) hf
        · have hf := fm_ig c33 hf
          obtain ⟨x36, ex36⟩ : ∃ y : Int32, y = a2 + 1 := ⟨_, rfl⟩
          have hf := fm_let_at ex36 hf
          refine lv_iinc (v := x36) (lv' := [(2, .int x36), (0, .ref (ad r0)), (1, .int a1), (3, .int a3), (4, .int a4)]) hx hb d_X11_colds_36 hl (k := 2) rfl (by rw [ex36]; rfl) (by decide) rfl (fun ls hl => ?_)
          refine lv_iload hx hb d_X11_colds_39 (lv_at hl 4 rfl) ?_
          refine lv_istore_n (lv' := [(3, .int a4), (2, .int x36), (0, .ref (ad r0)), (1, .int a1), (4, .int a4)]) hx hb d_X11_colds_41 rfl hl (by decide) rfl (fun ls hl => ?_)
          obtain ⟨x42, ex42⟩ : ∃ y : Int32, y = a4 + (-1) := ⟨_, rfl⟩
          have hf := fm_let_at ex42 hf
          refine lv_iinc (v := x42) (lv' := [(4, .int x42), (3, .int a4), (2, .int x36), (0, .ref (ad r0)), (1, .int a1)]) hx hb d_X11_colds_42 hl (k := 4) rfl (by rw [ex42]; rfl) (by decide) rfl (fun ls hl => ?_)
          refine lv_goto (tgt := 19) hx hb d_X11_colds_45 (by decide) ?_
          exact ih r0 a1 x36 a4 x42 S30 _ _ _ F (lv_sub hl [3, 4, 2, 1, 0] rfl) hf
  unfold m_X11_colds at hf
  refine lv_iload_n hx hb d_X11_colds_0 rfl (lv_at hl 1 rfl) ?_
  refine lv_iconst (v := 1) hx hb d_X11_colds_1 (by decide) ?_
  refine fm_rcr G F hf (fun r ho => fm_runS (k := 2) Z G F N (As := [.int a1, .int 1]) (rest := []) (c_X11_isWithin hE ho _) kw_182 kw_183 kw_1 kw_184 yd_X11_isWithin rfl (by decide) (by decide) hl.1 (Nat.le_of_ble_eq_true rfl) d_X11_colds_2 (Nat.le_refl 0) (Nat.le_refl 0)) (fun x2 H locs _ F hf => ?_)
  refine lv_if_ne (tgt := 10) hx hb d_X11_colds_5 (by decide) (fun c5 => ?_) (fun c5 => ?_)
  · have hf := fm_ig c5 hf
    refine lv_iconst (v := 0) hx hb d_X11_colds_10 (by decide) ?_
    refine lv_topi (fun x11 ex11 => ?_)
    have hf := fm_let_at ex11 hf
    refine lv_istore_n (lv' := [(2, .int x11), (0, .ref (ad r0)), (1, .int a1)]) hx hb d_X11_colds_11 rfl hl (by decide) rfl (fun ls hl => ?_)
    refine lv_bipush (v := (-5)) hx hb d_X11_colds_12 (by decide) ?_
    refine lv_topi (fun x14 ex14 => ?_)
    have hf := fm_let_at ex14 hf
    refine lv_istore_n (lv' := [(3, .int x14), (2, .int x11), (0, .ref (ad r0)), (1, .int a1)]) hx hb d_X11_colds_14 rfl hl (by decide) rfl (fun ls hl => ?_)
    refine lv_bipush (v := 20) hx hb d_X11_colds_15 (by decide) ?_
    refine lv_topi (fun x17 ex17 => ?_)
    have hf := fm_let_at ex17 hf
    refine lv_istore (lv' := [(4, .int x17), (3, .int x14), (2, .int x11), (0, .ref (ad r0)), (1, .int a1)]) hx hb d_X11_colds_17 hl (by decide) rfl (fun ls hl => ?_)
    exact (hL fm_LF) r0 a1 x11 x14 x17 S _ _ _ F (lv_sub hl [3, 4, 2, 1, 0] rfl) hf
  · have hf := fm_ip c5 hf
    refine lv_iconst (v := (-1)) hx hb d_X11_colds_8 (by decide) ?_
    rw [← hQ]; exact fm_reti Z hr hlk F d_X11_colds_9 (Prod.mk.inj (Option.some.inj hf)).1 (Prod.mk.inj (Option.some.inj hf)).2
theorem d_X11_warms_0 : decode prog_1_method_21_code 0 = .ok (.aload_n 0, 1) := by decide +kernel
theorem d_X11_warms_1 : decode prog_1_method_21_code 1 = .ok (.iload_n 1, 1) := by decide +kernel
theorem d_X11_warms_2 : decode prog_1_method_21_code 2 = .ok (.invokevirtual 115, 3) := by decide +kernel
theorem d_X11_warms_5 : decode prog_1_method_21_code 5 = .ok (.ifCond .ne 5, 3) := by decide +kernel
theorem d_X11_warms_8 : decode prog_1_method_21_code 8 = .ok (.iconst (-1), 1) := by decide +kernel
theorem d_X11_warms_9 : decode prog_1_method_21_code 9 = .ok (.ireturn, 1) := by decide +kernel
theorem d_X11_warms_10 : decode prog_1_method_21_code 10 = .ok (.iconst 0, 1) := by decide +kernel
theorem d_X11_warms_11 : decode prog_1_method_21_code 11 = .ok (.istore_n 2, 1) := by decide +kernel
theorem d_X11_warms_12 : decode prog_1_method_21_code 12 = .ok (.iconst 0, 1) := by decide +kernel
theorem d_X11_warms_13 : decode prog_1_method_21_code 13 = .ok (.istore_n 3, 1) := by decide +kernel
theorem d_X11_warms_14 : decode prog_1_method_21_code 14 = .ok (.iload_n 3, 1) := by decide +kernel
theorem d_X11_warms_15 : decode prog_1_method_21_code 15 = .ok (.bipush 9, 2) := by decide +kernel
theorem d_X11_warms_17 : decode prog_1_method_21_code 17 = .ok (.if_icmp .gt 37, 3) := by decide +kernel
theorem d_X11_warms_20 : decode prog_1_method_21_code 20 = .ok (.aload_n 0, 1) := by decide +kernel
theorem d_X11_warms_21 : decode prog_1_method_21_code 21 = .ok (.aload_n 0, 1) := by decide +kernel
theorem d_X11_warms_22 : decode prog_1_method_21_code 22 = .ok (.getfield 57, 3) := by decide +kernel
theorem d_X11_warms_25 : decode prog_1_method_21_code 25 = .ok (.iload_n 1, 1) := by decide +kernel
theorem d_X11_warms_26 : decode prog_1_method_21_code 26 = .ok (.iload_n 3, 1) := by decide +kernel
theorem d_X11_warms_27 : decode prog_1_method_21_code 27 = .ok (.aload_n 0, 1) := by decide +kernel
theorem d_X11_warms_28 : decode prog_1_method_21_code 28 = .ok (.getfield 13, 3) := by decide +kernel
theorem d_X11_warms_31 : decode prog_1_method_21_code 31 = .ok (.iload_n 1, 1) := by decide +kernel
theorem d_X11_warms_32 : decode prog_1_method_21_code 32 = .ok (.aaload, 1) := by decide +kernel
theorem d_X11_warms_33 : decode prog_1_method_21_code 33 = .ok (.getfield 122, 3) := by decide +kernel
theorem d_X11_warms_36 : decode prog_1_method_21_code 36 = .ok (.invokevirtual 201, 3) := by decide +kernel
theorem d_X11_warms_39 : decode prog_1_method_21_code 39 = .ok (.ifCond .eq 9, 3) := by decide +kernel
theorem d_X11_warms_42 : decode prog_1_method_21_code 42 = .ok (.iload_n 2, 1) := by decide +kernel
theorem d_X11_warms_43 : decode prog_1_method_21_code 43 = .ok (.iconst 1, 1) := by decide +kernel
theorem d_X11_warms_44 : decode prog_1_method_21_code 44 = .ok (.iload_n 3, 1) := by decide +kernel
theorem d_X11_warms_45 : decode prog_1_method_21_code 45 = .ok (.ishl, 1) := by decide +kernel
theorem d_X11_warms_46 : decode prog_1_method_21_code 46 = .ok (.ior, 1) := by decide +kernel
theorem d_X11_warms_47 : decode prog_1_method_21_code 47 = .ok (.istore_n 2, 1) := by decide +kernel
theorem d_X11_warms_48 : decode prog_1_method_21_code 48 = .ok (.iinc 3 1, 3) := by decide +kernel
theorem d_X11_warms_51 : decode prog_1_method_21_code 51 = .ok (.goto (-37), 3) := by decide +kernel
theorem d_X11_warms_54 : decode prog_1_method_21_code 54 = .ok (.iload_n 2, 1) := by decide +kernel
theorem d_X11_warms_55 : decode prog_1_method_21_code 55 = .ok (.ireturn, 1) := by decide +kernel
def k_X11_warms_14 (kap lam : Nat → Nat) (go14 : Nat → Int32 → Int32 → Int32 → fm_M → Option (Int32 × fm_M)) (r0 : Nat) (a1 : Int32) (a2 : Int32) (a3 : Int32)  (S : fm_M) : Option (Int32 × fm_M) :=
  if 9 < a3 then (
   some (a2, S)
  ) else (
   fm_gi kap 11 r0 8 S fun x22 =>
   fm_gr kap 11 r0 0 S fun q28 =>
   fm_lr kap lam 16 q28 a1 S fun q32 =>
   fm_gi kap 5 q32 2 S fun x33 =>
   fm_ck (kap r0 == 11) <|
   fm_bi (m_X11_isSeenSo kap lam r0 x22 a1 a3 x33 S) fun x36 S36 =>
   if x36 = 0 then (
    fm_let (a3 + 1 : Int32) fun x48 =>
    go14 r0 a1 a2 x48 S36
   ) else (
    fm_let (a2 ||| ((1 : Int32) <<< (a3 &&& 31)) : Int32) fun x47 =>
    fm_let (a3 + 1 : Int32) fun x48 =>
    go14 r0 a1 x47 x48 S36
   )
  )
def b_X11_warms_14 (kap lam : Nat → Nat) : Nat → Nat → Int32 → Int32 → Int32 → fm_M → Option (Int32 × fm_M)
  | 0 => fun _ _ _ _ _ => none
  | n + 1 => k_X11_warms_14 kap lam (b_X11_warms_14 kap lam n)
def m_X11_warms (kap lam : Nat → Nat) (r0 : Nat) (a1 : Int32) (S : fm_M) : Option (Int32 × fm_M) :=
  fm_ck (kap r0 == 11) <|
  fm_b1 (m_X11_isPane kap lam r0 a1 S) fun x2 =>
  if x2 = 0 then (
   some ((-1), S)
  ) else (
   fm_let (0 : Int32) fun x11 =>
   fm_let (0 : Int32) fun x13 =>
   b_X11_warms_14 kap lam fm_LF r0 a1 x11 x13 S
  )
set_option maxHeartbeats 4000000 in
set_option maxRecDepth 100000 in
theorem c_X11_warms {l : Launch} {D : va_G} {ids kap lam : Nat → Nat} {RL : List Nat} {ad sk sv : Nat → Nat} {S : fm_M} {r0 : Nat} {a1 : Int32} {r : Int32} {u : fm_M} (hE : fm_E kap RL ad) (hf : m_X11_warms kap lam r0 a1 S = some (r, u)) (sz : Nat) : fm_MI l y_X11_warms prog_1_method_21_code 4 (Option.some Jvm.ClassFile.FieldType.int) 7 D ids kap lam RL ad sk sv S [.ref (ad r0), .int a1] sz r u := by
  refine fm_open rfl hE (Nat.le_of_ble_eq_true rfl) (fun p e s m args below meth c ls Z hr hlk G F N hl hsz => ?_)
  subst hsz
  obtain ⟨hx, hb, hml, hown, hts⟩ := id Z
  have hl : lv_has ls 4 [(0, .ref (ad r0)), (1, .int a1)] := hl
  generalize hQ : MQ below _ args s 0 0 (fm_A RL ad s.heap.size) = Qf
  have hL : ∀ n : Nat, (∀ (r0 : Nat) (a1 : Int32) (a2 : Int32) (a3 : Int32)  (S : fm_M) (H : Heap) (locs : List Loc) (ls : Array Slot), fm_F D ids kap lam RL ad S (fm_A RL ad s.heap.size) s.heap H locs → lv_has ls 4 [(0, .ref (ad r0)), (1, .int a1), (2, .int a2), (3, .int a3)] → b_X11_warms_14 kap lam n r0 a1 a2 a3 S = some (r, u) → W p l e (fm_rm 7) s m args below meth c H locs 0 0 Qf (F0 m 14 ls [])) := by
    intro n
    induction n with
    | zero => exact fun _ _ _ _ _ _ _ _ _ _ hf => absurd hf (by intro h; cases h)
    | succ n ih =>
      intro r0 a1 a2 a3 S H locs ls F hl hf
      have hf : k_X11_warms_14 kap lam (b_X11_warms_14 kap lam n) r0 a1 a2 a3 S = some (r, u) := hf
      unfold k_X11_warms_14 at hf
      refine lv_iload_n hx hb d_X11_warms_14 rfl (lv_at hl 3 rfl) ?_
      refine lv_bipush (v := 9) hx hb d_X11_warms_15 (by decide) ?_
      refine lv_icmp_gt (tgt := 54) hx hb d_X11_warms_17 (by decide) (fun c17 => ?_) (fun c17 => ?_)
      · have hf := fm_ip c17 hf
        refine lv_iload_n hx hb d_X11_warms_54 rfl (lv_at hl 2 rfl) ?_
        rw [← hQ]; exact fm_reti Z hr hlk F d_X11_warms_55 (Prod.mk.inj (Option.some.inj hf)).1 (Prod.mk.inj (Option.some.inj hf)).2
      · have hf := fm_ig c17 hf
        refine lv_aload_n hx hb d_X11_warms_20 rfl (lv_at hl 0 rfl) ?_
        refine lv_aload_n hx hb d_X11_warms_21 rfl (lv_at hl 0 rfl) ?_
        refine fm_rgi Z G F hf fr_X11_57 d_X11_warms_22 (fun x22 _ hf => ?_)
        refine lv_iload_n hx hb d_X11_warms_25 rfl (lv_at hl 1 rfl) ?_
        refine lv_iload_n hx hb d_X11_warms_26 rfl (lv_at hl 3 rfl) ?_
        refine lv_aload_n hx hb d_X11_warms_27 rfl (lv_at hl 0 rfl) ?_
        refine fm_rgr Z G F hf fr_X11_13 d_X11_warms_28 (fun q28 _ hf => ?_)
        refine lv_iload_n hx hb d_X11_warms_31 rfl (lv_at hl 1 rfl) ?_
        refine fm_rlr Z G F (by decide) (by decide) hf d_X11_warms_32 (fun q32 _ hf => ?_)
        refine fm_rgi Z G F hf fr_X11_122 d_X11_warms_33 (fun x33 _ hf => ?_)
        obtain ⟨hk36, hf⟩ := fm_some hf
        refine fm_rci G F hf (fun r u ho => fm_runV (k := 4) Z G F N (As := [.int x22, .int a1, .int a3, .int x33]) (rest := []) (c_X11_isSeenSo hE ho _) (by rw [eq_of_beq hk36]; decide) (by rw [eq_of_beq hk36]; rfl) kw_742 kw_744 kp_24 kw_1 kw_745 yd_X11_isSeenSo rfl (by decide) (by decide) hl.1 (Nat.le_of_ble_eq_true rfl) d_X11_warms_36 (Nat.le_refl 0) (Nat.le_refl 0)) (fun x36 S36 H locs _ F hf => ?_)
        refine lv_if_eq (tgt := 48) hx hb d_X11_warms_39 (by decide) (fun c39 => ?_) (fun c39 => ?_)
        · have hf := fm_ip c39 hf
          obtain ⟨x48, ex48⟩ : ∃ y : Int32, y = a3 + 1 := ⟨_, rfl⟩
          have hf := fm_let_at ex48 hf
          refine lv_iinc (v := x48) (lv' := [(3, .int x48), (0, .ref (ad r0)), (1, .int a1), (2, .int a2)]) hx hb d_X11_warms_48 hl (k := 3) rfl (by rw [ex48]; rfl) (by decide) rfl (fun ls hl => ?_)
          refine lv_goto (tgt := 14) hx hb d_X11_warms_51 (by decide) ?_
          exact ih r0 a1 a2 x48 S36 _ _ _ F (lv_sub hl [1, 2, 3, 0] rfl) hf
        · have hf := fm_ig c39 hf
          refine lv_iload_n hx hb d_X11_warms_42 rfl (lv_at hl 2 rfl) ?_
          refine lv_iconst (v := 1) hx hb d_X11_warms_43 (by decide) ?_
          refine lv_iload_n hx hb d_X11_warms_44 rfl (lv_at hl 3 rfl) ?_
          refine lv_ishl hx hb d_X11_warms_45 ?_
          refine lv_ior hx hb d_X11_warms_46 ?_
          refine lv_topi (fun x47 ex47 => ?_)
          have hf := fm_let_at ex47 hf
          refine lv_istore_n (lv' := [(2, .int x47), (0, .ref (ad r0)), (1, .int a1), (3, .int a3)]) hx hb d_X11_warms_47 rfl hl (by decide) rfl (fun ls hl => ?_)
          obtain ⟨x48, ex48⟩ : ∃ y : Int32, y = a3 + 1 := ⟨_, rfl⟩
          have hf := fm_let_at ex48 hf
          refine lv_iinc (v := x48) (lv' := [(3, .int x48), (2, .int x47), (0, .ref (ad r0)), (1, .int a1)]) hx hb d_X11_warms_48 hl (k := 3) rfl (by rw [ex48]; rfl) (by decide) rfl (fun ls hl => ?_)
          refine lv_goto (tgt := 14) hx hb d_X11_warms_51 (by decide) ?_
          exact ih r0 a1 x47 x48 S36 _ _ _ F (lv_sub hl [2, 3, 1, 0] rfl) hf
  unfold m_X11_warms at hf
  refine lv_aload_n hx hb d_X11_warms_0 rfl (lv_at hl 0 rfl) ?_
  refine lv_iload_n hx hb d_X11_warms_1 rfl (lv_at hl 1 rfl) ?_
  obtain ⟨hk2, hf⟩ := fm_some hf
  refine fm_rcr G F hf (fun r ho => fm_runV (k := 1) Z G F N (As := [.int a1]) (rest := []) (c_X11_isPane hE ho _) (by rw [eq_of_beq hk2]; decide) (by rw [eq_of_beq hk2]; rfl) kw_546 kw_548 kp_9 kw_1 kw_549 yd_X11_isPane rfl (by decide) (by decide) hl.1 (Nat.le_of_ble_eq_true rfl) d_X11_warms_2 (Nat.le_refl 0) (Nat.le_refl 0)) (fun x2 H locs _ F hf => ?_)
  refine lv_if_ne (tgt := 10) hx hb d_X11_warms_5 (by decide) (fun c5 => ?_) (fun c5 => ?_)
  · have hf := fm_ig c5 hf
    refine lv_iconst (v := 0) hx hb d_X11_warms_10 (by decide) ?_
    refine lv_topi (fun x11 ex11 => ?_)
    have hf := fm_let_at ex11 hf
    refine lv_istore_n (lv' := [(2, .int x11), (0, .ref (ad r0)), (1, .int a1)]) hx hb d_X11_warms_11 rfl hl (by decide) rfl (fun ls hl => ?_)
    refine lv_iconst (v := 0) hx hb d_X11_warms_12 (by decide) ?_
    refine lv_topi (fun x13 ex13 => ?_)
    have hf := fm_let_at ex13 hf
    refine lv_istore_n (lv' := [(3, .int x13), (2, .int x11), (0, .ref (ad r0)), (1, .int a1)]) hx hb d_X11_warms_13 rfl hl (by decide) rfl (fun ls hl => ?_)
    exact (hL fm_LF) r0 a1 x11 x13 S _ _ _ F (lv_sub hl [2, 3, 1, 0] rfl) hf
  · have hf := fm_ip c5 hf
    refine lv_iconst (v := (-1)) hx hb d_X11_warms_8 (by decide) ?_
    rw [← hQ]; exact fm_reti Z hr hlk F d_X11_warms_9 (Prod.mk.inj (Option.some.inj hf)).1 (Prod.mk.inj (Option.some.inj hf)).2
theorem d_X11_firm_0 : decode prog_1_method_22_code 0 = .ok (.aload_n 0, 1) := by decide +kernel
theorem d_X11_firm_1 : decode prog_1_method_22_code 1 = .ok (.iload_n 1, 1) := by decide +kernel
theorem d_X11_firm_2 : decode prog_1_method_22_code 2 = .ok (.invokevirtual 115, 3) := by decide +kernel
theorem d_X11_firm_5 : decode prog_1_method_22_code 5 = .ok (.ifCond .eq 11, 3) := by decide +kernel
theorem d_X11_firm_8 : decode prog_1_method_22_code 8 = .ok (.iload_n 2, 1) := by decide +kernel
theorem d_X11_firm_9 : decode prog_1_method_22_code 9 = .ok (.iconst 1, 1) := by decide +kernel
theorem d_X11_firm_10 : decode prog_1_method_22_code 10 = .ok (.invokestatic 85, 3) := by decide +kernel
theorem d_X11_firm_13 : decode prog_1_method_22_code 13 = .ok (.ifCond .ne 5, 3) := by decide +kernel
theorem d_X11_firm_16 : decode prog_1_method_22_code 16 = .ok (.iconst (-1), 1) := by decide +kernel
theorem d_X11_firm_17 : decode prog_1_method_22_code 17 = .ok (.ireturn, 1) := by decide +kernel
theorem d_X11_firm_18 : decode prog_1_method_22_code 18 = .ok (.iconst 0, 1) := by decide +kernel
theorem d_X11_firm_19 : decode prog_1_method_22_code 19 = .ok (.istore_n 3, 1) := by decide +kernel
theorem d_X11_firm_20 : decode prog_1_method_22_code 20 = .ok (.bipush (-5), 2) := by decide +kernel
theorem d_X11_firm_22 : decode prog_1_method_22_code 22 = .ok (.istore 4, 2) := by decide +kernel
theorem d_X11_firm_24 : decode prog_1_method_22_code 24 = .ok (.bipush 9, 2) := by decide +kernel
theorem d_X11_firm_26 : decode prog_1_method_22_code 26 = .ok (.istore 5, 2) := by decide +kernel
theorem d_X11_firm_28 : decode prog_1_method_22_code 28 = .ok (.iload 5, 2) := by decide +kernel
theorem d_X11_firm_30 : decode prog_1_method_22_code 30 = .ok (.ifCond .lt 39, 3) := by decide +kernel
theorem d_X11_firm_33 : decode prog_1_method_22_code 33 = .ok (.aload_n 0, 1) := by decide +kernel
theorem d_X11_firm_34 : decode prog_1_method_22_code 34 = .ok (.aload_n 0, 1) := by decide +kernel
theorem d_X11_firm_35 : decode prog_1_method_22_code 35 = .ok (.getfield 57, 3) := by decide +kernel
theorem d_X11_firm_38 : decode prog_1_method_22_code 38 = .ok (.iload_n 1, 1) := by decide +kernel
theorem d_X11_firm_39 : decode prog_1_method_22_code 39 = .ok (.aload_n 0, 1) := by decide +kernel
theorem d_X11_firm_40 : decode prog_1_method_22_code 40 = .ok (.getfield 13, 3) := by decide +kernel
theorem d_X11_firm_43 : decode prog_1_method_22_code 43 = .ok (.iload_n 1, 1) := by decide +kernel
theorem d_X11_firm_44 : decode prog_1_method_22_code 44 = .ok (.aaload, 1) := by decide +kernel
theorem d_X11_firm_45 : decode prog_1_method_22_code 45 = .ok (.getfield 125, 3) := by decide +kernel
theorem d_X11_firm_48 : decode prog_1_method_22_code 48 = .ok (.iload 5, 2) := by decide +kernel
theorem d_X11_firm_50 : decode prog_1_method_22_code 50 = .ok (.invokevirtual 201, 3) := by decide +kernel
theorem d_X11_firm_53 : decode prog_1_method_22_code 53 = .ok (.ifCond .eq 10, 3) := by decide +kernel
theorem d_X11_firm_56 : decode prog_1_method_22_code 56 = .ok (.iinc 3 1, 3) := by decide +kernel
theorem d_X11_firm_59 : decode prog_1_method_22_code 59 = .ok (.iload 5, 2) := by decide +kernel
theorem d_X11_firm_61 : decode prog_1_method_22_code 61 = .ok (.istore 4, 2) := by decide +kernel
theorem d_X11_firm_63 : decode prog_1_method_22_code 63 = .ok (.iinc 5 (-1), 3) := by decide +kernel
theorem d_X11_firm_66 : decode prog_1_method_22_code 66 = .ok (.goto (-38), 3) := by decide +kernel
theorem d_X11_firm_69 : decode prog_1_method_22_code 69 = .ok (.iload_n 2, 1) := by decide +kernel
theorem d_X11_firm_70 : decode prog_1_method_22_code 70 = .ok (.ifCond .ne 7, 3) := by decide +kernel
theorem d_X11_firm_73 : decode prog_1_method_22_code 73 = .ok (.iload_n 3, 1) := by decide +kernel
theorem d_X11_firm_74 : decode prog_1_method_22_code 74 = .ok (.goto 5, 3) := by decide +kernel
theorem d_X11_firm_77 : decode prog_1_method_22_code 77 = .ok (.iload 4, 2) := by decide +kernel
theorem d_X11_firm_79 : decode prog_1_method_22_code 79 = .ok (.ireturn, 1) := by decide +kernel
def k_X11_firm_28 (kap lam : Nat → Nat) (go28 : Nat → Int32 → Int32 → Int32 → Int32 → Int32 → fm_M → Option (Int32 × fm_M)) (r0 : Nat) (a1 : Int32) (a2 : Int32) (a3 : Int32) (a4 : Int32) (a5 : Int32)  (S : fm_M) : Option (Int32 × fm_M) :=
  if a5 < 0 then (
   if a2 = 0 then (
    some (a3, S)
   ) else (
    some (a4, S)
   )
  ) else (
   fm_gi kap 11 r0 8 S fun x35 =>
   fm_gr kap 11 r0 0 S fun q40 =>
   fm_lr kap lam 16 q40 a1 S fun q44 =>
   fm_gi kap 5 q44 3 S fun x45 =>
   fm_ck (kap r0 == 11) <|
   fm_bi (m_X11_isSeenSo kap lam r0 x35 a1 x45 a5 S) fun x50 S50 =>
   if x50 = 0 then (
    fm_let (a5 + (-1) : Int32) fun x63 =>
    go28 r0 a1 a2 a3 a4 x63 S50
   ) else (
    fm_let (a3 + 1 : Int32) fun x56 =>
    fm_let (a5 + (-1) : Int32) fun x63 =>
    go28 r0 a1 a2 x56 a5 x63 S50
   )
  )
def b_X11_firm_28 (kap lam : Nat → Nat) : Nat → Nat → Int32 → Int32 → Int32 → Int32 → Int32 → fm_M → Option (Int32 × fm_M)
  | 0 => fun _ _ _ _ _ _ _ => none
  | n + 1 => k_X11_firm_28 kap lam (b_X11_firm_28 kap lam n)
def m_X11_firm (kap lam : Nat → Nat) (r0 : Nat) (a1 : Int32) (a2 : Int32) (S : fm_M) : Option (Int32 × fm_M) :=
  fm_ck (kap r0 == 11) <|
  fm_b1 (m_X11_isPane kap lam r0 a1 S) fun x2 =>
  if x2 = 0 then (
   some ((-1), S)
  ) else (
   fm_b1 (m_X11_isWithin kap lam a2 1 S) fun x10 =>
   if x10 = 0 then (
    some ((-1), S)
   ) else (
    fm_let (0 : Int32) fun x19 =>
    fm_let ((-5) : Int32) fun x22 =>
    fm_let (9 : Int32) fun x26 =>
    b_X11_firm_28 kap lam fm_LF r0 a1 a2 x19 x22 x26 S
   )
  )
set_option maxHeartbeats 4000000 in
set_option maxRecDepth 100000 in
theorem c_X11_firm {l : Launch} {D : va_G} {ids kap lam : Nat → Nat} {RL : List Nat} {ad sk sv : Nat → Nat} {S : fm_M} {r0 : Nat} {a1 : Int32} {a2 : Int32} {r : Int32} {u : fm_M} (hE : fm_E kap RL ad) (hf : m_X11_firm kap lam r0 a1 a2 S = some (r, u)) (sz : Nat) : fm_MI l y_X11_firm prog_1_method_22_code 6 (Option.some Jvm.ClassFile.FieldType.int) 7 D ids kap lam RL ad sk sv S [.ref (ad r0), .int a1, .int a2] sz r u := by
  refine fm_open rfl hE (Nat.le_of_ble_eq_true rfl) (fun p e s m args below meth c ls Z hr hlk G F N hl hsz => ?_)
  subst hsz
  obtain ⟨hx, hb, hml, hown, hts⟩ := id Z
  have hl : lv_has ls 6 [(0, .ref (ad r0)), (1, .int a1), (2, .int a2)] := hl
  generalize hQ : MQ below _ args s 0 0 (fm_A RL ad s.heap.size) = Qf
  have hL : ∀ n : Nat, (∀ (r0 : Nat) (a1 : Int32) (a2 : Int32) (a3 : Int32) (a4 : Int32) (a5 : Int32)  (S : fm_M) (H : Heap) (locs : List Loc) (ls : Array Slot), fm_F D ids kap lam RL ad S (fm_A RL ad s.heap.size) s.heap H locs → lv_has ls 6 [(0, .ref (ad r0)), (1, .int a1), (2, .int a2), (3, .int a3), (4, .int a4), (5, .int a5)] → b_X11_firm_28 kap lam n r0 a1 a2 a3 a4 a5 S = some (r, u) → W p l e (fm_rm 7) s m args below meth c H locs 0 0 Qf (F0 m 28 ls [])) := by
    intro n
    induction n with
    | zero => exact fun _ _ _ _ _ _ _ _ _ _ _ _ hf => absurd hf (by intro h; cases h)
    | succ n ih =>
      intro r0 a1 a2 a3 a4 a5 S H locs ls F hl hf
      have hf : k_X11_firm_28 kap lam (b_X11_firm_28 kap lam n) r0 a1 a2 a3 a4 a5 S = some (r, u) := hf
      unfold k_X11_firm_28 at hf
      refine lv_iload hx hb d_X11_firm_28 (lv_at hl 5 rfl) ?_
      refine lv_if_lt (tgt := 69) hx hb d_X11_firm_30 (by decide) (fun c30 => ?_) (fun c30 => ?_)
      · have hf := fm_ip c30 hf
        refine lv_iload_n hx hb d_X11_firm_69 rfl (lv_at hl 2 rfl) ?_
        refine lv_if_ne (tgt := 77) hx hb d_X11_firm_70 (by decide) (fun c70 => ?_) (fun c70 => ?_)
        · have hf := fm_ig c70 hf
          refine lv_iload hx hb d_X11_firm_77 (lv_at hl 4 rfl) ?_
          rw [← hQ]; exact fm_reti Z hr hlk F d_X11_firm_79 (Prod.mk.inj (Option.some.inj hf)).1 (Prod.mk.inj (Option.some.inj hf)).2
        · have hf := fm_ip c70 hf
          refine lv_iload_n hx hb d_X11_firm_73 rfl (lv_at hl 3 rfl) ?_
          refine lv_goto (tgt := 79) hx hb d_X11_firm_74 (by decide) ?_
          rw [← hQ]; exact fm_reti Z hr hlk F d_X11_firm_79 (Prod.mk.inj (Option.some.inj hf)).1 (Prod.mk.inj (Option.some.inj hf)).2
      · have hf := fm_ig c30 hf
        refine lv_aload_n hx hb d_X11_firm_33 rfl (lv_at hl 0 rfl) ?_
        refine lv_aload_n hx hb d_X11_firm_34 rfl (lv_at hl 0 rfl) ?_
        refine fm_rgi Z G F hf fr_X11_57 d_X11_firm_35 (fun x35 _ hf => ?_)
        refine lv_iload_n hx hb d_X11_firm_38 rfl (lv_at hl 1 rfl) ?_
        refine lv_aload_n hx hb d_X11_firm_39 rfl (lv_at hl 0 rfl) ?_
        refine fm_rgr Z G F hf fr_X11_13 d_X11_firm_40 (fun q40 _ hf => ?_)
        refine lv_iload_n hx hb d_X11_firm_43 rfl (lv_at hl 1 rfl) ?_
        refine fm_rlr Z G F (by decide) (by decide) hf d_X11_firm_44 (fun q44 _ hf => ?_)
        refine fm_rgi Z G F hf fr_X11_125 d_X11_firm_45 (fun x45 _ hf => ?_)
        refine lv_iload hx hb d_X11_firm_48 (lv_at hl 5 rfl) ?_
        obtain ⟨hk50, hf⟩ := fm_some hf
        refine fm_rci G F hf (fun r u ho => fm_runV (k := 4) Z G F N (As := [.int x35, .int a1, .int x45, .int a5]) (rest := []) (c_X11_isSeenSo hE ho _) (by rw [eq_of_beq hk50]; decide) (by rw [eq_of_beq hk50]; rfl) kw_742 kw_744 kp_24 kw_1 kw_745 yd_X11_isSeenSo rfl (by decide) (by decide) hl.1 (Nat.le_of_ble_eq_true rfl) d_X11_firm_50 (Nat.le_refl 0) (Nat.le_refl 0)) (fun x50 S50 H locs _ F hf => ?_)
        refine lv_if_eq (tgt := 63) hx hb d_X11_firm_53 (by decide) (fun c53 => ?_) (fun c53 => ?_)
        · have hf := fm_ip c53 hf
          obtain ⟨x63, ex63⟩ : ∃ y : Int32, y = a5 + (-1) := ⟨_, rfl⟩
          have hf := fm_let_at ex63 hf
          refine lv_iinc (v := x63) (lv' := [(5, .int x63), (0, .ref (ad r0)), (1, .int a1), (2, .int a2), (3, .int a3), (4, .int a4)]) hx hb d_X11_firm_63 hl (k := 5) rfl (by rw [ex63]; rfl) (by decide) rfl (fun ls hl => ?_)
          refine lv_goto (tgt := 28) hx hb d_X11_firm_66 (by decide) ?_
          exact ih r0 a1 a2 a3 a4 x63 S50 _ _ _ F (lv_sub hl [1, 2, 3, 4, 5, 0] rfl) hf
        · have hf := fm_ig c53 hf
          obtain ⟨x56, ex56⟩ : ∃ y : Int32, y = a3 + 1 := ⟨_, rfl⟩
          have hf := fm_let_at ex56 hf
          refine lv_iinc (v := x56) (lv' := [(3, .int x56), (0, .ref (ad r0)), (1, .int a1), (2, .int a2), (4, .int a4), (5, .int a5)]) hx hb d_X11_firm_56 hl (k := 3) rfl (by rw [ex56]; rfl) (by decide) rfl (fun ls hl => ?_)
          refine lv_iload hx hb d_X11_firm_59 (lv_at hl 5 rfl) ?_
          refine lv_istore (lv' := [(4, .int a5), (3, .int x56), (0, .ref (ad r0)), (1, .int a1), (2, .int a2), (5, .int a5)]) hx hb d_X11_firm_61 hl (by decide) rfl (fun ls hl => ?_)
          obtain ⟨x63, ex63⟩ : ∃ y : Int32, y = a5 + (-1) := ⟨_, rfl⟩
          have hf := fm_let_at ex63 hf
          refine lv_iinc (v := x63) (lv' := [(5, .int x63), (4, .int a5), (3, .int x56), (0, .ref (ad r0)), (1, .int a1), (2, .int a2)]) hx hb d_X11_firm_63 hl (k := 5) rfl (by rw [ex63]; rfl) (by decide) rfl (fun ls hl => ?_)
          refine lv_goto (tgt := 28) hx hb d_X11_firm_66 (by decide) ?_
          exact ih r0 a1 a2 x56 a5 x63 S50 _ _ _ F (lv_sub hl [3, 4, 5, 2, 1, 0] rfl) hf
  unfold m_X11_firm at hf
  refine lv_aload_n hx hb d_X11_firm_0 rfl (lv_at hl 0 rfl) ?_
  refine lv_iload_n hx hb d_X11_firm_1 rfl (lv_at hl 1 rfl) ?_
  obtain ⟨hk2, hf⟩ := fm_some hf
  refine fm_rcr G F hf (fun r ho => fm_runV (k := 1) Z G F N (As := [.int a1]) (rest := []) (c_X11_isPane hE ho _) (by rw [eq_of_beq hk2]; decide) (by rw [eq_of_beq hk2]; rfl) kw_546 kw_548 kp_9 kw_1 kw_549 yd_X11_isPane rfl (by decide) (by decide) hl.1 (Nat.le_of_ble_eq_true rfl) d_X11_firm_2 (Nat.le_refl 0) (Nat.le_refl 0)) (fun x2 H locs _ F hf => ?_)
  refine lv_if_eq (tgt := 16) hx hb d_X11_firm_5 (by decide) (fun c5 => ?_) (fun c5 => ?_)
  · have hf := fm_ip c5 hf
    refine lv_iconst (v := (-1)) hx hb d_X11_firm_16 (by decide) ?_
    rw [← hQ]; exact fm_reti Z hr hlk F d_X11_firm_17 (Prod.mk.inj (Option.some.inj hf)).1 (Prod.mk.inj (Option.some.inj hf)).2
  · have hf := fm_ig c5 hf
    refine lv_iload_n hx hb d_X11_firm_8 rfl (lv_at hl 2 rfl) ?_
    refine lv_iconst (v := 1) hx hb d_X11_firm_9 (by decide) ?_
    refine fm_rcr G F hf (fun r ho => fm_runS (k := 2) Z G F N (As := [.int a2, .int 1]) (rest := []) (c_X11_isWithin hE ho _) kw_182 kw_183 kw_1 kw_184 yd_X11_isWithin rfl (by decide) (by decide) hl.1 (Nat.le_of_ble_eq_true rfl) d_X11_firm_10 (Nat.le_refl 0) (Nat.le_refl 0)) (fun x10 H locs _ F hf => ?_)
    refine lv_if_ne (tgt := 18) hx hb d_X11_firm_13 (by decide) (fun c13 => ?_) (fun c13 => ?_)
    · have hf := fm_ig c13 hf
      refine lv_iconst (v := 0) hx hb d_X11_firm_18 (by decide) ?_
      refine lv_topi (fun x19 ex19 => ?_)
      have hf := fm_let_at ex19 hf
      refine lv_istore_n (lv' := [(3, .int x19), (0, .ref (ad r0)), (1, .int a1), (2, .int a2)]) hx hb d_X11_firm_19 rfl hl (by decide) rfl (fun ls hl => ?_)
      refine lv_bipush (v := (-5)) hx hb d_X11_firm_20 (by decide) ?_
      refine lv_topi (fun x22 ex22 => ?_)
      have hf := fm_let_at ex22 hf
      refine lv_istore (lv' := [(4, .int x22), (3, .int x19), (0, .ref (ad r0)), (1, .int a1), (2, .int a2)]) hx hb d_X11_firm_22 hl (by decide) rfl (fun ls hl => ?_)
      refine lv_bipush (v := 9) hx hb d_X11_firm_24 (by decide) ?_
      refine lv_topi (fun x26 ex26 => ?_)
      have hf := fm_let_at ex26 hf
      refine lv_istore (lv' := [(5, .int x26), (4, .int x22), (3, .int x19), (0, .ref (ad r0)), (1, .int a1), (2, .int a2)]) hx hb d_X11_firm_26 hl (by decide) rfl (fun ls hl => ?_)
      exact (hL fm_LF) r0 a1 a2 x19 x22 x26 S _ _ _ F (lv_sub hl [3, 4, 5, 2, 1, 0] rfl) hf
    · have hf := fm_ip c13 hf
      refine lv_iconst (v := (-1)) hx hb d_X11_firm_16 (by decide) ?_
      rw [← hQ]; exact fm_reti Z hr hlk F d_X11_firm_17 (Prod.mk.inj (Option.some.inj hf)).1 (Prod.mk.inj (Option.some.inj hf)).2
theorem d_X11_odds_0 : decode prog_1_method_23_code 0 = .ok (.aload_n 0, 1) := by decide +kernel
theorem d_X11_odds_1 : decode prog_1_method_23_code 1 = .ok (.iload_n 1, 1) := by decide +kernel
theorem d_X11_odds_2 : decode prog_1_method_23_code 2 = .ok (.invokevirtual 115, 3) := by decide +kernel
theorem d_X11_odds_5 : decode prog_1_method_23_code 5 = .ok (.ifCond .eq 31, 3) := by decide +kernel
theorem d_X11_odds_8 : decode prog_1_method_23_code 8 = .ok (.iload_n 2, 1) := by decide +kernel
theorem d_X11_odds_9 : decode prog_1_method_23_code 9 = .ok (.bipush 60, 2) := by decide +kernel
theorem d_X11_odds_11 : decode prog_1_method_23_code 11 = .ok (.invokestatic 85, 3) := by decide +kernel
theorem d_X11_odds_14 : decode prog_1_method_23_code 14 = .ok (.ifCond .eq 22, 3) := by decide +kernel
theorem d_X11_odds_17 : decode prog_1_method_23_code 17 = .ok (.iload_n 3, 1) := by decide +kernel
theorem d_X11_odds_18 : decode prog_1_method_23_code 18 = .ok (.sipush 999, 3) := by decide +kernel
theorem d_X11_odds_21 : decode prog_1_method_23_code 21 = .ok (.invokestatic 85, 3) := by decide +kernel
theorem d_X11_odds_24 : decode prog_1_method_23_code 24 = .ok (.ifCond .eq 12, 3) := by decide +kernel
theorem d_X11_odds_27 : decode prog_1_method_23_code 27 = .ok (.iload 4, 2) := by decide +kernel
theorem d_X11_odds_29 : decode prog_1_method_23_code 29 = .ok (.iconst 1, 1) := by decide +kernel
theorem d_X11_odds_30 : decode prog_1_method_23_code 30 = .ok (.invokestatic 85, 3) := by decide +kernel
theorem d_X11_odds_33 : decode prog_1_method_23_code 33 = .ok (.ifCond .ne 7, 3) := by decide +kernel
theorem d_X11_odds_36 : decode prog_1_method_23_code 36 = .ok (.ldc2_w 205, 3) := by decide +kernel
theorem d_X11_odds_39 : decode prog_1_method_23_code 39 = .ok (.lreturn, 1) := by decide +kernel
theorem d_X11_odds_40 : decode prog_1_method_23_code 40 = .ok (.iconst 0, 1) := by decide +kernel
theorem d_X11_odds_41 : decode prog_1_method_23_code 41 = .ok (.istore 5, 2) := by decide +kernel
theorem d_X11_odds_43 : decode prog_1_method_23_code 43 = .ok (.iconst 0, 1) := by decide +kernel
theorem d_X11_odds_44 : decode prog_1_method_23_code 44 = .ok (.istore 6, 2) := by decide +kernel
theorem d_X11_odds_46 : decode prog_1_method_23_code 46 = .ok (.iload 6, 2) := by decide +kernel
theorem d_X11_odds_48 : decode prog_1_method_23_code 48 = .ok (.bipush 20, 2) := by decide +kernel
theorem d_X11_odds_50 : decode prog_1_method_23_code 50 = .ok (.if_icmp .gt 36, 3) := by decide +kernel
theorem d_X11_odds_53 : decode prog_1_method_23_code 53 = .ok (.aload_n 0, 1) := by decide +kernel
theorem d_X11_odds_54 : decode prog_1_method_23_code 54 = .ok (.iload_n 1, 1) := by decide +kernel
theorem d_X11_odds_55 : decode prog_1_method_23_code 55 = .ok (.iload 6, 2) := by decide +kernel
theorem d_X11_odds_57 : decode prog_1_method_23_code 57 = .ok (.invokevirtual 144, 3) := by decide +kernel
theorem d_X11_odds_60 : decode prog_1_method_23_code 60 = .ok (.astore 7, 2) := by decide +kernel
theorem d_X11_odds_62 : decode prog_1_method_23_code 62 = .ok (.aload 7, 2) := by decide +kernel
theorem d_X11_odds_64 : decode prog_1_method_23_code 64 = .ok (.iload_n 2, 1) := by decide +kernel
theorem d_X11_odds_65 : decode prog_1_method_23_code 65 = .ok (.invokevirtual 185, 3) := by decide +kernel
theorem d_X11_odds_68 : decode prog_1_method_23_code 68 = .ok (.aload 7, 2) := by decide +kernel
theorem d_X11_odds_70 : decode prog_1_method_23_code 70 = .ok (.invokevirtual 178, 3) := by decide +kernel
theorem d_X11_odds_73 : decode prog_1_method_23_code 73 = .ok (.iload_n 3, 1) := by decide +kernel
theorem d_X11_odds_74 : decode prog_1_method_23_code 74 = .ok (.if_icmp .lt 6, 3) := by decide +kernel
theorem d_X11_odds_77 : decode prog_1_method_23_code 77 = .ok (.iinc 5 1, 3) := by decide +kernel
theorem d_X11_odds_80 : decode prog_1_method_23_code 80 = .ok (.iinc 6 1, 3) := by decide +kernel
theorem d_X11_odds_83 : decode prog_1_method_23_code 83 = .ok (.goto (-37), 3) := by decide +kernel
theorem d_X11_odds_86 : decode prog_1_method_23_code 86 = .ok (.iload 5, 2) := by decide +kernel
theorem d_X11_odds_88 : decode prog_1_method_23_code 88 = .ok (.bipush 21, 2) := by decide +kernel
theorem d_X11_odds_90 : decode prog_1_method_23_code 90 = .ok (.iload 4, 2) := by decide +kernel
theorem d_X11_odds_92 : decode prog_1_method_23_code 92 = .ok (.invokestatic 207, 3) := by decide +kernel
theorem d_X11_odds_95 : decode prog_1_method_23_code 95 = .ok (.lreturn, 1) := by decide +kernel
def k_X11_odds_46 (kap lam : Nat → Nat) (go46 : Nat → Int32 → Int32 → Int32 → Int32 → Int32 → Int32 → fm_M → Option (Int64 × fm_M)) (r0 : Nat) (a1 : Int32) (a2 : Int32) (a3 : Int32) (a4 : Int32) (a5 : Int32) (a6 : Int32)  (S : fm_M) : Option (Int64 × fm_M) :=
  if 20 < a6 then (
   fm_b1 (m_X11_partOf kap lam a5 21 a4 S) fun l92 =>
   some (l92, S)
  ) else (
   fm_ck (kap r0 == 11) <|
   fm_bi (m_X11_courseFromNow kap lam r0 a1 a6 S) fun q57 S57 =>
   fm_ck (kap q57 == 1) <|
   fm_b1 (m_X1_goHours kap lam q57 a2 S57) fun S65 =>
   fm_ck (kap q57 == 1) <|
   fm_b1 (m_X1_offer kap lam q57 S65) fun x70 =>
   if x70 < a3 then (
    fm_let (a6 + 1 : Int32) fun x80 =>
    go46 r0 a1 a2 a3 a4 a5 x80 S65
   ) else (
    fm_let (a5 + 1 : Int32) fun x77 =>
    fm_let (a6 + 1 : Int32) fun x80 =>
    go46 r0 a1 a2 a3 a4 x77 x80 S65
   )
  )
def b_X11_odds_46 (kap lam : Nat → Nat) : Nat → Nat → Int32 → Int32 → Int32 → Int32 → Int32 → Int32 → fm_M → Option (Int64 × fm_M)
  | 0 => fun _ _ _ _ _ _ _ _ => none
  | n + 1 => k_X11_odds_46 kap lam (b_X11_odds_46 kap lam n)
def m_X11_odds (kap lam : Nat → Nat) (r0 : Nat) (a1 : Int32) (a2 : Int32) (a3 : Int32) (a4 : Int32) (S : fm_M) : Option (Int64 × fm_M) :=
  fm_ck (kap r0 == 11) <|
  fm_b1 (m_X11_isPane kap lam r0 a1 S) fun x2 =>
  if x2 = 0 then (
   some ((-9223372036854775808), S)
  ) else (
   fm_b1 (m_X11_isWithin kap lam a2 60 S) fun x11 =>
   if x11 = 0 then (
    some ((-9223372036854775808), S)
   ) else (
    fm_b1 (m_X11_isWithin kap lam a3 999 S) fun x21 =>
    if x21 = 0 then (
     some ((-9223372036854775808), S)
    ) else (
     fm_b1 (m_X11_isWithin kap lam a4 1 S) fun x30 =>
     if x30 = 0 then (
      some ((-9223372036854775808), S)
     ) else (
      fm_let (0 : Int32) fun x41 =>
      fm_let (0 : Int32) fun x44 =>
      b_X11_odds_46 kap lam fm_LF r0 a1 a2 a3 a4 x41 x44 S
     )
    )
   )
  )
set_option maxHeartbeats 4000000 in
set_option maxRecDepth 100000 in
theorem c_X11_odds {l : Launch} {D : va_G} {ids kap lam : Nat → Nat} {RL : List Nat} {ad sk sv : Nat → Nat} {S : fm_M} {r0 : Nat} {a1 : Int32} {a2 : Int32} {a3 : Int32} {a4 : Int32} {r : Int64} {u : fm_M} (hE : fm_E kap RL ad) (hf : m_X11_odds kap lam r0 a1 a2 a3 a4 S = some (r, u)) (sz : Nat) : fm_ML l y_X11_odds prog_1_method_23_code 8 (Option.some Jvm.ClassFile.FieldType.long) 6 D ids kap lam RL ad sk sv S [.ref (ad r0), .int a1, .int a2, .int a3, .int a4] sz r u := by
  refine fm_open rfl hE (Nat.le_of_ble_eq_true rfl) (fun p e s m args below meth c ls Z hr hlk G F N hl hsz => ?_)
  subst hsz
  obtain ⟨hx, hb, hml, hown, hts⟩ := id Z
  have hl : lv_has ls 8 [(0, .ref (ad r0)), (1, .int a1), (2, .int a2), (3, .int a3), (4, .int a4)] := hl
  generalize hQ : MQ below _ args s 0 0 (fm_A RL ad s.heap.size) = Qf
  have hL : ∀ n : Nat, (∀ (r0 : Nat) (a1 : Int32) (a2 : Int32) (a3 : Int32) (a4 : Int32) (a5 : Int32) (a6 : Int32)  (S : fm_M) (H : Heap) (locs : List Loc) (ls : Array Slot), fm_F D ids kap lam RL ad S (fm_A RL ad s.heap.size) s.heap H locs → lv_has ls 8 [(0, .ref (ad r0)), (1, .int a1), (2, .int a2), (3, .int a3), (4, .int a4), (5, .int a5), (6, .int a6)] → b_X11_odds_46 kap lam n r0 a1 a2 a3 a4 a5 a6 S = some (r, u) → W p l e (fm_rm 6) s m args below meth c H locs 0 0 Qf (F0 m 46 ls [])) := by
    intro n
    induction n with
    | zero => exact fun _ _ _ _ _ _ _ _ _ _ _ _ _ hf => absurd hf (by intro h; cases h)
    | succ n ih =>
      intro r0 a1 a2 a3 a4 a5 a6 S H locs ls F hl hf
      have hf : k_X11_odds_46 kap lam (b_X11_odds_46 kap lam n) r0 a1 a2 a3 a4 a5 a6 S = some (r, u) := hf
      unfold k_X11_odds_46 at hf
      refine lv_iload hx hb d_X11_odds_46 (lv_at hl 6 rfl) ?_
      refine lv_bipush (v := 20) hx hb d_X11_odds_48 (by decide) ?_
      refine lv_icmp_gt (tgt := 86) hx hb d_X11_odds_50 (by decide) (fun c50 => ?_) (fun c50 => ?_)
      · have hf := fm_ip c50 hf
        refine lv_iload hx hb d_X11_odds_86 (lv_at hl 5 rfl) ?_
        refine lv_bipush (v := 21) hx hb d_X11_odds_88 (by decide) ?_
        refine lv_iload hx hb d_X11_odds_90 (lv_at hl 4 rfl) ?_
        refine fm_rcl G F hf (fun r ho => fm_runS (k := 3) Z G F N (As := [.int a5, .int 21, .int a4]) (rest := []) (c_X11_partOf hE ho _) kw_760 kw_761 kw_1 kw_762 yd_X11_partOf rfl (by decide) (by decide) hl.1 (Nat.le_of_ble_eq_true rfl) d_X11_odds_92 (Nat.le_refl 0) (Nat.le_refl 0)) (fun l92 H locs _ F hf => ?_)
        rw [← hQ]; exact fm_retl Z hr hlk F d_X11_odds_95 (Prod.mk.inj (Option.some.inj hf)).1 (Prod.mk.inj (Option.some.inj hf)).2
      · have hf := fm_ig c50 hf
        refine lv_aload_n hx hb d_X11_odds_53 rfl (lv_at hl 0 rfl) ?_
        refine lv_iload_n hx hb d_X11_odds_54 rfl (lv_at hl 1 rfl) ?_
        refine lv_iload hx hb d_X11_odds_55 (lv_at hl 6 rfl) ?_
        obtain ⟨hk57, hf⟩ := fm_some hf
        refine fm_rcqq G F hf (fun r u ho => fm_runV (k := 2) Z G F N (As := [.int a1, .int a6]) (rest := []) (c_X11_courseFromNow hE ho _) (by rw [eq_of_beq hk57]; decide) (by rw [eq_of_beq hk57]; rfl) kw_564 kw_566 kp_11 kw_1 kw_567 yd_X11_courseFromNow rfl (by decide) (by decide) hl.1 (Nat.le_of_ble_eq_true rfl) d_X11_odds_57 (Nat.le_refl 0) (Nat.le_refl 0)) (fun q57 S57 H locs _ F hf => ?_)
        refine lv_astore (lv' := [(7, .ref (ad q57)), (0, .ref (ad r0)), (1, .int a1), (2, .int a2), (3, .int a3), (4, .int a4), (5, .int a5), (6, .int a6)]) hx hb d_X11_odds_60 hl (by decide) rfl (fun ls hl => ?_)
        refine lv_aload hx hb d_X11_odds_62 (lv_at hl 0 rfl) ?_
        refine lv_iload_n hx hb d_X11_odds_64 rfl (lv_at hl 3 rfl) ?_
        obtain ⟨hk65, hf⟩ := fm_some hf
        refine fm_rcv G F hf (fun u ho => fm_runV (k := 1) Z G F N (As := [.int a2]) (rest := []) (c_X1_goHours hE ho _) (by rw [eq_of_beq hk65]; decide) (by rw [eq_of_beq hk65]; rfl) kw_662 kw_663 kw_664 kw_18 kw_665 yd_X1_goHours rfl (by decide) (by decide) hl.1 (Nat.le_of_ble_eq_true rfl) d_X11_odds_65 (Nat.le_refl 0) (Nat.le_refl 0)) (fun S65 H locs _ F hf => ?_)
        refine lv_aload hx hb d_X11_odds_68 (lv_at hl 0 rfl) ?_
        obtain ⟨hk70, hf⟩ := fm_some hf
        refine fm_rcr G F hf (fun r ho => fm_runV (k := 0) Z G F N (As := []) (rest := []) (c_X1_offer hE ho _) (by rw [eq_of_beq hk70]; decide) (by rw [eq_of_beq hk70]; rfl) kw_671 kw_672 kw_673 kw_18 kw_674 yd_X1_offer rfl (by decide) (by decide) hl.1 (Nat.le_of_ble_eq_true rfl) d_X11_odds_70 (Nat.le_refl 0) (Nat.le_refl 0)) (fun x70 H locs _ F hf => ?_)
        refine lv_iload_n hx hb d_X11_odds_73 rfl (lv_at hl 4 rfl) ?_
        refine lv_icmp_lt (tgt := 80) hx hb d_X11_odds_74 (by decide) (fun c74 => ?_) (fun c74 => ?_)
        · have hf := fm_ip c74 hf
          obtain ⟨x80, ex80⟩ : ∃ y : Int32, y = a6 + 1 := ⟨_, rfl⟩
          have hf := fm_let_at ex80 hf
          refine lv_iinc (v := x80) (lv' := [(6, .int x80), (7, .ref (ad q57)), (0, .ref (ad r0)), (1, .int a1), (2, .int a2), (3, .int a3), (4, .int a4), (5, .int a5)]) hx hb d_X11_odds_80 hl (k := 7) rfl (by rw [ex80]; rfl) (by decide) rfl (fun ls hl => ?_)
          refine lv_goto (tgt := 46) hx hb d_X11_odds_83 (by decide) ?_
          exact ih r0 a1 a2 a3 a4 a5 x80 S65 _ _ _ F (lv_sub hl [2, 3, 4, 5, 6, 7, 0] rfl) hf
        · have hf := fm_ig c74 hf
          obtain ⟨x77, ex77⟩ : ∃ y : Int32, y = a5 + 1 := ⟨_, rfl⟩
          have hf := fm_let_at ex77 hf
          refine lv_iinc (v := x77) (lv' := [(5, .int x77), (7, .ref (ad q57)), (0, .ref (ad r0)), (1, .int a1), (2, .int a2), (3, .int a3), (4, .int a4), (6, .int a6)]) hx hb d_X11_odds_77 hl (k := 6) rfl (by rw [ex77]; rfl) (by decide) rfl (fun ls hl => ?_)
          obtain ⟨x80, ex80⟩ : ∃ y : Int32, y = a6 + 1 := ⟨_, rfl⟩
          have hf := fm_let_at ex80 hf
          refine lv_iinc (v := x80) (lv' := [(6, .int x80), (5, .int x77), (7, .ref (ad q57)), (0, .ref (ad r0)), (1, .int a1), (2, .int a2), (3, .int a3), (4, .int a4)]) hx hb d_X11_odds_80 hl (k := 7) rfl (by rw [ex80]; rfl) (by decide) rfl (fun ls hl => ?_)
          refine lv_goto (tgt := 46) hx hb d_X11_odds_83 (by decide) ?_
          exact ih r0 a1 a2 a3 a4 x77 x80 S65 _ _ _ F (lv_sub hl [3, 4, 5, 6, 7, 1, 0] rfl) hf
  unfold m_X11_odds at hf
  refine lv_aload_n hx hb d_X11_odds_0 rfl (lv_at hl 0 rfl) ?_
  refine lv_iload_n hx hb d_X11_odds_1 rfl (lv_at hl 1 rfl) ?_
  obtain ⟨hk2, hf⟩ := fm_some hf
  refine fm_rcr G F hf (fun r ho => fm_runV (k := 1) Z G F N (As := [.int a1]) (rest := []) (c_X11_isPane hE ho _) (by rw [eq_of_beq hk2]; decide) (by rw [eq_of_beq hk2]; rfl) kw_546 kw_548 kp_9 kw_1 kw_549 yd_X11_isPane rfl (by decide) (by decide) hl.1 (Nat.le_of_ble_eq_true rfl) d_X11_odds_2 (Nat.le_refl 0) (Nat.le_refl 0)) (fun x2 H locs _ F hf => ?_)
  refine lv_if_eq (tgt := 36) hx hb d_X11_odds_5 (by decide) (fun c5 => ?_) (fun c5 => ?_)
  · have hf := fm_ip c5 hf
    refine lv_ldc2 (v := (-9223372036854775808)) hx hb hown (hts _ (fm_in kw_759 rfl)) d_X11_odds_36 ?_
    rw [← hQ]; exact fm_retl Z hr hlk F d_X11_odds_39 (Prod.mk.inj (Option.some.inj hf)).1 (Prod.mk.inj (Option.some.inj hf)).2
  · have hf := fm_ig c5 hf
    refine lv_iload_n hx hb d_X11_odds_8 rfl (lv_at hl 2 rfl) ?_
    refine lv_bipush (v := 60) hx hb d_X11_odds_9 (by decide) ?_
    refine fm_rcr G F hf (fun r ho => fm_runS (k := 2) Z G F N (As := [.int a2, .int 60]) (rest := []) (c_X11_isWithin hE ho _) kw_182 kw_183 kw_1 kw_184 yd_X11_isWithin rfl (by decide) (by decide) hl.1 (Nat.le_of_ble_eq_true rfl) d_X11_odds_11 (Nat.le_refl 0) (Nat.le_refl 0)) (fun x11 H locs _ F hf => ?_)
    refine lv_if_eq (tgt := 36) hx hb d_X11_odds_14 (by decide) (fun c14 => ?_) (fun c14 => ?_)
    · have hf := fm_ip c14 hf
      refine lv_ldc2 (v := (-9223372036854775808)) hx hb hown (hts _ (fm_in kw_759 rfl)) d_X11_odds_36 ?_
      rw [← hQ]; exact fm_retl Z hr hlk F d_X11_odds_39 (Prod.mk.inj (Option.some.inj hf)).1 (Prod.mk.inj (Option.some.inj hf)).2
    · have hf := fm_ig c14 hf
      refine lv_iload_n hx hb d_X11_odds_17 rfl (lv_at hl 3 rfl) ?_
      refine lv_sipush (v := 999) hx hb d_X11_odds_18 (by decide) ?_
      refine fm_rcr G F hf (fun r ho => fm_runS (k := 2) Z G F N (As := [.int a3, .int 999]) (rest := []) (c_X11_isWithin hE ho _) kw_182 kw_183 kw_1 kw_184 yd_X11_isWithin rfl (by decide) (by decide) hl.1 (Nat.le_of_ble_eq_true rfl) d_X11_odds_21 (Nat.le_refl 0) (Nat.le_refl 0)) (fun x21 H locs _ F hf => ?_)
      refine lv_if_eq (tgt := 36) hx hb d_X11_odds_24 (by decide) (fun c24 => ?_) (fun c24 => ?_)
      · have hf := fm_ip c24 hf
        refine lv_ldc2 (v := (-9223372036854775808)) hx hb hown (hts _ (fm_in kw_759 rfl)) d_X11_odds_36 ?_
        rw [← hQ]; exact fm_retl Z hr hlk F d_X11_odds_39 (Prod.mk.inj (Option.some.inj hf)).1 (Prod.mk.inj (Option.some.inj hf)).2
      · have hf := fm_ig c24 hf
        refine lv_iload hx hb d_X11_odds_27 (lv_at hl 4 rfl) ?_
        refine lv_iconst (v := 1) hx hb d_X11_odds_29 (by decide) ?_
        refine fm_rcr G F hf (fun r ho => fm_runS (k := 2) Z G F N (As := [.int a4, .int 1]) (rest := []) (c_X11_isWithin hE ho _) kw_182 kw_183 kw_1 kw_184 yd_X11_isWithin rfl (by decide) (by decide) hl.1 (Nat.le_of_ble_eq_true rfl) d_X11_odds_30 (Nat.le_refl 0) (Nat.le_refl 0)) (fun x30 H locs _ F hf => ?_)
        refine lv_if_ne (tgt := 40) hx hb d_X11_odds_33 (by decide) (fun c33 => ?_) (fun c33 => ?_)
        · have hf := fm_ig c33 hf
          refine lv_iconst (v := 0) hx hb d_X11_odds_40 (by decide) ?_
          refine lv_topi (fun x41 ex41 => ?_)
          have hf := fm_let_at ex41 hf
          refine lv_istore (lv' := [(5, .int x41), (0, .ref (ad r0)), (1, .int a1), (2, .int a2), (3, .int a3), (4, .int a4)]) hx hb d_X11_odds_41 hl (by decide) rfl (fun ls hl => ?_)
          refine lv_iconst (v := 0) hx hb d_X11_odds_43 (by decide) ?_
          refine lv_topi (fun x44 ex44 => ?_)
          have hf := fm_let_at ex44 hf
          refine lv_istore (lv' := [(6, .int x44), (5, .int x41), (0, .ref (ad r0)), (1, .int a1), (2, .int a2), (3, .int a3), (4, .int a4)]) hx hb d_X11_odds_44 hl (by decide) rfl (fun ls hl => ?_)
          exact (hL fm_LF) r0 a1 a2 a3 a4 x41 x44 S _ _ _ F (lv_sub hl [2, 3, 4, 5, 6, 1, 0] rfl) hf
        · have hf := fm_ip c33 hf
          refine lv_ldc2 (v := (-9223372036854775808)) hx hb hown (hts _ (fm_in kw_759 rfl)) d_X11_odds_36 ?_
          rw [← hQ]; exact fm_retl Z hr hlk F d_X11_odds_39 (Prod.mk.inj (Option.some.inj hf)).1 (Prod.mk.inj (Option.some.inj hf)).2
theorem d_X11_mean_0 : decode prog_1_method_24_code 0 = .ok (.iload_n 1, 1) := by decide +kernel
theorem d_X11_mean_1 : decode prog_1_method_24_code 1 = .ok (.iconst 1, 1) := by decide +kernel
theorem d_X11_mean_2 : decode prog_1_method_24_code 2 = .ok (.invokestatic 85, 3) := by decide +kernel
theorem d_X11_mean_5 : decode prog_1_method_24_code 5 = .ok (.ifCond .eq 10, 3) := by decide +kernel
theorem d_X11_mean_8 : decode prog_1_method_24_code 8 = .ok (.aload_n 0, 1) := by decide +kernel
theorem d_X11_mean_9 : decode prog_1_method_24_code 9 = .ok (.getfield 23, 3) := by decide +kernel
theorem d_X11_mean_12 : decode prog_1_method_24_code 12 = .ok (.ifCond .ne 7, 3) := by decide +kernel
theorem d_X11_mean_15 : decode prog_1_method_24_code 15 = .ok (.ldc2_w 205, 3) := by decide +kernel
theorem d_X11_mean_18 : decode prog_1_method_24_code 18 = .ok (.lreturn, 1) := by decide +kernel
theorem d_X11_mean_19 : decode prog_1_method_24_code 19 = .ok (.aload_n 0, 1) := by decide +kernel
theorem d_X11_mean_20 : decode prog_1_method_24_code 20 = .ok (.iconst 0, 1) := by decide +kernel
theorem d_X11_mean_21 : decode prog_1_method_24_code 21 = .ok (.invokevirtual 169, 3) := by decide +kernel
theorem d_X11_mean_24 : decode prog_1_method_24_code 24 = .ok (.aload_n 0, 1) := by decide +kernel
theorem d_X11_mean_25 : decode prog_1_method_24_code 25 = .ok (.getfield 23, 3) := by decide +kernel
theorem d_X11_mean_28 : decode prog_1_method_24_code 28 = .ok (.iload_n 1, 1) := by decide +kernel
theorem d_X11_mean_29 : decode prog_1_method_24_code 29 = .ok (.invokestatic 207, 3) := by decide +kernel
theorem d_X11_mean_32 : decode prog_1_method_24_code 32 = .ok (.lreturn, 1) := by decide +kernel
def m_X11_mean (kap lam : Nat → Nat) (r0 : Nat) (a1 : Int32) (S : fm_M) : Option (Int64 × fm_M) :=
  fm_b1 (m_X11_isWithin kap lam a1 1 S) fun x2 =>
  if x2 = 0 then (
   some ((-9223372036854775808), S)
  ) else (
   fm_gi kap 11 r0 2 S fun x9 =>
   if x9 = 0 then (
    some ((-9223372036854775808), S)
   ) else (
    fm_ck (kap r0 == 11) <|
    fm_bi (m_X11_offersBehind kap lam r0 0 S) fun x21 S21 =>
    fm_gi kap 11 r0 2 S21 fun x25 =>
    fm_b1 (m_X11_partOf kap lam x21 x25 a1 S21) fun l29 =>
    some (l29, S21)
   )
  )
set_option maxHeartbeats 4000000 in
set_option maxRecDepth 100000 in
theorem c_X11_mean {l : Launch} {D : va_G} {ids kap lam : Nat → Nat} {RL : List Nat} {ad sk sv : Nat → Nat} {S : fm_M} {r0 : Nat} {a1 : Int32} {r : Int64} {u : fm_M} (hE : fm_E kap RL ad) (hf : m_X11_mean kap lam r0 a1 S = some (r, u)) (sz : Nat) : fm_ML l y_X11_mean prog_1_method_24_code 2 (Option.some Jvm.ClassFile.FieldType.long) 7 D ids kap lam RL ad sk sv S [.ref (ad r0), .int a1] sz r u := by
  refine fm_open rfl hE (Nat.le_of_ble_eq_true rfl) (fun p e s m args below meth c ls Z hr hlk G F N hl hsz => ?_)
  subst hsz
  obtain ⟨hx, hb, hml, hown, hts⟩ := id Z
  have hl : lv_has ls 2 [(0, .ref (ad r0)), (1, .int a1)] := hl
  unfold m_X11_mean at hf
  refine lv_iload_n hx hb d_X11_mean_0 rfl (lv_at hl 1 rfl) ?_
  refine lv_iconst (v := 1) hx hb d_X11_mean_1 (by decide) ?_
  refine fm_rcr G F hf (fun r ho => fm_runS (k := 2) Z G F N (As := [.int a1, .int 1]) (rest := []) (c_X11_isWithin hE ho _) kw_182 kw_183 kw_1 kw_184 yd_X11_isWithin rfl (by decide) (by decide) hl.1 (Nat.le_of_ble_eq_true rfl) d_X11_mean_2 (Nat.le_refl 0) (Nat.le_refl 0)) (fun x2 H locs _ F hf => ?_)
  refine lv_if_eq (tgt := 15) hx hb d_X11_mean_5 (by decide) (fun c5 => ?_) (fun c5 => ?_)
  · have hf := fm_ip c5 hf
    refine lv_ldc2 (v := (-9223372036854775808)) hx hb hown (hts _ (fm_in kw_759 rfl)) d_X11_mean_15 ?_
    exact fm_retl Z hr hlk F d_X11_mean_18 (Prod.mk.inj (Option.some.inj hf)).1 (Prod.mk.inj (Option.some.inj hf)).2
  · have hf := fm_ig c5 hf
    refine lv_aload_n hx hb d_X11_mean_8 rfl (lv_at hl 0 rfl) ?_
    refine fm_rgi Z G F hf fr_X11_23 d_X11_mean_9 (fun x9 _ hf => ?_)
    refine lv_if_ne (tgt := 19) hx hb d_X11_mean_12 (by decide) (fun c12 => ?_) (fun c12 => ?_)
    · have hf := fm_ig c12 hf
      refine lv_aload_n hx hb d_X11_mean_19 rfl (lv_at hl 0 rfl) ?_
      refine lv_iconst (v := 0) hx hb d_X11_mean_20 (by decide) ?_
      obtain ⟨hk21, hf⟩ := fm_some hf
      refine fm_rci G F hf (fun r u ho => fm_runV (k := 1) Z G F N (As := [.int 0]) (rest := []) (c_X11_offersBehind hE ho _) (by rw [eq_of_beq hk21]; decide) (by rw [eq_of_beq hk21]; rfl) kw_658 kw_660 kp_16 kw_1 kw_661 yd_X11_offersBehind rfl (by decide) (by decide) hl.1 (Nat.le_of_ble_eq_true rfl) d_X11_mean_21 (Nat.le_refl 0) (Nat.le_refl 0)) (fun x21 S21 H locs _ F hf => ?_)
      refine lv_aload_n hx hb d_X11_mean_24 rfl (lv_at hl 0 rfl) ?_
      refine fm_rgi Z G F hf fr_X11_23 d_X11_mean_25 (fun x25 _ hf => ?_)
      refine lv_iload_n hx hb d_X11_mean_28 rfl (lv_at hl 1 rfl) ?_
      refine fm_rcl G F hf (fun r ho => fm_runS (k := 3) Z G F N (As := [.int x21, .int x25, .int a1]) (rest := []) (c_X11_partOf hE ho _) kw_760 kw_761 kw_1 kw_762 yd_X11_partOf rfl (by decide) (by decide) hl.1 (Nat.le_of_ble_eq_true rfl) d_X11_mean_29 (Nat.le_refl 0) (Nat.le_refl 0)) (fun l29 H locs _ F hf => ?_)
      exact fm_retl Z hr hlk F d_X11_mean_32 (Prod.mk.inj (Option.some.inj hf)).1 (Prod.mk.inj (Option.some.inj hf)).2
    · have hf := fm_ip c12 hf
      refine lv_ldc2 (v := (-9223372036854775808)) hx hb hown (hts _ (fm_in kw_759 rfl)) d_X11_mean_15 ?_
      exact fm_retl Z hr hlk F d_X11_mean_18 (Prod.mk.inj (Option.some.inj hf)).1 (Prod.mk.inj (Option.some.inj hf)).2
theorem d_X11_plan_0 : decode prog_1_method_25_code 0 = .ok (.iload_n 1, 1) := by decide +kernel
theorem d_X11_plan_1 : decode prog_1_method_25_code 1 = .ok (.iconst (-1), 1) := by decide +kernel
theorem d_X11_plan_2 : decode prog_1_method_25_code 2 = .ok (.if_icmp .ne 11, 3) := by decide +kernel
theorem d_X11_plan_5 : decode prog_1_method_25_code 5 = .ok (.aload_n 0, 1) := by decide +kernel
theorem d_X11_plan_6 : decode prog_1_method_25_code 6 = .ok (.getfield 69, 3) := by decide +kernel
theorem d_X11_plan_9 : decode prog_1_method_25_code 9 = .ok (.invokevirtual 105, 3) := by decide +kernel
theorem d_X11_plan_12 : decode prog_1_method_25_code 12 = .ok (.ireturn, 1) := by decide +kernel
theorem d_X11_plan_13 : decode prog_1_method_25_code 13 = .ok (.iload_n 1, 1) := by decide +kernel
theorem d_X11_plan_14 : decode prog_1_method_25_code 14 = .ok (.iconst 3, 1) := by decide +kernel
theorem d_X11_plan_15 : decode prog_1_method_25_code 15 = .ok (.invokestatic 85, 3) := by decide +kernel
theorem d_X11_plan_18 : decode prog_1_method_25_code 18 = .ok (.ifCond .eq 15, 3) := by decide +kernel
theorem d_X11_plan_21 : decode prog_1_method_25_code 21 = .ok (.iload_n 1, 1) := by decide +kernel
theorem d_X11_plan_22 : decode prog_1_method_25_code 22 = .ok (.ifCond .eq 13, 3) := by decide +kernel
theorem d_X11_plan_25 : decode prog_1_method_25_code 25 = .ok (.aload_n 0, 1) := by decide +kernel
theorem d_X11_plan_26 : decode prog_1_method_25_code 26 = .ok (.iload_n 2, 1) := by decide +kernel
theorem d_X11_plan_27 : decode prog_1_method_25_code 27 = .ok (.invokevirtual 115, 3) := by decide +kernel
theorem d_X11_plan_30 : decode prog_1_method_25_code 30 = .ok (.ifCond .ne 5, 3) := by decide +kernel
theorem d_X11_plan_33 : decode prog_1_method_25_code 33 = .ok (.iconst (-1), 1) := by decide +kernel
theorem d_X11_plan_34 : decode prog_1_method_25_code 34 = .ok (.ireturn, 1) := by decide +kernel
theorem d_X11_plan_35 : decode prog_1_method_25_code 35 = .ok (.aload_n 0, 1) := by decide +kernel
theorem d_X11_plan_36 : decode prog_1_method_25_code 36 = .ok (.getfield 69, 3) := by decide +kernel
theorem d_X11_plan_39 : decode prog_1_method_25_code 39 = .ok (.invokevirtual 89, 3) := by decide +kernel
theorem d_X11_plan_42 : decode prog_1_method_25_code 42 = .ok (.ifCond .eq 8, 3) := by decide +kernel
theorem d_X11_plan_45 : decode prog_1_method_25_code 45 = .ok (.bipush (-4), 2) := by decide +kernel
theorem d_X11_plan_47 : decode prog_1_method_25_code 47 = .ok (.goto 13, 3) := by decide +kernel
theorem d_X11_plan_50 : decode prog_1_method_25_code 50 = .ok (.aload_n 0, 1) := by decide +kernel
theorem d_X11_plan_51 : decode prog_1_method_25_code 51 = .ok (.getfield 69, 3) := by decide +kernel
theorem d_X11_plan_54 : decode prog_1_method_25_code 54 = .ok (.iload_n 1, 1) := by decide +kernel
theorem d_X11_plan_55 : decode prog_1_method_25_code 55 = .ok (.iload_n 2, 1) := by decide +kernel
theorem d_X11_plan_56 : decode prog_1_method_25_code 56 = .ok (.iconst 0, 1) := by decide +kernel
theorem d_X11_plan_57 : decode prog_1_method_25_code 57 = .ok (.invokevirtual 93, 3) := by decide +kernel
theorem d_X11_plan_60 : decode prog_1_method_25_code 60 = .ok (.ireturn, 1) := by decide +kernel
def m_X11_plan (kap lam : Nat → Nat) (r0 : Nat) (a1 : Int32) (a2 : Int32) (S : fm_M) : Option (Int32 × fm_M) :=
  if a1 = (-1) then (
   fm_gr kap 11 r0 12 S fun q6 =>
   fm_ck (kap q6 == 8) <|
   fm_bi (m_X8_clear kap lam q6 S) fun x9 S9 =>
   some (x9, S9)
  ) else (
   fm_b1 (m_X11_isWithin kap lam a1 3 S) fun x15 =>
   if x15 = 0 then (
    some ((-1), S)
   ) else (
    if a1 = 0 then (
     fm_gr kap 11 r0 12 S fun q36 =>
     fm_ck (kap q36 == 8) <|
     fm_b1 (m_X8_isFull kap lam q36 S) fun x39 =>
     if x39 = 0 then (
      fm_gr kap 11 r0 12 S fun q51 =>
      fm_ck (kap q51 == 8) <|
      fm_bi (m_X8_add kap lam q51 a1 a2 0 S) fun x57 S57 =>
      some (x57, S57)
     ) else (
      some ((-4), S)
     )
    ) else (
     fm_ck (kap r0 == 11) <|
     fm_b1 (m_X11_isPane kap lam r0 a2 S) fun x27 =>
     if x27 = 0 then (
      some ((-1), S)
     ) else (
      fm_gr kap 11 r0 12 S fun q36 =>
      fm_ck (kap q36 == 8) <|
      fm_b1 (m_X8_isFull kap lam q36 S) fun x39 =>
      if x39 = 0 then (
       fm_gr kap 11 r0 12 S fun q51 =>
       fm_ck (kap q51 == 8) <|
       fm_bi (m_X8_add kap lam q51 a1 a2 0 S) fun x57 S57 =>
       some (x57, S57)
      ) else (
       some ((-4), S)
      )
     )
    )
   )
  )
set_option maxHeartbeats 4000000 in
set_option maxRecDepth 100000 in
theorem c_X11_plan {l : Launch} {D : va_G} {ids kap lam : Nat → Nat} {RL : List Nat} {ad sk sv : Nat → Nat} {S : fm_M} {r0 : Nat} {a1 : Int32} {a2 : Int32} {r : Int32} {u : fm_M} (hE : fm_E kap RL ad) (hf : m_X11_plan kap lam r0 a1 a2 S = some (r, u)) (sz : Nat) : fm_MI l y_X11_plan prog_1_method_25_code 3 (Option.some Jvm.ClassFile.FieldType.int) 2 D ids kap lam RL ad sk sv S [.ref (ad r0), .int a1, .int a2] sz r u := by
  refine fm_open rfl hE (Nat.le_of_ble_eq_true rfl) (fun p e s m args below meth c ls Z hr hlk G F N hl hsz => ?_)
  subst hsz
  obtain ⟨hx, hb, hml, hown, hts⟩ := id Z
  have hl : lv_has ls 3 [(0, .ref (ad r0)), (1, .int a1), (2, .int a2)] := hl
  unfold m_X11_plan at hf
  refine lv_iload_n hx hb d_X11_plan_0 rfl (lv_at hl 1 rfl) ?_
  refine lv_iconst (v := (-1)) hx hb d_X11_plan_1 (by decide) ?_
  refine lv_icmp_ne (tgt := 13) hx hb d_X11_plan_2 (by decide) (fun c2 => ?_) (fun c2 => ?_)
  · have hf := fm_ig c2 hf
    refine lv_iload_n hx hb d_X11_plan_13 rfl (lv_at hl 1 rfl) ?_
    refine lv_iconst (v := 3) hx hb d_X11_plan_14 (by decide) ?_
    refine fm_rcr G F hf (fun r ho => fm_runS (k := 2) Z G F N (As := [.int a1, .int 3]) (rest := []) (c_X11_isWithin hE ho _) kw_182 kw_183 kw_1 kw_184 yd_X11_isWithin rfl (by decide) (by decide) hl.1 (Nat.le_of_ble_eq_true rfl) d_X11_plan_15 (Nat.le_refl 0) (Nat.le_refl 0)) (fun x15 H locs _ F hf => ?_)
    refine lv_if_eq (tgt := 33) hx hb d_X11_plan_18 (by decide) (fun c18 => ?_) (fun c18 => ?_)
    · have hf := fm_ip c18 hf
      refine lv_iconst (v := (-1)) hx hb d_X11_plan_33 (by decide) ?_
      exact fm_reti Z hr hlk F d_X11_plan_34 (Prod.mk.inj (Option.some.inj hf)).1 (Prod.mk.inj (Option.some.inj hf)).2
    · have hf := fm_ig c18 hf
      refine lv_iload_n hx hb d_X11_plan_21 rfl (lv_at hl 1 rfl) ?_
      refine lv_if_eq (tgt := 35) hx hb d_X11_plan_22 (by decide) (fun c22 => ?_) (fun c22 => ?_)
      · have hf := fm_ip c22 hf
        refine lv_aload_n hx hb d_X11_plan_35 rfl (lv_at hl 0 rfl) ?_
        refine fm_rgr Z G F hf fr_X11_69 d_X11_plan_36 (fun q36 _ hf => ?_)
        obtain ⟨hk39, hf⟩ := fm_some hf
        refine fm_rcr G F hf (fun r ho => fm_runV (k := 0) Z G F N (As := []) (rest := []) (c_X8_isFull hE ho _) (by rw [eq_of_beq hk39]; decide) (by rw [eq_of_beq hk39]; rfl) kw_185 kw_186 kw_187 kw_3 kw_188 yd_X8_isFull rfl (by decide) (by decide) hl.1 (Nat.le_of_ble_eq_true rfl) d_X11_plan_39 (Nat.le_refl 0) (Nat.le_refl 0)) (fun x39 H locs _ F hf => ?_)
        refine lv_if_eq (tgt := 50) hx hb d_X11_plan_42 (by decide) (fun c42 => ?_) (fun c42 => ?_)
        · have hf := fm_ip c42 hf
          refine lv_aload_n hx hb d_X11_plan_50 rfl (lv_at hl 0 rfl) ?_
          refine fm_rgr Z G F hf fr_X11_69 d_X11_plan_51 (fun q51 _ hf => ?_)
          refine lv_iload_n hx hb d_X11_plan_54 rfl (lv_at hl 1 rfl) ?_
          refine lv_iload_n hx hb d_X11_plan_55 rfl (lv_at hl 2 rfl) ?_
          refine lv_iconst (v := 0) hx hb d_X11_plan_56 (by decide) ?_
          obtain ⟨hk57, hf⟩ := fm_some hf
          refine fm_rci G F hf (fun r u ho => fm_runV (k := 3) Z G F N (As := [.int a1, .int a2, .int 0]) (rest := []) (c_X8_add hE ho _) (by rw [eq_of_beq hk57]; decide) (by rw [eq_of_beq hk57]; rfl) kw_189 kw_190 kw_191 kw_3 kw_192 yd_X8_add rfl (by decide) (by decide) hl.1 (Nat.le_of_ble_eq_true rfl) d_X11_plan_57 (Nat.le_refl 0) (Nat.le_refl 0)) (fun x57 S57 H locs _ F hf => ?_)
          exact fm_reti Z hr hlk F d_X11_plan_60 (Prod.mk.inj (Option.some.inj hf)).1 (Prod.mk.inj (Option.some.inj hf)).2
        · have hf := fm_ig c42 hf
          refine lv_bipush (v := (-4)) hx hb d_X11_plan_45 (by decide) ?_
          refine lv_goto (tgt := 60) hx hb d_X11_plan_47 (by decide) ?_
          exact fm_reti Z hr hlk F d_X11_plan_60 (Prod.mk.inj (Option.some.inj hf)).1 (Prod.mk.inj (Option.some.inj hf)).2
      · have hf := fm_ig c22 hf
        refine lv_aload_n hx hb d_X11_plan_25 rfl (lv_at hl 0 rfl) ?_
        refine lv_iload_n hx hb d_X11_plan_26 rfl (lv_at hl 2 rfl) ?_
        obtain ⟨hk27, hf⟩ := fm_some hf
        refine fm_rcr G F hf (fun r ho => fm_runV (k := 1) Z G F N (As := [.int a2]) (rest := []) (c_X11_isPane hE ho _) (by rw [eq_of_beq hk27]; decide) (by rw [eq_of_beq hk27]; rfl) kw_546 kw_548 kp_9 kw_1 kw_549 yd_X11_isPane rfl (by decide) (by decide) hl.1 (Nat.le_of_ble_eq_true rfl) d_X11_plan_27 (Nat.le_refl 0) (Nat.le_refl 0)) (fun x27 H locs _ F hf => ?_)
        refine lv_if_ne (tgt := 35) hx hb d_X11_plan_30 (by decide) (fun c30 => ?_) (fun c30 => ?_)
        · have hf := fm_ig c30 hf
          refine lv_aload_n hx hb d_X11_plan_35 rfl (lv_at hl 0 rfl) ?_
          refine fm_rgr Z G F hf fr_X11_69 d_X11_plan_36 (fun q36 _ hf => ?_)
          obtain ⟨hk39, hf⟩ := fm_some hf
          refine fm_rcr G F hf (fun r ho => fm_runV (k := 0) Z G F N (As := []) (rest := []) (c_X8_isFull hE ho _) (by rw [eq_of_beq hk39]; decide) (by rw [eq_of_beq hk39]; rfl) kw_185 kw_186 kw_187 kw_3 kw_188 yd_X8_isFull rfl (by decide) (by decide) hl.1 (Nat.le_of_ble_eq_true rfl) d_X11_plan_39 (Nat.le_refl 0) (Nat.le_refl 0)) (fun x39 H locs _ F hf => ?_)
          refine lv_if_eq (tgt := 50) hx hb d_X11_plan_42 (by decide) (fun c42 => ?_) (fun c42 => ?_)
          · have hf := fm_ip c42 hf
            refine lv_aload_n hx hb d_X11_plan_50 rfl (lv_at hl 0 rfl) ?_
            refine fm_rgr Z G F hf fr_X11_69 d_X11_plan_51 (fun q51 _ hf => ?_)
            refine lv_iload_n hx hb d_X11_plan_54 rfl (lv_at hl 1 rfl) ?_
            refine lv_iload_n hx hb d_X11_plan_55 rfl (lv_at hl 2 rfl) ?_
            refine lv_iconst (v := 0) hx hb d_X11_plan_56 (by decide) ?_
            obtain ⟨hk57, hf⟩ := fm_some hf
            refine fm_rci G F hf (fun r u ho => fm_runV (k := 3) Z G F N (As := [.int a1, .int a2, .int 0]) (rest := []) (c_X8_add hE ho _) (by rw [eq_of_beq hk57]; decide) (by rw [eq_of_beq hk57]; rfl) kw_189 kw_190 kw_191 kw_3 kw_192 yd_X8_add rfl (by decide) (by decide) hl.1 (Nat.le_of_ble_eq_true rfl) d_X11_plan_57 (Nat.le_refl 0) (Nat.le_refl 0)) (fun x57 S57 H locs _ F hf => ?_)
            exact fm_reti Z hr hlk F d_X11_plan_60 (Prod.mk.inj (Option.some.inj hf)).1 (Prod.mk.inj (Option.some.inj hf)).2
          · have hf := fm_ig c42 hf
            refine lv_bipush (v := (-4)) hx hb d_X11_plan_45 (by decide) ?_
            refine lv_goto (tgt := 60) hx hb d_X11_plan_47 (by decide) ?_
            exact fm_reti Z hr hlk F d_X11_plan_60 (Prod.mk.inj (Option.some.inj hf)).1 (Prod.mk.inj (Option.some.inj hf)).2
        · have hf := fm_ip c30 hf
          refine lv_iconst (v := (-1)) hx hb d_X11_plan_33 (by decide) ?_
          exact fm_reti Z hr hlk F d_X11_plan_34 (Prod.mk.inj (Option.some.inj hf)).1 (Prod.mk.inj (Option.some.inj hf)).2
  · have hf := fm_ip c2 hf
    refine lv_aload_n hx hb d_X11_plan_5 rfl (lv_at hl 0 rfl) ?_
    refine fm_rgr Z G F hf fr_X11_69 d_X11_plan_6 (fun q6 _ hf => ?_)
    obtain ⟨hk9, hf⟩ := fm_some hf
    refine fm_rci G F hf (fun r u ho => fm_runV (k := 0) Z G F N (As := []) (rest := []) (c_X8_clear hE ho _) (by rw [eq_of_beq hk9]; decide) (by rw [eq_of_beq hk9]; rfl) kw_315 kw_316 kw_317 kw_3 kw_318 yd_X8_clear rfl (by decide) (by decide) hl.1 (Nat.le_of_ble_eq_true rfl) d_X11_plan_9 (Nat.le_refl 0) (Nat.le_refl 0)) (fun x9 S9 H locs _ F hf => ?_)
    exact fm_reti Z hr hlk F d_X11_plan_12 (Prod.mk.inj (Option.some.inj hf)).1 (Prod.mk.inj (Option.some.inj hf)).2
theorem d_X11_done_0 : decode prog_1_method_26_code 0 = .ok (.iload_n 1, 1) := by decide +kernel
theorem d_X11_done_1 : decode prog_1_method_26_code 1 = .ok (.iconst 1, 1) := by decide +kernel
theorem d_X11_done_2 : decode prog_1_method_26_code 2 = .ok (.invokestatic 85, 3) := by decide +kernel
theorem d_X11_done_5 : decode prog_1_method_26_code 5 = .ok (.ifCond .ne 5, 3) := by decide +kernel
theorem d_X11_done_8 : decode prog_1_method_26_code 8 = .ok (.iconst (-1), 1) := by decide +kernel
theorem d_X11_done_9 : decode prog_1_method_26_code 9 = .ok (.ireturn, 1) := by decide +kernel
theorem d_X11_done_10 : decode prog_1_method_26_code 10 = .ok (.aload_n 0, 1) := by decide +kernel
theorem d_X11_done_11 : decode prog_1_method_26_code 11 = .ok (.getfield 60, 3) := by decide +kernel
theorem d_X11_done_14 : decode prog_1_method_26_code 14 = .ok (.istore_n 2, 1) := by decide +kernel
theorem d_X11_done_15 : decode prog_1_method_26_code 15 = .ok (.iconst 0, 1) := by decide +kernel
theorem d_X11_done_16 : decode prog_1_method_26_code 16 = .ok (.istore_n 3, 1) := by decide +kernel
theorem d_X11_done_17 : decode prog_1_method_26_code 17 = .ok (.iconst 0, 1) := by decide +kernel
theorem d_X11_done_18 : decode prog_1_method_26_code 18 = .ok (.istore 4, 2) := by decide +kernel
theorem d_X11_done_20 : decode prog_1_method_26_code 20 = .ok (.iload 4, 2) := by decide +kernel
theorem d_X11_done_22 : decode prog_1_method_26_code 22 = .ok (.aload_n 0, 1) := by decide +kernel
theorem d_X11_done_23 : decode prog_1_method_26_code 23 = .ok (.getfield 23, 3) := by decide +kernel
theorem d_X11_done_26 : decode prog_1_method_26_code 26 = .ok (.if_icmp .ge 41, 3) := by decide +kernel
theorem d_X11_done_29 : decode prog_1_method_26_code 29 = .ok (.aload_n 0, 1) := by decide +kernel
theorem d_X11_done_30 : decode prog_1_method_26_code 30 = .ok (.iload 4, 2) := by decide +kernel
theorem d_X11_done_32 : decode prog_1_method_26_code 32 = .ok (.aload_n 0, 1) := by decide +kernel
theorem d_X11_done_33 : decode prog_1_method_26_code 33 = .ok (.getfield 57, 3) := by decide +kernel
theorem d_X11_done_36 : decode prog_1_method_26_code 36 = .ok (.invokevirtual 144, 3) := by decide +kernel
theorem d_X11_done_39 : decode prog_1_method_26_code 39 = .ok (.astore 5, 2) := by decide +kernel
theorem d_X11_done_41 : decode prog_1_method_26_code 41 = .ok (.iload_n 2, 1) := by decide +kernel
theorem d_X11_done_42 : decode prog_1_method_26_code 42 = .ok (.aload 5, 2) := by decide +kernel
theorem d_X11_done_44 : decode prog_1_method_26_code 44 = .ok (.aload_n 0, 1) := by decide +kernel
theorem d_X11_done_45 : decode prog_1_method_26_code 45 = .ok (.getfield 69, 3) := by decide +kernel
theorem d_X11_done_48 : decode prog_1_method_26_code 48 = .ok (.invokevirtual 211, 3) := by decide +kernel
theorem d_X11_done_51 : decode prog_1_method_26_code 51 = .ok (.iadd, 1) := by decide +kernel
theorem d_X11_done_52 : decode prog_1_method_26_code 52 = .ok (.istore_n 2, 1) := by decide +kernel
theorem d_X11_done_53 : decode prog_1_method_26_code 53 = .ok (.iload_n 3, 1) := by decide +kernel
theorem d_X11_done_54 : decode prog_1_method_26_code 54 = .ok (.aload 5, 2) := by decide +kernel
theorem d_X11_done_56 : decode prog_1_method_26_code 56 = .ok (.invokevirtual 178, 3) := by decide +kernel
theorem d_X11_done_59 : decode prog_1_method_26_code 59 = .ok (.iadd, 1) := by decide +kernel
theorem d_X11_done_60 : decode prog_1_method_26_code 60 = .ok (.istore_n 3, 1) := by decide +kernel
theorem d_X11_done_61 : decode prog_1_method_26_code 61 = .ok (.iinc 4 1, 3) := by decide +kernel
theorem d_X11_done_64 : decode prog_1_method_26_code 64 = .ok (.goto (-44), 3) := by decide +kernel
theorem d_X11_done_67 : decode prog_1_method_26_code 67 = .ok (.iload_n 1, 1) := by decide +kernel
theorem d_X11_done_68 : decode prog_1_method_26_code 68 = .ok (.ifCond .ne 7, 3) := by decide +kernel
theorem d_X11_done_71 : decode prog_1_method_26_code 71 = .ok (.iload_n 2, 1) := by decide +kernel
theorem d_X11_done_72 : decode prog_1_method_26_code 72 = .ok (.goto 4, 3) := by decide +kernel
theorem d_X11_done_75 : decode prog_1_method_26_code 75 = .ok (.iload_n 3, 1) := by decide +kernel
theorem d_X11_done_76 : decode prog_1_method_26_code 76 = .ok (.ireturn, 1) := by decide +kernel
def k_X11_done_20 (kap lam : Nat → Nat) (go20 : Nat → Int32 → Int32 → Int32 → Int32 → fm_M → Option (Int32 × fm_M)) (r0 : Nat) (a1 : Int32) (a2 : Int32) (a3 : Int32) (a4 : Int32)  (S : fm_M) : Option (Int32 × fm_M) :=
  fm_gi kap 11 r0 2 S fun x23 =>
  if x23 ≤ a4 then (
   if a1 = 0 then (
    some (a2, S)
   ) else (
    some (a3, S)
   )
  ) else (
   fm_gi kap 11 r0 8 S fun x33 =>
   fm_ck (kap r0 == 11) <|
   fm_bi (m_X11_courseFromNow kap lam r0 a4 x33 S) fun q36 S36 =>
   fm_gr kap 11 r0 12 S36 fun q45 =>
   fm_ck (kap q36 == 1) <|
   fm_bi (m_X1_goPlan kap lam q36 q45 S36) fun x48 S48 =>
   fm_let (a2 + x48 : Int32) fun x52 =>
   fm_ck (kap q36 == 1) <|
   fm_b1 (m_X1_offer kap lam q36 S48) fun x56 =>
   fm_let (a3 + x56 : Int32) fun x60 =>
   fm_let (a4 + 1 : Int32) fun x61 =>
   go20 r0 a1 x52 x60 x61 S48
  )
def b_X11_done_20 (kap lam : Nat → Nat) : Nat → Nat → Int32 → Int32 → Int32 → Int32 → fm_M → Option (Int32 × fm_M)
  | 0 => fun _ _ _ _ _ _ => none
  | n + 1 => k_X11_done_20 kap lam (b_X11_done_20 kap lam n)
def m_X11_done (kap lam : Nat → Nat) (r0 : Nat) (a1 : Int32) (S : fm_M) : Option (Int32 × fm_M) :=
  fm_b1 (m_X11_isWithin kap lam a1 1 S) fun x2 =>
  if x2 = 0 then (
   some ((-1), S)
  ) else (
   fm_gi kap 11 r0 9 S fun x11 =>
   fm_let (0 : Int32) fun x16 =>
   fm_let (0 : Int32) fun x18 =>
   b_X11_done_20 kap lam fm_LF r0 a1 x11 x16 x18 S
  )
set_option maxHeartbeats 4000000 in
set_option maxRecDepth 100000 in
theorem c_X11_done {l : Launch} {D : va_G} {ids kap lam : Nat → Nat} {RL : List Nat} {ad sk sv : Nat → Nat} {S : fm_M} {r0 : Nat} {a1 : Int32} {r : Int32} {u : fm_M} (hE : fm_E kap RL ad) (hf : m_X11_done kap lam r0 a1 S = some (r, u)) (sz : Nat) : fm_MI l y_X11_done prog_1_method_26_code 6 (Option.some Jvm.ClassFile.FieldType.int) 6 D ids kap lam RL ad sk sv S [.ref (ad r0), .int a1] sz r u := by
  refine fm_open rfl hE (Nat.le_of_ble_eq_true rfl) (fun p e s m args below meth c ls Z hr hlk G F N hl hsz => ?_)
  subst hsz
  obtain ⟨hx, hb, hml, hown, hts⟩ := id Z
  have hl : lv_has ls 6 [(0, .ref (ad r0)), (1, .int a1)] := hl
  generalize hQ : MQ below _ args s 0 0 (fm_A RL ad s.heap.size) = Qf
  have hL : ∀ n : Nat, (∀ (r0 : Nat) (a1 : Int32) (a2 : Int32) (a3 : Int32) (a4 : Int32)  (S : fm_M) (H : Heap) (locs : List Loc) (ls : Array Slot), fm_F D ids kap lam RL ad S (fm_A RL ad s.heap.size) s.heap H locs → lv_has ls 6 [(0, .ref (ad r0)), (1, .int a1), (2, .int a2), (3, .int a3), (4, .int a4)] → b_X11_done_20 kap lam n r0 a1 a2 a3 a4 S = some (r, u) → W p l e (fm_rm 6) s m args below meth c H locs 0 0 Qf (F0 m 20 ls [])) := by
    intro n
    induction n with
    | zero => exact fun _ _ _ _ _ _ _ _ _ _ _ hf => absurd hf (by intro h; cases h)
    | succ n ih =>
      intro r0 a1 a2 a3 a4 S H locs ls F hl hf
      have hf : k_X11_done_20 kap lam (b_X11_done_20 kap lam n) r0 a1 a2 a3 a4 S = some (r, u) := hf
      unfold k_X11_done_20 at hf
      refine lv_iload hx hb d_X11_done_20 (lv_at hl 4 rfl) ?_
      refine lv_aload_n hx hb d_X11_done_22 rfl (lv_at hl 0 rfl) ?_
      refine fm_rgi Z G F hf fr_X11_23 d_X11_done_23 (fun x23 _ hf => ?_)
      refine lv_icmp_ge (tgt := 67) hx hb d_X11_done_26 (by decide) (fun c26 => ?_) (fun c26 => ?_)
      · have hf := fm_ip c26 hf
        refine lv_iload_n hx hb d_X11_done_67 rfl (lv_at hl 1 rfl) ?_
        refine lv_if_ne (tgt := 75) hx hb d_X11_done_68 (by decide) (fun c68 => ?_) (fun c68 => ?_)
        · have hf := fm_ig c68 hf
          refine lv_iload_n hx hb d_X11_done_75 rfl (lv_at hl 3 rfl) ?_
          rw [← hQ]; exact fm_reti Z hr hlk F d_X11_done_76 (Prod.mk.inj (Option.some.inj hf)).1 (Prod.mk.inj (Option.some.inj hf)).2
        · have hf := fm_ip c68 hf
          refine lv_iload_n hx hb d_X11_done_71 rfl (lv_at hl 2 rfl) ?_
          refine lv_goto (tgt := 76) hx hb d_X11_done_72 (by decide) ?_
          rw [← hQ]; exact fm_reti Z hr hlk F d_X11_done_76 (Prod.mk.inj (Option.some.inj hf)).1 (Prod.mk.inj (Option.some.inj hf)).2
      · have hf := fm_ig c26 hf
        refine lv_aload_n hx hb d_X11_done_29 rfl (lv_at hl 0 rfl) ?_
        refine lv_iload hx hb d_X11_done_30 (lv_at hl 4 rfl) ?_
        refine lv_aload_n hx hb d_X11_done_32 rfl (lv_at hl 0 rfl) ?_
        refine fm_rgi Z G F hf fr_X11_57 d_X11_done_33 (fun x33 _ hf => ?_)
        obtain ⟨hk36, hf⟩ := fm_some hf
        refine fm_rcqq G F hf (fun r u ho => fm_runV (k := 2) Z G F N (As := [.int a4, .int x33]) (rest := []) (c_X11_courseFromNow hE ho _) (by rw [eq_of_beq hk36]; decide) (by rw [eq_of_beq hk36]; rfl) kw_564 kw_566 kp_11 kw_1 kw_567 yd_X11_courseFromNow rfl (by decide) (by decide) hl.1 (Nat.le_of_ble_eq_true rfl) d_X11_done_36 (Nat.le_refl 0) (Nat.le_refl 0)) (fun q36 S36 H locs _ F hf => ?_)
        refine lv_astore (lv' := [(5, .ref (ad q36)), (0, .ref (ad r0)), (1, .int a1), (2, .int a2), (3, .int a3), (4, .int a4)]) hx hb d_X11_done_39 hl (by decide) rfl (fun ls hl => ?_)
        refine lv_iload_n hx hb d_X11_done_41 rfl (lv_at hl 3 rfl) ?_
        refine lv_aload hx hb d_X11_done_42 (lv_at hl 0 rfl) ?_
        refine lv_aload_n hx hb d_X11_done_44 rfl (lv_at hl 1 rfl) ?_
        refine fm_rgr Z G F hf fr_X11_69 d_X11_done_45 (fun q45 _ hf => ?_)
        obtain ⟨hk48, hf⟩ := fm_some hf
        refine fm_rci G F hf (fun r u ho => fm_runV (k := 1) Z G F N (As := [.ref (ad q45)]) (rest := [.int a2]) (c_X1_goPlan hE ho _) (by rw [eq_of_beq hk48]; decide) (by rw [eq_of_beq hk48]; rfl) kw_775 kw_776 kw_777 kw_18 kw_778 yd_X1_goPlan rfl (by decide) (by decide) hl.1 (Nat.le_of_ble_eq_true rfl) d_X11_done_48 (Nat.le_refl 0) (Nat.le_refl 0)) (fun x48 S48 H locs _ F hf => ?_)
        refine lv_iadd hx hb d_X11_done_51 ?_
        refine lv_topi (fun x52 ex52 => ?_)
        have hf := fm_let_at ex52 hf
        refine lv_istore_n (lv' := [(2, .int x52), (5, .ref (ad q36)), (0, .ref (ad r0)), (1, .int a1), (3, .int a3), (4, .int a4)]) hx hb d_X11_done_52 rfl hl (by decide) rfl (fun ls hl => ?_)
        refine lv_iload_n hx hb d_X11_done_53 rfl (lv_at hl 4 rfl) ?_
        refine lv_aload hx hb d_X11_done_54 (lv_at hl 1 rfl) ?_
        obtain ⟨hk56, hf⟩ := fm_some hf
        refine fm_rcr G F hf (fun r ho => fm_runV (k := 0) Z G F N (As := []) (rest := [.int a3]) (c_X1_offer hE ho _) (by rw [eq_of_beq hk56]; decide) (by rw [eq_of_beq hk56]; rfl) kw_671 kw_672 kw_673 kw_18 kw_674 yd_X1_offer rfl (by decide) (by decide) hl.1 (Nat.le_of_ble_eq_true rfl) d_X11_done_56 (Nat.le_refl 0) (Nat.le_refl 0)) (fun x56 H locs _ F hf => ?_)
        refine lv_iadd hx hb d_X11_done_59 ?_
        refine lv_topi (fun x60 ex60 => ?_)
        have hf := fm_let_at ex60 hf
        refine lv_istore_n (lv' := [(3, .int x60), (2, .int x52), (5, .ref (ad q36)), (0, .ref (ad r0)), (1, .int a1), (4, .int a4)]) hx hb d_X11_done_60 rfl hl (by decide) rfl (fun ls hl => ?_)
        obtain ⟨x61, ex61⟩ : ∃ y : Int32, y = a4 + 1 := ⟨_, rfl⟩
        have hf := fm_let_at ex61 hf
        refine lv_iinc (v := x61) (lv' := [(4, .int x61), (3, .int x60), (2, .int x52), (5, .ref (ad q36)), (0, .ref (ad r0)), (1, .int a1)]) hx hb d_X11_done_61 hl (k := 5) rfl (by rw [ex61]; rfl) (by decide) rfl (fun ls hl => ?_)
        refine lv_goto (tgt := 20) hx hb d_X11_done_64 (by decide) ?_
        exact ih r0 a1 x52 x60 x61 S48 _ _ _ F (lv_sub hl [4, 5, 2, 1, 0] rfl) hf
  unfold m_X11_done at hf
  refine lv_iload_n hx hb d_X11_done_0 rfl (lv_at hl 1 rfl) ?_
  refine lv_iconst (v := 1) hx hb d_X11_done_1 (by decide) ?_
  refine fm_rcr G F hf (fun r ho => fm_runS (k := 2) Z G F N (As := [.int a1, .int 1]) (rest := []) (c_X11_isWithin hE ho _) kw_182 kw_183 kw_1 kw_184 yd_X11_isWithin rfl (by decide) (by decide) hl.1 (Nat.le_of_ble_eq_true rfl) d_X11_done_2 (Nat.le_refl 0) (Nat.le_refl 0)) (fun x2 H locs _ F hf => ?_)
  refine lv_if_ne (tgt := 10) hx hb d_X11_done_5 (by decide) (fun c5 => ?_) (fun c5 => ?_)
  · have hf := fm_ig c5 hf
    refine lv_aload_n hx hb d_X11_done_10 rfl (lv_at hl 0 rfl) ?_
    refine fm_rgi Z G F hf fr_X11_60 d_X11_done_11 (fun x11 _ hf => ?_)
    refine lv_istore_n (lv' := [(2, .int x11), (0, .ref (ad r0)), (1, .int a1)]) hx hb d_X11_done_14 rfl hl (by decide) rfl (fun ls hl => ?_)
    refine lv_iconst (v := 0) hx hb d_X11_done_15 (by decide) ?_
    refine lv_topi (fun x16 ex16 => ?_)
    have hf := fm_let_at ex16 hf
    refine lv_istore_n (lv' := [(3, .int x16), (2, .int x11), (0, .ref (ad r0)), (1, .int a1)]) hx hb d_X11_done_16 rfl hl (by decide) rfl (fun ls hl => ?_)
    refine lv_iconst (v := 0) hx hb d_X11_done_17 (by decide) ?_
    refine lv_topi (fun x18 ex18 => ?_)
    have hf := fm_let_at ex18 hf
    refine lv_istore (lv' := [(4, .int x18), (3, .int x16), (2, .int x11), (0, .ref (ad r0)), (1, .int a1)]) hx hb d_X11_done_18 hl (by decide) rfl (fun ls hl => ?_)
    exact (hL fm_LF) r0 a1 x11 x16 x18 S _ _ _ F (lv_sub hl [3, 4, 2, 1, 0] rfl) hf
  · have hf := fm_ip c5 hf
    refine lv_iconst (v := (-1)) hx hb d_X11_done_8 (by decide) ?_
    rw [← hQ]; exact fm_reti Z hr hlk F d_X11_done_9 (Prod.mk.inj (Option.some.inj hf)).1 (Prod.mk.inj (Option.some.inj hf)).2
theorem d_X11_book_0 : decode prog_1_method_27_code 0 = .ok (.iload_n 1, 1) := by decide +kernel
theorem d_X11_book_1 : decode prog_1_method_27_code 1 = .ok (.iconst (-1), 1) := by decide +kernel
theorem d_X11_book_2 : decode prog_1_method_27_code 2 = .ok (.if_icmp .ne 11, 3) := by decide +kernel
theorem d_X11_book_5 : decode prog_1_method_27_code 5 = .ok (.aload_n 0, 1) := by decide +kernel
theorem d_X11_book_6 : decode prog_1_method_27_code 6 = .ok (.getfield 72, 3) := by decide +kernel
theorem d_X11_book_9 : decode prog_1_method_27_code 9 = .ok (.invokevirtual 105, 3) := by decide +kernel
theorem d_X11_book_12 : decode prog_1_method_27_code 12 = .ok (.ireturn, 1) := by decide +kernel
theorem d_X11_book_13 : decode prog_1_method_27_code 13 = .ok (.aload_n 0, 1) := by decide +kernel
theorem d_X11_book_14 : decode prog_1_method_27_code 14 = .ok (.iload_n 1, 1) := by decide +kernel
theorem d_X11_book_15 : decode prog_1_method_27_code 15 = .ok (.invokevirtual 115, 3) := by decide +kernel
theorem d_X11_book_18 : decode prog_1_method_27_code 18 = .ok (.ifCond .ne 5, 3) := by decide +kernel
theorem d_X11_book_21 : decode prog_1_method_27_code 21 = .ok (.iconst (-1), 1) := by decide +kernel
theorem d_X11_book_22 : decode prog_1_method_27_code 22 = .ok (.ireturn, 1) := by decide +kernel
theorem d_X11_book_23 : decode prog_1_method_27_code 23 = .ok (.iload_n 2, 1) := by decide +kernel
theorem d_X11_book_24 : decode prog_1_method_27_code 24 = .ok (.sipush 4095, 3) := by decide +kernel
theorem d_X11_book_27 : decode prog_1_method_27_code 27 = .ok (.invokestatic 85, 3) := by decide +kernel
theorem d_X11_book_30 : decode prog_1_method_27_code 30 = .ok (.ifCond .ne 6, 3) := by decide +kernel
theorem d_X11_book_33 : decode prog_1_method_27_code 33 = .ok (.bipush (-2), 2) := by decide +kernel
theorem d_X11_book_35 : decode prog_1_method_27_code 35 = .ok (.ireturn, 1) := by decide +kernel
theorem d_X11_book_36 : decode prog_1_method_27_code 36 = .ok (.aload_n 0, 1) := by decide +kernel
theorem d_X11_book_37 : decode prog_1_method_27_code 37 = .ok (.getfield 72, 3) := by decide +kernel
theorem d_X11_book_40 : decode prog_1_method_27_code 40 = .ok (.invokevirtual 89, 3) := by decide +kernel
theorem d_X11_book_43 : decode prog_1_method_27_code 43 = .ok (.ifCond .eq 8, 3) := by decide +kernel
theorem d_X11_book_46 : decode prog_1_method_27_code 46 = .ok (.bipush (-4), 2) := by decide +kernel
theorem d_X11_book_48 : decode prog_1_method_27_code 48 = .ok (.goto 13, 3) := by decide +kernel
theorem d_X11_book_51 : decode prog_1_method_27_code 51 = .ok (.aload_n 0, 1) := by decide +kernel
theorem d_X11_book_52 : decode prog_1_method_27_code 52 = .ok (.getfield 72, 3) := by decide +kernel
theorem d_X11_book_55 : decode prog_1_method_27_code 55 = .ok (.iload_n 1, 1) := by decide +kernel
theorem d_X11_book_56 : decode prog_1_method_27_code 56 = .ok (.iload_n 2, 1) := by decide +kernel
theorem d_X11_book_57 : decode prog_1_method_27_code 57 = .ok (.iconst 0, 1) := by decide +kernel
theorem d_X11_book_58 : decode prog_1_method_27_code 58 = .ok (.invokevirtual 93, 3) := by decide +kernel
theorem d_X11_book_61 : decode prog_1_method_27_code 61 = .ok (.ireturn, 1) := by decide +kernel
def m_X11_book (kap lam : Nat → Nat) (r0 : Nat) (a1 : Int32) (a2 : Int32) (S : fm_M) : Option (Int32 × fm_M) :=
  if a1 = (-1) then (
   fm_gr kap 11 r0 13 S fun q6 =>
   fm_ck (kap q6 == 8) <|
   fm_bi (m_X8_clear kap lam q6 S) fun x9 S9 =>
   some (x9, S9)
  ) else (
   fm_ck (kap r0 == 11) <|
   fm_b1 (m_X11_isPane kap lam r0 a1 S) fun x15 =>
   if x15 = 0 then (
    some ((-1), S)
   ) else (
    fm_b1 (m_X11_isWithin kap lam a2 4095 S) fun x27 =>
    if x27 = 0 then (
     some ((-2), S)
    ) else (
     fm_gr kap 11 r0 13 S fun q37 =>
     fm_ck (kap q37 == 8) <|
     fm_b1 (m_X8_isFull kap lam q37 S) fun x40 =>
     if x40 = 0 then (
      fm_gr kap 11 r0 13 S fun q52 =>
      fm_ck (kap q52 == 8) <|
      fm_bi (m_X8_add kap lam q52 a1 a2 0 S) fun x58 S58 =>
      some (x58, S58)
     ) else (
      some ((-4), S)
     )
    )
   )
  )
set_option maxHeartbeats 4000000 in
set_option maxRecDepth 100000 in
theorem c_X11_book {l : Launch} {D : va_G} {ids kap lam : Nat → Nat} {RL : List Nat} {ad sk sv : Nat → Nat} {S : fm_M} {r0 : Nat} {a1 : Int32} {a2 : Int32} {r : Int32} {u : fm_M} (hE : fm_E kap RL ad) (hf : m_X11_book kap lam r0 a1 a2 S = some (r, u)) (sz : Nat) : fm_MI l y_X11_book prog_1_method_27_code 3 (Option.some Jvm.ClassFile.FieldType.int) 2 D ids kap lam RL ad sk sv S [.ref (ad r0), .int a1, .int a2] sz r u := by
  refine fm_open rfl hE (Nat.le_of_ble_eq_true rfl) (fun p e s m args below meth c ls Z hr hlk G F N hl hsz => ?_)
  subst hsz
  obtain ⟨hx, hb, hml, hown, hts⟩ := id Z
  have hl : lv_has ls 3 [(0, .ref (ad r0)), (1, .int a1), (2, .int a2)] := hl
  unfold m_X11_book at hf
  refine lv_iload_n hx hb d_X11_book_0 rfl (lv_at hl 1 rfl) ?_
  refine lv_iconst (v := (-1)) hx hb d_X11_book_1 (by decide) ?_
  refine lv_icmp_ne (tgt := 13) hx hb d_X11_book_2 (by decide) (fun c2 => ?_) (fun c2 => ?_)
  · have hf := fm_ig c2 hf
    refine lv_aload_n hx hb d_X11_book_13 rfl (lv_at hl 0 rfl) ?_
    refine lv_iload_n hx hb d_X11_book_14 rfl (lv_at hl 1 rfl) ?_
    obtain ⟨hk15, hf⟩ := fm_some hf
    refine fm_rcr G F hf (fun r ho => fm_runV (k := 1) Z G F N (As := [.int a1]) (rest := []) (c_X11_isPane hE ho _) (by rw [eq_of_beq hk15]; decide) (by rw [eq_of_beq hk15]; rfl) kw_546 kw_548 kp_9 kw_1 kw_549 yd_X11_isPane rfl (by decide) (by decide) hl.1 (Nat.le_of_ble_eq_true rfl) d_X11_book_15 (Nat.le_refl 0) (Nat.le_refl 0)) (fun x15 H locs _ F hf => ?_)
    refine lv_if_ne (tgt := 23) hx hb d_X11_book_18 (by decide) (fun c18 => ?_) (fun c18 => ?_)
    · have hf := fm_ig c18 hf
      refine lv_iload_n hx hb d_X11_book_23 rfl (lv_at hl 2 rfl) ?_
      refine lv_sipush (v := 4095) hx hb d_X11_book_24 (by decide) ?_
      refine fm_rcr G F hf (fun r ho => fm_runS (k := 2) Z G F N (As := [.int a2, .int 4095]) (rest := []) (c_X11_isWithin hE ho _) kw_182 kw_183 kw_1 kw_184 yd_X11_isWithin rfl (by decide) (by decide) hl.1 (Nat.le_of_ble_eq_true rfl) d_X11_book_27 (Nat.le_refl 0) (Nat.le_refl 0)) (fun x27 H locs _ F hf => ?_)
      refine lv_if_ne (tgt := 36) hx hb d_X11_book_30 (by decide) (fun c30 => ?_) (fun c30 => ?_)
      · have hf := fm_ig c30 hf
        refine lv_aload_n hx hb d_X11_book_36 rfl (lv_at hl 0 rfl) ?_
        refine fm_rgr Z G F hf fr_X11_72 d_X11_book_37 (fun q37 _ hf => ?_)
        obtain ⟨hk40, hf⟩ := fm_some hf
        refine fm_rcr G F hf (fun r ho => fm_runV (k := 0) Z G F N (As := []) (rest := []) (c_X8_isFull hE ho _) (by rw [eq_of_beq hk40]; decide) (by rw [eq_of_beq hk40]; rfl) kw_185 kw_186 kw_187 kw_3 kw_188 yd_X8_isFull rfl (by decide) (by decide) hl.1 (Nat.le_of_ble_eq_true rfl) d_X11_book_40 (Nat.le_refl 0) (Nat.le_refl 0)) (fun x40 H locs _ F hf => ?_)
        refine lv_if_eq (tgt := 51) hx hb d_X11_book_43 (by decide) (fun c43 => ?_) (fun c43 => ?_)
        · have hf := fm_ip c43 hf
          refine lv_aload_n hx hb d_X11_book_51 rfl (lv_at hl 0 rfl) ?_
          refine fm_rgr Z G F hf fr_X11_72 d_X11_book_52 (fun q52 _ hf => ?_)
          refine lv_iload_n hx hb d_X11_book_55 rfl (lv_at hl 1 rfl) ?_
          refine lv_iload_n hx hb d_X11_book_56 rfl (lv_at hl 2 rfl) ?_
          refine lv_iconst (v := 0) hx hb d_X11_book_57 (by decide) ?_
          obtain ⟨hk58, hf⟩ := fm_some hf
          refine fm_rci G F hf (fun r u ho => fm_runV (k := 3) Z G F N (As := [.int a1, .int a2, .int 0]) (rest := []) (c_X8_add hE ho _) (by rw [eq_of_beq hk58]; decide) (by rw [eq_of_beq hk58]; rfl) kw_189 kw_190 kw_191 kw_3 kw_192 yd_X8_add rfl (by decide) (by decide) hl.1 (Nat.le_of_ble_eq_true rfl) d_X11_book_58 (Nat.le_refl 0) (Nat.le_refl 0)) (fun x58 S58 H locs _ F hf => ?_)
          exact fm_reti Z hr hlk F d_X11_book_61 (Prod.mk.inj (Option.some.inj hf)).1 (Prod.mk.inj (Option.some.inj hf)).2
        · have hf := fm_ig c43 hf
          refine lv_bipush (v := (-4)) hx hb d_X11_book_46 (by decide) ?_
          refine lv_goto (tgt := 61) hx hb d_X11_book_48 (by decide) ?_
          exact fm_reti Z hr hlk F d_X11_book_61 (Prod.mk.inj (Option.some.inj hf)).1 (Prod.mk.inj (Option.some.inj hf)).2
      · have hf := fm_ip c30 hf
        refine lv_bipush (v := (-2)) hx hb d_X11_book_33 (by decide) ?_
        exact fm_reti Z hr hlk F d_X11_book_35 (Prod.mk.inj (Option.some.inj hf)).1 (Prod.mk.inj (Option.some.inj hf)).2
    · have hf := fm_ip c18 hf
      refine lv_iconst (v := (-1)) hx hb d_X11_book_21 (by decide) ?_
      exact fm_reti Z hr hlk F d_X11_book_22 (Prod.mk.inj (Option.some.inj hf)).1 (Prod.mk.inj (Option.some.inj hf)).2
  · have hf := fm_ip c2 hf
    refine lv_aload_n hx hb d_X11_book_5 rfl (lv_at hl 0 rfl) ?_
    refine fm_rgr Z G F hf fr_X11_72 d_X11_book_6 (fun q6 _ hf => ?_)
    obtain ⟨hk9, hf⟩ := fm_some hf
    refine fm_rci G F hf (fun r u ho => fm_runV (k := 0) Z G F N (As := []) (rest := []) (c_X8_clear hE ho _) (by rw [eq_of_beq hk9]; decide) (by rw [eq_of_beq hk9]; rfl) kw_315 kw_316 kw_317 kw_3 kw_318 yd_X8_clear rfl (by decide) (by decide) hl.1 (Nat.le_of_ble_eq_true rfl) d_X11_book_9 (Nat.le_refl 0) (Nat.le_refl 0)) (fun x9 S9 H locs _ F hf => ?_)
    exact fm_reti Z hr hlk F d_X11_book_12 (Prod.mk.inj (Option.some.inj hf)).1 (Prod.mk.inj (Option.some.inj hf)).2
theorem d_X11_looked_0 : decode prog_1_method_28_code 0 = .ok (.iconst 0, 1) := by decide +kernel
theorem d_X11_looked_1 : decode prog_1_method_28_code 1 = .ok (.istore_n 1, 1) := by decide +kernel
theorem d_X11_looked_2 : decode prog_1_method_28_code 2 = .ok (.iload_n 1, 1) := by decide +kernel
theorem d_X11_looked_3 : decode prog_1_method_28_code 3 = .ok (.aload_n 0, 1) := by decide +kernel
theorem d_X11_looked_4 : decode prog_1_method_28_code 4 = .ok (.getfield 72, 3) := by decide +kernel
theorem d_X11_looked_7 : decode prog_1_method_28_code 7 = .ok (.invokevirtual 97, 3) := by decide +kernel
theorem d_X11_looked_10 : decode prog_1_method_28_code 10 = .ok (.if_icmp .ge 50, 3) := by decide +kernel
theorem d_X11_looked_13 : decode prog_1_method_28_code 13 = .ok (.aload_n 0, 1) := by decide +kernel
theorem d_X11_looked_14 : decode prog_1_method_28_code 14 = .ok (.getfield 72, 3) := by decide +kernel
theorem d_X11_looked_17 : decode prog_1_method_28_code 17 = .ok (.iload_n 1, 1) := by decide +kernel
theorem d_X11_looked_18 : decode prog_1_method_28_code 18 = .ok (.iconst 0, 1) := by decide +kernel
theorem d_X11_looked_19 : decode prog_1_method_28_code 19 = .ok (.invokevirtual 215, 3) := by decide +kernel
theorem d_X11_looked_22 : decode prog_1_method_28_code 22 = .ok (.istore_n 2, 1) := by decide +kernel
theorem d_X11_looked_23 : decode prog_1_method_28_code 23 = .ok (.aload_n 0, 1) := by decide +kernel
theorem d_X11_looked_24 : decode prog_1_method_28_code 24 = .ok (.iload_n 2, 1) := by decide +kernel
theorem d_X11_looked_25 : decode prog_1_method_28_code 25 = .ok (.invokevirtual 115, 3) := by decide +kernel
theorem d_X11_looked_28 : decode prog_1_method_28_code 28 = .ok (.ifCond .eq 26, 3) := by decide +kernel
theorem d_X11_looked_31 : decode prog_1_method_28_code 31 = .ok (.aload_n 0, 1) := by decide +kernel
theorem d_X11_looked_32 : decode prog_1_method_28_code 32 = .ok (.getfield 13, 3) := by decide +kernel
theorem d_X11_looked_35 : decode prog_1_method_28_code 35 = .ok (.iload_n 2, 1) := by decide +kernel
theorem d_X11_looked_36 : decode prog_1_method_28_code 36 = .ok (.aaload, 1) := by decide +kernel
theorem d_X11_looked_37 : decode prog_1_method_28_code 37 = .ok (.getfield 128, 3) := by decide +kernel
theorem d_X11_looked_40 : decode prog_1_method_28_code 40 = .ok (.aload_n 0, 1) := by decide +kernel
theorem d_X11_looked_41 : decode prog_1_method_28_code 41 = .ok (.getfield 72, 3) := by decide +kernel
theorem d_X11_looked_44 : decode prog_1_method_28_code 44 = .ok (.iload_n 1, 1) := by decide +kernel
theorem d_X11_looked_45 : decode prog_1_method_28_code 45 = .ok (.iconst 1, 1) := by decide +kernel
theorem d_X11_looked_46 : decode prog_1_method_28_code 46 = .ok (.invokevirtual 215, 3) := by decide +kernel
theorem d_X11_looked_49 : decode prog_1_method_28_code 49 = .ok (.if_icmp .eq 5, 3) := by decide +kernel
theorem d_X11_looked_52 : decode prog_1_method_28_code 52 = .ok (.iload_n 1, 1) := by decide +kernel
theorem d_X11_looked_53 : decode prog_1_method_28_code 53 = .ok (.ireturn, 1) := by decide +kernel
theorem d_X11_looked_54 : decode prog_1_method_28_code 54 = .ok (.iinc 1 1, 3) := by decide +kernel
theorem d_X11_looked_57 : decode prog_1_method_28_code 57 = .ok (.goto (-55), 3) := by decide +kernel
theorem d_X11_looked_60 : decode prog_1_method_28_code 60 = .ok (.bipush (-5), 2) := by decide +kernel
theorem d_X11_looked_62 : decode prog_1_method_28_code 62 = .ok (.ireturn, 1) := by decide +kernel
def k_X11_looked_2 (kap lam : Nat → Nat) (S : fm_M) (go2 : Nat → Int32 → Option Int32) (r0 : Nat) (a1 : Int32)  : Option Int32 :=
  fm_gr kap 11 r0 13 S fun q4 =>
  fm_ck (kap q4 == 8) <|
  fm_b1 (m_X8_size kap lam q4 S) fun x7 =>
  if x7 ≤ a1 then (
   some (-5)
  ) else (
   fm_gr kap 11 r0 13 S fun q14 =>
   fm_ck (kap q14 == 8) <|
   fm_b1 (m_X8_at kap lam q14 a1 0 S) fun x19 =>
   fm_ck (kap r0 == 11) <|
   fm_b1 (m_X11_isPane kap lam r0 x19 S) fun x25 =>
   if x25 = 0 then (
    fm_let (a1 + 1 : Int32) fun x54 =>
    go2 r0 x54
   ) else (
    fm_gr kap 11 r0 0 S fun q32 =>
    fm_lr kap lam 16 q32 x19 S fun q36 =>
    fm_gi kap 5 q36 4 S fun x37 =>
    fm_gr kap 11 r0 13 S fun q41 =>
    fm_ck (kap q41 == 8) <|
    fm_b1 (m_X8_at kap lam q41 a1 1 S) fun x46 =>
    if x37 = x46 then (
     fm_let (a1 + 1 : Int32) fun x54 =>
     go2 r0 x54
    ) else (
     some a1
    )
   )
  )
def b_X11_looked_2 (kap lam : Nat → Nat) (S : fm_M) : Nat → Nat → Int32 → Option Int32
  | 0 => fun _ _ => none
  | n + 1 => k_X11_looked_2 kap lam S (b_X11_looked_2 kap lam S n)
def m_X11_looked (kap lam : Nat → Nat) (r0 : Nat) (S : fm_M) : Option Int32 :=
  fm_let (0 : Int32) fun x1 =>
  b_X11_looked_2 kap lam S fm_LF r0 x1
set_option maxHeartbeats 4000000 in
set_option maxRecDepth 100000 in
theorem c_X11_looked {l : Launch} {D : va_G} {ids kap lam : Nat → Nat} {RL : List Nat} {ad sk sv : Nat → Nat} {S : fm_M} {r0 : Nat} {r : Int32} (hE : fm_E kap RL ad) (hf : m_X11_looked kap lam r0 S = some r) (sz : Nat) : fm_MI l y_X11_looked prog_1_method_28_code 3 (Option.some Jvm.ClassFile.FieldType.int) 3 D ids kap lam RL ad sk sv S [.ref (ad r0)] sz r S := by
  refine fm_open rfl hE (Nat.le_of_ble_eq_true rfl) (fun p e s m args below meth c ls Z hr hlk G F N hl hsz => ?_)
  subst hsz
  obtain ⟨hx, hb, hml, hown, hts⟩ := id Z
  have hl : lv_has ls 3 [(0, .ref (ad r0))] := hl
  generalize hQ : MQ below _ args s 0 0 (fm_A RL ad s.heap.size) = Qf
  have hL : ∀ n : Nat, (∀ (r0 : Nat) (a1 : Int32)  (H : Heap) (locs : List Loc) (ls : Array Slot), fm_F D ids kap lam RL ad S (fm_A RL ad s.heap.size) s.heap H locs → lv_has ls 3 [(0, .ref (ad r0)), (1, .int a1)] → b_X11_looked_2 kap lam S n r0 a1 = some r → W p l e (fm_rm 3) s m args below meth c H locs 0 0 Qf (F0 m 2 ls [])) := by
    intro n
    induction n with
    | zero => exact fun _ _ _ _ _ _ _ hf => absurd hf (by intro h; cases h)
    | succ n ih =>
      intro r0 a1 H locs ls F hl hf
      have hf : k_X11_looked_2 kap lam S (b_X11_looked_2 kap lam S n) r0 a1 = some r := hf
      unfold k_X11_looked_2 at hf
      refine lv_iload_n hx hb d_X11_looked_2 rfl (lv_at hl 1 rfl) ?_
      refine lv_aload_n hx hb d_X11_looked_3 rfl (lv_at hl 0 rfl) ?_
      refine fm_rgr Z G F hf fr_X11_72 d_X11_looked_4 (fun q4 _ hf => ?_)
      obtain ⟨hk7, hf⟩ := fm_some hf
      refine fm_rcr G F hf (fun r ho => fm_runV (k := 0) Z G F N (As := []) (rest := [.int a1]) (c_X8_size hE ho _) (by rw [eq_of_beq hk7]; decide) (by rw [eq_of_beq hk7]; rfl) kw_193 kw_194 kw_195 kw_3 kw_196 yd_X8_size rfl (by decide) (by decide) hl.1 (Nat.le_of_ble_eq_true rfl) d_X11_looked_7 (Nat.le_refl 0) (Nat.le_refl 0)) (fun x7 H locs _ F hf => ?_)
      refine lv_icmp_ge (tgt := 60) hx hb d_X11_looked_10 (by decide) (fun c10 => ?_) (fun c10 => ?_)
      · have hf := fm_ip c10 hf
        refine lv_bipush (v := (-5)) hx hb d_X11_looked_60 (by decide) ?_
        rw [← hQ]; exact fm_reti Z hr hlk F d_X11_looked_62 (Option.some.inj hf) rfl
      · have hf := fm_ig c10 hf
        refine lv_aload_n hx hb d_X11_looked_13 rfl (lv_at hl 0 rfl) ?_
        refine fm_rgr Z G F hf fr_X11_72 d_X11_looked_14 (fun q14 _ hf => ?_)
        refine lv_iload_n hx hb d_X11_looked_17 rfl (lv_at hl 1 rfl) ?_
        refine lv_iconst (v := 0) hx hb d_X11_looked_18 (by decide) ?_
        obtain ⟨hk19, hf⟩ := fm_some hf
        refine fm_rcr G F hf (fun r ho => fm_runV (k := 2) Z G F N (As := [.int a1, .int 0]) (rest := []) (c_X8_at hE ho _) (by rw [eq_of_beq hk19]; decide) (by rw [eq_of_beq hk19]; rfl) kw_746 kw_211 kw_212 kw_3 kw_213 yd_X8_at rfl (by decide) (by decide) hl.1 (Nat.le_of_ble_eq_true rfl) d_X11_looked_19 (Nat.le_refl 0) (Nat.le_refl 0)) (fun x19 H locs _ F hf => ?_)
        refine lv_istore_n (lv' := [(2, .int x19), (0, .ref (ad r0)), (1, .int a1)]) hx hb d_X11_looked_22 rfl hl (by decide) rfl (fun ls hl => ?_)
        refine lv_aload_n hx hb d_X11_looked_23 rfl (lv_at hl 1 rfl) ?_
        refine lv_iload_n hx hb d_X11_looked_24 rfl (lv_at hl 0 rfl) ?_
        obtain ⟨hk25, hf⟩ := fm_some hf
        refine fm_rcr G F hf (fun r ho => fm_runV (k := 1) Z G F N (As := [.int x19]) (rest := []) (c_X11_isPane hE ho _) (by rw [eq_of_beq hk25]; decide) (by rw [eq_of_beq hk25]; rfl) kw_546 kw_548 kp_9 kw_1 kw_549 yd_X11_isPane rfl (by decide) (by decide) hl.1 (Nat.le_of_ble_eq_true rfl) d_X11_looked_25 (Nat.le_refl 0) (Nat.le_refl 0)) (fun x25 H locs _ F hf => ?_)
        refine lv_if_eq (tgt := 54) hx hb d_X11_looked_28 (by decide) (fun c28 => ?_) (fun c28 => ?_)
        · have hf := fm_ip c28 hf
          obtain ⟨x54, ex54⟩ : ∃ y : Int32, y = a1 + 1 := ⟨_, rfl⟩
          have hf := fm_let_at ex54 hf
          refine lv_iinc (v := x54) (lv' := [(1, .int x54), (2, .int x19), (0, .ref (ad r0))]) hx hb d_X11_looked_54 hl (k := 2) rfl (by rw [ex54]; rfl) (by decide) rfl (fun ls hl => ?_)
          refine lv_goto (tgt := 2) hx hb d_X11_looked_57 (by decide) ?_
          exact ih r0 x54 _ _ _ F (lv_sub hl [2, 0] rfl) hf
        · have hf := fm_ig c28 hf
          refine lv_aload_n hx hb d_X11_looked_31 rfl (lv_at hl 1 rfl) ?_
          refine fm_rgr Z G F hf fr_X11_13 d_X11_looked_32 (fun q32 _ hf => ?_)
          refine lv_iload_n hx hb d_X11_looked_35 rfl (lv_at hl 0 rfl) ?_
          refine fm_rlr Z G F (by decide) (by decide) hf d_X11_looked_36 (fun q36 _ hf => ?_)
          refine fm_rgi Z G F hf fr_X11_128 d_X11_looked_37 (fun x37 _ hf => ?_)
          refine lv_aload_n hx hb d_X11_looked_40 rfl (lv_at hl 1 rfl) ?_
          refine fm_rgr Z G F hf fr_X11_72 d_X11_looked_41 (fun q41 _ hf => ?_)
          refine lv_iload_n hx hb d_X11_looked_44 rfl (lv_at hl 2 rfl) ?_
          refine lv_iconst (v := 1) hx hb d_X11_looked_45 (by decide) ?_
          obtain ⟨hk46, hf⟩ := fm_some hf
          refine fm_rcr G F hf (fun r ho => fm_runV (k := 2) Z G F N (As := [.int a1, .int 1]) (rest := [.int x37]) (c_X8_at hE ho _) (by rw [eq_of_beq hk46]; decide) (by rw [eq_of_beq hk46]; rfl) kw_746 kw_211 kw_212 kw_3 kw_213 yd_X8_at rfl (by decide) (by decide) hl.1 (Nat.le_of_ble_eq_true rfl) d_X11_looked_46 (Nat.le_refl 0) (Nat.le_refl 0)) (fun x46 H locs _ F hf => ?_)
          refine lv_icmp_eq (tgt := 54) hx hb d_X11_looked_49 (by decide) (fun c49 => ?_) (fun c49 => ?_)
          · have hf := fm_ip c49 hf
            obtain ⟨x54, ex54⟩ : ∃ y : Int32, y = a1 + 1 := ⟨_, rfl⟩
            have hf := fm_let_at ex54 hf
            refine lv_iinc (v := x54) (lv' := [(1, .int x54), (2, .int x19), (0, .ref (ad r0))]) hx hb d_X11_looked_54 hl (k := 2) rfl (by rw [ex54]; rfl) (by decide) rfl (fun ls hl => ?_)
            refine lv_goto (tgt := 2) hx hb d_X11_looked_57 (by decide) ?_
            exact ih r0 x54 _ _ _ F (lv_sub hl [2, 0] rfl) hf
          · have hf := fm_ig c49 hf
            refine lv_iload_n hx hb d_X11_looked_52 rfl (lv_at hl 2 rfl) ?_
            rw [← hQ]; exact fm_reti Z hr hlk F d_X11_looked_53 (Option.some.inj hf) rfl
  unfold m_X11_looked at hf
  refine lv_iconst (v := 0) hx hb d_X11_looked_0 (by decide) ?_
  refine lv_topi (fun x1 ex1 => ?_)
  have hf := fm_let_at ex1 hf
  refine lv_istore_n (lv' := [(1, .int x1), (0, .ref (ad r0))]) hx hb d_X11_looked_1 rfl hl (by decide) rfl (fun ls hl => ?_)
  exact (hL fm_LF) r0 x1 _ _ _ F (lv_sub hl [1, 0] rfl) hf
theorem d_X11_act_0 : decode prog_1_method_29_code 0 = .ok (.aload_n 0, 1) := by decide +kernel
theorem d_X11_act_1 : decode prog_1_method_29_code 1 = .ok (.getfield 75, 3) := by decide +kernel
theorem d_X11_act_4 : decode prog_1_method_29_code 4 = .ok (.invokevirtual 105, 3) := by decide +kernel
theorem d_X11_act_7 : decode prog_1_method_29_code 7 = .ok (.pop, 1) := by decide +kernel
theorem d_X11_act_8 : decode prog_1_method_29_code 8 = .ok (.aload_n 0, 1) := by decide +kernel
theorem d_X11_act_9 : decode prog_1_method_29_code 9 = .ok (.iload_n 1, 1) := by decide +kernel
theorem d_X11_act_10 : decode prog_1_method_29_code 10 = .ok (.invokevirtual 115, 3) := by decide +kernel
theorem d_X11_act_13 : decode prog_1_method_29_code 13 = .ok (.ifCond .ne 5, 3) := by decide +kernel
theorem d_X11_act_16 : decode prog_1_method_29_code 16 = .ok (.iconst 0, 1) := by decide +kernel
theorem d_X11_act_17 : decode prog_1_method_29_code 17 = .ok (.ireturn, 1) := by decide +kernel
theorem d_X11_act_18 : decode prog_1_method_29_code 18 = .ok (.iload_n 2, 1) := by decide +kernel
theorem d_X11_act_19 : decode prog_1_method_29_code 19 = .ok (.tableswitch 58 0 2 #[25, 36, 47], 25) := by decide +kernel
theorem d_X11_act_44 : decode prog_1_method_29_code 44 = .ok (.aload_n 0, 1) := by decide +kernel
theorem d_X11_act_45 : decode prog_1_method_29_code 45 = .ok (.getfield 13, 3) := by decide +kernel
theorem d_X11_act_48 : decode prog_1_method_29_code 48 = .ok (.iload_n 1, 1) := by decide +kernel
theorem d_X11_act_49 : decode prog_1_method_29_code 49 = .ok (.aaload, 1) := by decide +kernel
theorem d_X11_act_50 : decode prog_1_method_29_code 50 = .ok (.iload_n 3, 1) := by decide +kernel
theorem d_X11_act_51 : decode prog_1_method_29_code 51 = .ok (.invokevirtual 218, 3) := by decide +kernel
theorem d_X11_act_54 : decode prog_1_method_29_code 54 = .ok (.ireturn, 1) := by decide +kernel
theorem d_X11_act_55 : decode prog_1_method_29_code 55 = .ok (.aload_n 0, 1) := by decide +kernel
theorem d_X11_act_56 : decode prog_1_method_29_code 56 = .ok (.getfield 13, 3) := by decide +kernel
theorem d_X11_act_59 : decode prog_1_method_29_code 59 = .ok (.iload_n 1, 1) := by decide +kernel
theorem d_X11_act_60 : decode prog_1_method_29_code 60 = .ok (.aaload, 1) := by decide +kernel
theorem d_X11_act_61 : decode prog_1_method_29_code 61 = .ok (.iload_n 3, 1) := by decide +kernel
theorem d_X11_act_62 : decode prog_1_method_29_code 62 = .ok (.invokevirtual 221, 3) := by decide +kernel
theorem d_X11_act_65 : decode prog_1_method_29_code 65 = .ok (.ireturn, 1) := by decide +kernel
theorem d_X11_act_66 : decode prog_1_method_29_code 66 = .ok (.aload_n 0, 1) := by decide +kernel
theorem d_X11_act_67 : decode prog_1_method_29_code 67 = .ok (.getfield 13, 3) := by decide +kernel
theorem d_X11_act_70 : decode prog_1_method_29_code 70 = .ok (.iload_n 1, 1) := by decide +kernel
theorem d_X11_act_71 : decode prog_1_method_29_code 71 = .ok (.aaload, 1) := by decide +kernel
theorem d_X11_act_72 : decode prog_1_method_29_code 72 = .ok (.iload_n 3, 1) := by decide +kernel
theorem d_X11_act_73 : decode prog_1_method_29_code 73 = .ok (.invokevirtual 224, 3) := by decide +kernel
theorem d_X11_act_76 : decode prog_1_method_29_code 76 = .ok (.ireturn, 1) := by decide +kernel
theorem d_X11_act_77 : decode prog_1_method_29_code 77 = .ok (.iconst 0, 1) := by decide +kernel
theorem d_X11_act_78 : decode prog_1_method_29_code 78 = .ok (.ireturn, 1) := by decide +kernel
def m_X11_act (kap lam : Nat → Nat) (r0 : Nat) (a1 : Int32) (a2 : Int32) (a3 : Int32) (S : fm_M) : Option (Int32 × fm_M) :=
  fm_gr kap 11 r0 14 S fun q1 =>
  fm_ck (kap q1 == 8) <|
  fm_bi (m_X8_clear kap lam q1 S) fun x4 S4 =>
  fm_ck (kap r0 == 11) <|
  fm_b1 (m_X11_isPane kap lam r0 a1 S4) fun x10 =>
  if x10 = 0 then (
   some (0, S4)
  ) else (
   if a2 = 0 then (
    fm_gr kap 11 r0 0 S4 fun q45 =>
    fm_lr kap lam 16 q45 a1 S4 fun q49 =>
    fm_bi (v_drips kap lam q49 a3 S4) fun x51 S51 =>
    some (x51, S51)
   ) else (
    if a2 = 1 then (
     fm_gr kap 11 r0 0 S4 fun q56 =>
     fm_lr kap lam 16 q56 a1 S4 fun q60 =>
     fm_bi (v_creaks kap lam q60 a3 S4) fun x62 S62 =>
     some (x62, S62)
    ) else (
     if a2 = 2 then (
      fm_gr kap 11 r0 0 S4 fun q67 =>
      fm_lr kap lam 16 q67 a1 S4 fun q71 =>
      fm_bi (v_shines kap lam q71 a3 S4) fun x73 S73 =>
      some (x73, S73)
     ) else (
      some (0, S4)
     )
    )
   )
  )
set_option maxHeartbeats 4000000 in
set_option maxRecDepth 100000 in
theorem c_X11_act {l : Launch} {D : va_G} {ids kap lam : Nat → Nat} {RL : List Nat} {ad sk sv : Nat → Nat} {S : fm_M} {r0 : Nat} {a1 : Int32} {a2 : Int32} {a3 : Int32} {r : Int32} {u : fm_M} (hE : fm_E kap RL ad) (hf : m_X11_act kap lam r0 a1 a2 a3 S = some (r, u)) (sz : Nat) : fm_MI l y_X11_act prog_1_method_29_code 4 (Option.some Jvm.ClassFile.FieldType.int) 7 D ids kap lam RL ad sk sv S [.ref (ad r0), .int a1, .int a2, .int a3] sz r u := by
  refine fm_open rfl hE (Nat.le_of_ble_eq_true rfl) (fun p e s m args below meth c ls Z hr hlk G F N hl hsz => ?_)
  subst hsz
  obtain ⟨hx, hb, hml, hown, hts⟩ := id Z
  have hl : lv_has ls 4 [(0, .ref (ad r0)), (1, .int a1), (2, .int a2), (3, .int a3)] := hl
  unfold m_X11_act at hf
  refine lv_aload_n hx hb d_X11_act_0 rfl (lv_at hl 0 rfl) ?_
  refine fm_rgr Z G F hf fr_X11_75 d_X11_act_1 (fun q1 _ hf => ?_)
  obtain ⟨hk4, hf⟩ := fm_some hf
  refine fm_rci G F hf (fun r u ho => fm_runV (k := 0) Z G F N (As := []) (rest := []) (c_X8_clear hE ho _) (by rw [eq_of_beq hk4]; decide) (by rw [eq_of_beq hk4]; rfl) kw_315 kw_316 kw_317 kw_3 kw_318 yd_X8_clear rfl (by decide) (by decide) hl.1 (Nat.le_of_ble_eq_true rfl) d_X11_act_4 (Nat.le_refl 0) (Nat.le_refl 0)) (fun x4 S4 H locs _ F hf => ?_)
  refine lv_pop hx hb d_X11_act_7 rfl ?_
  refine lv_aload_n hx hb d_X11_act_8 rfl (lv_at hl 0 rfl) ?_
  refine lv_iload_n hx hb d_X11_act_9 rfl (lv_at hl 1 rfl) ?_
  obtain ⟨hk10, hf⟩ := fm_some hf
  refine fm_rcr G F hf (fun r ho => fm_runV (k := 1) Z G F N (As := [.int a1]) (rest := []) (c_X11_isPane hE ho _) (by rw [eq_of_beq hk10]; decide) (by rw [eq_of_beq hk10]; rfl) kw_546 kw_548 kp_9 kw_1 kw_549 yd_X11_isPane rfl (by decide) (by decide) hl.1 (Nat.le_of_ble_eq_true rfl) d_X11_act_10 (Nat.le_refl 0) (Nat.le_refl 0)) (fun x10 H locs _ F hf => ?_)
  refine lv_if_ne (tgt := 18) hx hb d_X11_act_13 (by decide) (fun c13 => ?_) (fun c13 => ?_)
  · have hf := fm_ig c13 hf
    refine lv_iload_n hx hb d_X11_act_18 rfl (lv_at hl 2 rfl) ?_
    by_cases w19_0 : a2 = 0
    · have hf := fm_ip w19_0 hf
      refine lv_tableIn (off := 25) (tgt := 44) hx hb d_X11_act_19 (by rw [w19_0]; decide) (by rw [w19_0]; decide) (by rw [w19_0]; rfl) (by decide) ?_
      refine lv_aload_n hx hb d_X11_act_44 rfl (lv_at hl 0 rfl) ?_
      refine fm_rgr Z G F hf fr_X11_13 d_X11_act_45 (fun q45 _ hf => ?_)
      refine lv_iload_n hx hb d_X11_act_48 rfl (lv_at hl 1 rfl) ?_
      refine fm_rlr Z G F (by decide) (by decide) hf d_X11_act_49 (fun q49 _ hf => ?_)
      refine lv_iload_n hx hb d_X11_act_50 rfl (lv_at hl 3 rfl) ?_
      refine fm_rci (rest := []) (a := (Value.ref (ad q49) :: [.int a3]).toArray) G F hf (fun r u ho => ?_) (fun x51 S51 H locs _ F hf => ?_)
      · unfold v_drips at ho
        by_cases hv51_0 : kap q49 = 0
        · rw [if_pos hv51_0] at ho
          exact fm_runU (k := 1) Z G F N (As := [.int a3]) (rest := []) (x := (⟨"FrostBids$Pane", "drips", "(I)I"⟩ : MethodName)) (C := "FrostBids$Church") (owner := "FrostBids$Pane") (c_X0_drips hE ho _) (by rw [hv51_0]; decide) (by rw [hv51_0]; rfl) kw_793 kw_796 kw_794 kw_813 kw_797 kw_798 kw_16 kw_799 ⟨by decide +kernel, by decide +kernel, by decide +kernel⟩ rfl (by decide) (by decide) hl.1 (Nat.le_of_ble_eq_true rfl) d_X11_act_51 (Nat.le_refl 0) (Nat.le_refl 0)
        rw [if_neg hv51_0] at ho
        by_cases hv51_2 : kap q49 = 2
        · rw [if_pos hv51_2] at ho
          exact fm_runU (k := 1) Z G F N (As := [.int a3]) (rest := []) (x := (⟨"FrostBids$Pane", "drips", "(I)I"⟩ : MethodName)) (C := "FrostBids$Jail") (owner := "FrostBids$Pane") (c_X3_drips hE ho _) (by rw [hv51_2]; decide) (by rw [hv51_2]; rfl) kw_793 kw_796 kw_794 kw_813 kw_804 kw_805 kw_12 kw_806 ⟨by decide +kernel, by decide +kernel, by decide +kernel⟩ rfl (by decide) (by decide) hl.1 (Nat.le_of_ble_eq_true rfl) d_X11_act_51 (Nat.le_refl 0) (Nat.le_refl 0)
        rw [if_neg hv51_2] at ho
        by_cases hv51_3 : kap q49 = 3
        · rw [if_pos hv51_3] at ho
          exact fm_runU (k := 1) Z G F N (As := [.int a3]) (rest := []) (x := (⟨"FrostBids$Pane", "drips", "(I)I"⟩ : MethodName)) (C := "FrostBids$Kitchen") (owner := "FrostBids$Pane") (c_X3_drips hE ho _) (by rw [hv51_3]; decide) (by rw [hv51_3]; rfl) kw_793 kw_796 kw_794 kw_813 kw_809 kw_805 kw_12 kw_806 ⟨by decide +kernel, by decide +kernel, by decide +kernel⟩ rfl (by decide) (by decide) hl.1 (Nat.le_of_ble_eq_true rfl) d_X11_act_51 (Nat.le_refl 0) (Nat.le_refl 0)
        rw [if_neg hv51_3] at ho
        by_cases hv51_4 : kap q49 = 4
        · rw [if_pos hv51_4] at ho
          exact fm_runU (k := 1) Z G F N (As := [.int a3]) (rest := []) (x := (⟨"FrostBids$Pane", "drips", "(I)I"⟩ : MethodName)) (C := "FrostBids$Nursery") (owner := "FrostBids$Pane") (c_X5_drips hE ho _) (by rw [hv51_4]; decide) (by rw [hv51_4]; rfl) kw_793 kw_796 kw_794 kw_813 kw_810 kw_794 kw_11 kw_813 ⟨by decide +kernel, by decide +kernel, by decide +kernel⟩ rfl (by decide) (by decide) hl.1 (Nat.le_of_ble_eq_true rfl) d_X11_act_51 (Nat.le_refl 0) (Nat.le_refl 0)
        rw [if_neg hv51_4] at ho
        by_cases hv51_5 : kap q49 = 5
        · rw [if_pos hv51_5] at ho
          exact fm_runU (k := 1) Z G F N (As := [.int a3]) (rest := []) (x := (⟨"FrostBids$Pane", "drips", "(I)I"⟩ : MethodName)) (C := "FrostBids$Pane") (owner := "FrostBids$Pane") (c_X5_drips hE ho _) (by rw [hv51_5]; decide) (by rw [hv51_5]; rfl) kw_793 kw_796 kw_794 kw_813 kw_795 kw_794 kw_11 kw_813 ⟨by decide +kernel, by decide +kernel, by decide +kernel⟩ rfl (by decide) (by decide) hl.1 (Nat.le_of_ble_eq_true rfl) d_X11_act_51 (Nat.le_refl 0) (Nat.le_refl 0)
        rw [if_neg hv51_5] at ho
        by_cases hv51_7 : kap q49 = 7
        · rw [if_pos hv51_7] at ho
          exact fm_runU (k := 1) Z G F N (As := [.int a3]) (rest := []) (x := (⟨"FrostBids$Pane", "drips", "(I)I"⟩ : MethodName)) (C := "FrostBids$Rectory") (owner := "FrostBids$Pane") (c_X5_drips hE ho _) (by rw [hv51_7]; decide) (by rw [hv51_7]; rfl) kw_793 kw_796 kw_794 kw_813 kw_811 kw_794 kw_11 kw_813 ⟨by decide +kernel, by decide +kernel, by decide +kernel⟩ rfl (by decide) (by decide) hl.1 (Nat.le_of_ble_eq_true rfl) d_X11_act_51 (Nat.le_refl 0) (Nat.le_refl 0)
        rw [if_neg hv51_7] at ho
        by_cases hv51_9 : kap q49 = 9
        · rw [if_pos hv51_9] at ho
          exact fm_runU (k := 1) Z G F N (As := [.int a3]) (rest := []) (x := (⟨"FrostBids$Pane", "drips", "(I)I"⟩ : MethodName)) (C := "FrostBids$Told") (owner := "FrostBids$Pane") (c_X5_drips hE ho _) (by rw [hv51_9]; decide) (by rw [hv51_9]; rfl) kw_793 kw_796 kw_794 kw_813 kw_812 kw_794 kw_11 kw_813 ⟨by decide +kernel, by decide +kernel, by decide +kernel⟩ rfl (by decide) (by decide) hl.1 (Nat.le_of_ble_eq_true rfl) d_X11_act_51 (Nat.le_refl 0) (Nat.le_refl 0)
        rw [if_neg hv51_9] at ho
        cases ho
      exact fm_reti Z hr hlk F d_X11_act_54 (Prod.mk.inj (Option.some.inj hf)).1 (Prod.mk.inj (Option.some.inj hf)).2
    have hf := fm_ig w19_0 hf
    by_cases w19_1 : a2 = 1
    · have hf := fm_ip w19_1 hf
      refine lv_tableIn (off := 36) (tgt := 55) hx hb d_X11_act_19 (by rw [w19_1]; decide) (by rw [w19_1]; decide) (by rw [w19_1]; rfl) (by decide) ?_
      refine lv_aload_n hx hb d_X11_act_55 rfl (lv_at hl 0 rfl) ?_
      refine fm_rgr Z G F hf fr_X11_13 d_X11_act_56 (fun q56 _ hf => ?_)
      refine lv_iload_n hx hb d_X11_act_59 rfl (lv_at hl 1 rfl) ?_
      refine fm_rlr Z G F (by decide) (by decide) hf d_X11_act_60 (fun q60 _ hf => ?_)
      refine lv_iload_n hx hb d_X11_act_61 rfl (lv_at hl 3 rfl) ?_
      refine fm_rci (rest := []) (a := (Value.ref (ad q60) :: [.int a3]).toArray) G F hf (fun r u ho => ?_) (fun x62 S62 H locs _ F hf => ?_)
      · unfold v_creaks at ho
        by_cases hv62_0 : kap q60 = 0
        · rw [if_pos hv62_0] at ho
          exact fm_runU (k := 1) Z G F N (As := [.int a3]) (rest := []) (x := (⟨"FrostBids$Pane", "creaks", "(I)I"⟩ : MethodName)) (C := "FrostBids$Church") (owner := "FrostBids$Pane") (c_X4_creaks hE ho _) (by rw [hv62_0]; decide) (by rw [hv62_0]; rfl) kw_815 kw_818 kw_816 kw_835 kw_819 kw_820 kw_13 kw_821 ⟨by decide +kernel, by decide +kernel, by decide +kernel⟩ rfl (by decide) (by decide) hl.1 (Nat.le_of_ble_eq_true rfl) d_X11_act_62 (Nat.le_refl 0) (Nat.le_refl 0)
        rw [if_neg hv62_0] at ho
        by_cases hv62_2 : kap q60 = 2
        · rw [if_pos hv62_2] at ho
          exact fm_runU (k := 1) Z G F N (As := [.int a3]) (rest := []) (x := (⟨"FrostBids$Pane", "creaks", "(I)I"⟩ : MethodName)) (C := "FrostBids$Jail") (owner := "FrostBids$Pane") (c_X5_creaks hE ho _) (by rw [hv62_2]; decide) (by rw [hv62_2]; rfl) kw_815 kw_818 kw_816 kw_835 kw_824 kw_816 kw_11 kw_835 ⟨by decide +kernel, by decide +kernel, by decide +kernel⟩ rfl (by decide) (by decide) hl.1 (Nat.le_of_ble_eq_true rfl) d_X11_act_62 (Nat.le_refl 0) (Nat.le_refl 0)
        rw [if_neg hv62_2] at ho
        by_cases hv62_3 : kap q60 = 3
        · rw [if_pos hv62_3] at ho
          exact fm_runU (k := 1) Z G F N (As := [.int a3]) (rest := []) (x := (⟨"FrostBids$Pane", "creaks", "(I)I"⟩ : MethodName)) (C := "FrostBids$Kitchen") (owner := "FrostBids$Pane") (c_X5_creaks hE ho _) (by rw [hv62_3]; decide) (by rw [hv62_3]; rfl) kw_815 kw_818 kw_816 kw_835 kw_825 kw_816 kw_11 kw_835 ⟨by decide +kernel, by decide +kernel, by decide +kernel⟩ rfl (by decide) (by decide) hl.1 (Nat.le_of_ble_eq_true rfl) d_X11_act_62 (Nat.le_refl 0) (Nat.le_refl 0)
        rw [if_neg hv62_3] at ho
        by_cases hv62_4 : kap q60 = 4
        · rw [if_pos hv62_4] at ho
          exact fm_runU (k := 1) Z G F N (As := [.int a3]) (rest := []) (x := (⟨"FrostBids$Pane", "creaks", "(I)I"⟩ : MethodName)) (C := "FrostBids$Nursery") (owner := "FrostBids$Pane") (c_X4_creaks hE ho _) (by rw [hv62_4]; decide) (by rw [hv62_4]; rfl) kw_815 kw_818 kw_816 kw_835 kw_826 kw_820 kw_13 kw_821 ⟨by decide +kernel, by decide +kernel, by decide +kernel⟩ rfl (by decide) (by decide) hl.1 (Nat.le_of_ble_eq_true rfl) d_X11_act_62 (Nat.le_refl 0) (Nat.le_refl 0)
        rw [if_neg hv62_4] at ho
        by_cases hv62_5 : kap q60 = 5
        · rw [if_pos hv62_5] at ho
          exact fm_runU (k := 1) Z G F N (As := [.int a3]) (rest := []) (x := (⟨"FrostBids$Pane", "creaks", "(I)I"⟩ : MethodName)) (C := "FrostBids$Pane") (owner := "FrostBids$Pane") (c_X5_creaks hE ho _) (by rw [hv62_5]; decide) (by rw [hv62_5]; rfl) kw_815 kw_818 kw_816 kw_835 kw_817 kw_816 kw_11 kw_835 ⟨by decide +kernel, by decide +kernel, by decide +kernel⟩ rfl (by decide) (by decide) hl.1 (Nat.le_of_ble_eq_true rfl) d_X11_act_62 (Nat.le_refl 0) (Nat.le_refl 0)
        rw [if_neg hv62_5] at ho
        by_cases hv62_7 : kap q60 = 7
        · rw [if_pos hv62_7] at ho
          exact fm_runU (k := 1) Z G F N (As := [.int a3]) (rest := []) (x := (⟨"FrostBids$Pane", "creaks", "(I)I"⟩ : MethodName)) (C := "FrostBids$Rectory") (owner := "FrostBids$Pane") (c_X5_creaks hE ho _) (by rw [hv62_7]; decide) (by rw [hv62_7]; rfl) kw_815 kw_818 kw_816 kw_835 kw_827 kw_816 kw_11 kw_835 ⟨by decide +kernel, by decide +kernel, by decide +kernel⟩ rfl (by decide) (by decide) hl.1 (Nat.le_of_ble_eq_true rfl) d_X11_act_62 (Nat.le_refl 0) (Nat.le_refl 0)
        rw [if_neg hv62_7] at ho
        by_cases hv62_9 : kap q60 = 9
        · rw [if_pos hv62_9] at ho
          exact fm_runU (k := 1) Z G F N (As := [.int a3]) (rest := []) (x := (⟨"FrostBids$Pane", "creaks", "(I)I"⟩ : MethodName)) (C := "FrostBids$Told") (owner := "FrostBids$Pane") (c_X9_creaks hE ho _) (by rw [hv62_9]; decide) (by rw [hv62_9]; rfl) kw_815 kw_818 kw_816 kw_835 kw_828 kw_829 kw_17 kw_830 ⟨by decide +kernel, by decide +kernel, by decide +kernel⟩ rfl (by decide) (by decide) hl.1 (Nat.le_of_ble_eq_true rfl) d_X11_act_62 (Nat.le_refl 0) (Nat.le_refl 0)
        rw [if_neg hv62_9] at ho
        cases ho
      exact fm_reti Z hr hlk F d_X11_act_65 (Prod.mk.inj (Option.some.inj hf)).1 (Prod.mk.inj (Option.some.inj hf)).2
    have hf := fm_ig w19_1 hf
    by_cases w19_2 : a2 = 2
    · have hf := fm_ip w19_2 hf
      refine lv_tableIn (off := 47) (tgt := 66) hx hb d_X11_act_19 (by rw [w19_2]; decide) (by rw [w19_2]; decide) (by rw [w19_2]; rfl) (by decide) ?_
      refine lv_aload_n hx hb d_X11_act_66 rfl (lv_at hl 0 rfl) ?_
      refine fm_rgr Z G F hf fr_X11_13 d_X11_act_67 (fun q67 _ hf => ?_)
      refine lv_iload_n hx hb d_X11_act_70 rfl (lv_at hl 1 rfl) ?_
      refine fm_rlr Z G F (by decide) (by decide) hf d_X11_act_71 (fun q71 _ hf => ?_)
      refine lv_iload_n hx hb d_X11_act_72 rfl (lv_at hl 3 rfl) ?_
      refine fm_rci (rest := []) (a := (Value.ref (ad q71) :: [.int a3]).toArray) G F hf (fun r u ho => ?_) (fun x73 S73 H locs _ F hf => ?_)
      · unfold v_shines at ho
        by_cases hv73_0 : kap q71 = 0
        · rw [if_pos hv73_0] at ho
          exact fm_runU (k := 1) Z G F N (As := [.int a3]) (rest := []) (x := (⟨"FrostBids$Pane", "shines", "(I)I"⟩ : MethodName)) (C := "FrostBids$Church") (owner := "FrostBids$Pane") (c_X5_shines hE ho _) (by rw [hv73_0]; decide) (by rw [hv73_0]; rfl) kw_837 kw_840 kw_838 kw_861 kw_841 kw_838 kw_11 kw_861 ⟨by decide +kernel, by decide +kernel, by decide +kernel⟩ rfl (by decide) (by decide) hl.1 (Nat.le_of_ble_eq_true rfl) d_X11_act_73 (Nat.le_refl 0) (Nat.le_refl 0)
        rw [if_neg hv73_0] at ho
        by_cases hv73_2 : kap q71 = 2
        · rw [if_pos hv73_2] at ho
          exact fm_runU (k := 1) Z G F N (As := [.int a3]) (rest := []) (x := (⟨"FrostBids$Pane", "shines", "(I)I"⟩ : MethodName)) (C := "FrostBids$Jail") (owner := "FrostBids$Pane") (c_X2_shines hE ho _) (by rw [hv73_2]; decide) (by rw [hv73_2]; rfl) kw_837 kw_840 kw_838 kw_861 kw_842 kw_843 kw_15 kw_844 ⟨by decide +kernel, by decide +kernel, by decide +kernel⟩ rfl (by decide) (by decide) hl.1 (Nat.le_of_ble_eq_true rfl) d_X11_act_73 (Nat.le_refl 0) (Nat.le_refl 0)
        rw [if_neg hv73_2] at ho
        by_cases hv73_3 : kap q71 = 3
        · rw [if_pos hv73_3] at ho
          exact fm_runU (k := 1) Z G F N (As := [.int a3]) (rest := []) (x := (⟨"FrostBids$Pane", "shines", "(I)I"⟩ : MethodName)) (C := "FrostBids$Kitchen") (owner := "FrostBids$Pane") (c_X5_shines hE ho _) (by rw [hv73_3]; decide) (by rw [hv73_3]; rfl) kw_837 kw_840 kw_838 kw_861 kw_853 kw_838 kw_11 kw_861 ⟨by decide +kernel, by decide +kernel, by decide +kernel⟩ rfl (by decide) (by decide) hl.1 (Nat.le_of_ble_eq_true rfl) d_X11_act_73 (Nat.le_refl 0) (Nat.le_refl 0)
        rw [if_neg hv73_3] at ho
        by_cases hv73_4 : kap q71 = 4
        · rw [if_pos hv73_4] at ho
          exact fm_runU (k := 1) Z G F N (As := [.int a3]) (rest := []) (x := (⟨"FrostBids$Pane", "shines", "(I)I"⟩ : MethodName)) (C := "FrostBids$Nursery") (owner := "FrostBids$Pane") (c_X5_shines hE ho _) (by rw [hv73_4]; decide) (by rw [hv73_4]; rfl) kw_837 kw_840 kw_838 kw_861 kw_854 kw_838 kw_11 kw_861 ⟨by decide +kernel, by decide +kernel, by decide +kernel⟩ rfl (by decide) (by decide) hl.1 (Nat.le_of_ble_eq_true rfl) d_X11_act_73 (Nat.le_refl 0) (Nat.le_refl 0)
        rw [if_neg hv73_4] at ho
        by_cases hv73_5 : kap q71 = 5
        · rw [if_pos hv73_5] at ho
          exact fm_runU (k := 1) Z G F N (As := [.int a3]) (rest := []) (x := (⟨"FrostBids$Pane", "shines", "(I)I"⟩ : MethodName)) (C := "FrostBids$Pane") (owner := "FrostBids$Pane") (c_X5_shines hE ho _) (by rw [hv73_5]; decide) (by rw [hv73_5]; rfl) kw_837 kw_840 kw_838 kw_861 kw_839 kw_838 kw_11 kw_861 ⟨by decide +kernel, by decide +kernel, by decide +kernel⟩ rfl (by decide) (by decide) hl.1 (Nat.le_of_ble_eq_true rfl) d_X11_act_73 (Nat.le_refl 0) (Nat.le_refl 0)
        rw [if_neg hv73_5] at ho
        by_cases hv73_7 : kap q71 = 7
        · rw [if_pos hv73_7] at ho
          exact fm_runU (k := 1) Z G F N (As := [.int a3]) (rest := []) (x := (⟨"FrostBids$Pane", "shines", "(I)I"⟩ : MethodName)) (C := "FrostBids$Rectory") (owner := "FrostBids$Pane") (c_X7_shines hE ho _) (by rw [hv73_7]; decide) (by rw [hv73_7]; rfl) kw_837 kw_840 kw_838 kw_861 kw_855 kw_856 kw_14 kw_857 ⟨by decide +kernel, by decide +kernel, by decide +kernel⟩ rfl (by decide) (by decide) hl.1 (Nat.le_of_ble_eq_true rfl) d_X11_act_73 (Nat.le_refl 0) (Nat.le_refl 0)
        rw [if_neg hv73_7] at ho
        by_cases hv73_9 : kap q71 = 9
        · rw [if_pos hv73_9] at ho
          exact fm_runU (k := 1) Z G F N (As := [.int a3]) (rest := []) (x := (⟨"FrostBids$Pane", "shines", "(I)I"⟩ : MethodName)) (C := "FrostBids$Told") (owner := "FrostBids$Pane") (c_X7_shines hE ho _) (by rw [hv73_9]; decide) (by rw [hv73_9]; rfl) kw_837 kw_840 kw_838 kw_861 kw_860 kw_856 kw_14 kw_857 ⟨by decide +kernel, by decide +kernel, by decide +kernel⟩ rfl (by decide) (by decide) hl.1 (Nat.le_of_ble_eq_true rfl) d_X11_act_73 (Nat.le_refl 0) (Nat.le_refl 0)
        rw [if_neg hv73_9] at ho
        cases ho
      exact fm_reti Z hr hlk F d_X11_act_76 (Prod.mk.inj (Option.some.inj hf)).1 (Prod.mk.inj (Option.some.inj hf)).2
    have hf := fm_ig w19_2 hf
    have z19_0 := lv_neT (a := 0) w19_0 (by decide)
    have z19_1 := lv_neT (a := 1) w19_1 (by decide)
    have z19_2 := lv_neT (a := 2) w19_2 (by decide)
    refine lv_tableOut (tgt := 77) hx hb d_X11_act_19 (by omega) (by decide) ?_
    refine lv_iconst (v := 0) hx hb d_X11_act_77 (by decide) ?_
    exact fm_reti Z hr hlk F d_X11_act_78 (Prod.mk.inj (Option.some.inj hf)).1 (Prod.mk.inj (Option.some.inj hf)).2
  · have hf := fm_ip c13 hf
    refine lv_iconst (v := 0) hx hb d_X11_act_16 (by decide) ?_
    exact fm_reti Z hr hlk F d_X11_act_17 (Prod.mk.inj (Option.some.inj hf)).1 (Prod.mk.inj (Option.some.inj hf)).2
theorem d_X11_trace_0 : decode prog_1_method_30_code 0 = .ok (.iload_n 1, 1) := by decide +kernel
theorem d_X11_trace_1 : decode prog_1_method_30_code 1 = .ok (.aload_n 0, 1) := by decide +kernel
theorem d_X11_trace_2 : decode prog_1_method_30_code 2 = .ok (.getfield 75, 3) := by decide +kernel
theorem d_X11_trace_5 : decode prog_1_method_30_code 5 = .ok (.invokevirtual 97, 3) := by decide +kernel
theorem d_X11_trace_8 : decode prog_1_method_30_code 8 = .ok (.iconst 1, 1) := by decide +kernel
theorem d_X11_trace_9 : decode prog_1_method_30_code 9 = .ok (.isub, 1) := by decide +kernel
theorem d_X11_trace_10 : decode prog_1_method_30_code 10 = .ok (.invokestatic 85, 3) := by decide +kernel
theorem d_X11_trace_13 : decode prog_1_method_30_code 13 = .ok (.ifCond .eq 15, 3) := by decide +kernel
theorem d_X11_trace_16 : decode prog_1_method_30_code 16 = .ok (.aload_n 0, 1) := by decide +kernel
theorem d_X11_trace_17 : decode prog_1_method_30_code 17 = .ok (.getfield 75, 3) := by decide +kernel
theorem d_X11_trace_20 : decode prog_1_method_30_code 20 = .ok (.iload_n 1, 1) := by decide +kernel
theorem d_X11_trace_21 : decode prog_1_method_30_code 21 = .ok (.iconst 0, 1) := by decide +kernel
theorem d_X11_trace_22 : decode prog_1_method_30_code 22 = .ok (.invokevirtual 215, 3) := by decide +kernel
theorem d_X11_trace_25 : decode prog_1_method_30_code 25 = .ok (.goto 4, 3) := by decide +kernel
theorem d_X11_trace_28 : decode prog_1_method_30_code 28 = .ok (.iconst (-1), 1) := by decide +kernel
theorem d_X11_trace_29 : decode prog_1_method_30_code 29 = .ok (.ireturn, 1) := by decide +kernel
def m_X11_trace (kap lam : Nat → Nat) (r0 : Nat) (a1 : Int32) (S : fm_M) : Option Int32 :=
  fm_gr kap 11 r0 14 S fun q2 =>
  fm_ck (kap q2 == 8) <|
  fm_b1 (m_X8_size kap lam q2 S) fun x5 =>
  fm_b1 (m_X11_isWithin kap lam a1 (x5 - 1) S) fun x10 =>
  if x10 = 0 then (
   some (-1)
  ) else (
   fm_gr kap 11 r0 14 S fun q17 =>
   fm_ck (kap q17 == 8) <|
   fm_b1 (m_X8_at kap lam q17 a1 0 S) fun x22 =>
   some x22
  )
set_option maxHeartbeats 4000000 in
set_option maxRecDepth 100000 in
theorem c_X11_trace {l : Launch} {D : va_G} {ids kap lam : Nat → Nat} {RL : List Nat} {ad sk sv : Nat → Nat} {S : fm_M} {r0 : Nat} {a1 : Int32} {r : Int32} (hE : fm_E kap RL ad) (hf : m_X11_trace kap lam r0 a1 S = some r) (sz : Nat) : fm_MI l y_X11_trace prog_1_method_30_code 2 (Option.some Jvm.ClassFile.FieldType.int) 3 D ids kap lam RL ad sk sv S [.ref (ad r0), .int a1] sz r S := by
  refine fm_open rfl hE (Nat.le_of_ble_eq_true rfl) (fun p e s m args below meth c ls Z hr hlk G F N hl hsz => ?_)
  subst hsz
  obtain ⟨hx, hb, hml, hown, hts⟩ := id Z
  have hl : lv_has ls 2 [(0, .ref (ad r0)), (1, .int a1)] := hl
  unfold m_X11_trace at hf
  refine lv_iload_n hx hb d_X11_trace_0 rfl (lv_at hl 1 rfl) ?_
  refine lv_aload_n hx hb d_X11_trace_1 rfl (lv_at hl 0 rfl) ?_
  refine fm_rgr Z G F hf fr_X11_75 d_X11_trace_2 (fun q2 _ hf => ?_)
  obtain ⟨hk5, hf⟩ := fm_some hf
  refine fm_rcr G F hf (fun r ho => fm_runV (k := 0) Z G F N (As := []) (rest := [.int a1]) (c_X8_size hE ho _) (by rw [eq_of_beq hk5]; decide) (by rw [eq_of_beq hk5]; rfl) kw_193 kw_194 kw_195 kw_3 kw_196 yd_X8_size rfl (by decide) (by decide) hl.1 (Nat.le_of_ble_eq_true rfl) d_X11_trace_5 (Nat.le_refl 0) (Nat.le_refl 0)) (fun x5 H locs _ F hf => ?_)
  refine lv_iconst (v := 1) hx hb d_X11_trace_8 (by decide) ?_
  refine lv_isub hx hb d_X11_trace_9 ?_
  refine fm_rcr G F hf (fun r ho => fm_runS (k := 2) Z G F N (As := [.int a1, .int (x5 - 1)]) (rest := []) (c_X11_isWithin hE ho _) kw_182 kw_183 kw_1 kw_184 yd_X11_isWithin rfl (by decide) (by decide) hl.1 (Nat.le_of_ble_eq_true rfl) d_X11_trace_10 (Nat.le_refl 0) (Nat.le_refl 0)) (fun x10 H locs _ F hf => ?_)
  refine lv_if_eq (tgt := 28) hx hb d_X11_trace_13 (by decide) (fun c13 => ?_) (fun c13 => ?_)
  · have hf := fm_ip c13 hf
    refine lv_iconst (v := (-1)) hx hb d_X11_trace_28 (by decide) ?_
    exact fm_reti Z hr hlk F d_X11_trace_29 (Option.some.inj hf) rfl
  · have hf := fm_ig c13 hf
    refine lv_aload_n hx hb d_X11_trace_16 rfl (lv_at hl 0 rfl) ?_
    refine fm_rgr Z G F hf fr_X11_75 d_X11_trace_17 (fun q17 _ hf => ?_)
    refine lv_iload_n hx hb d_X11_trace_20 rfl (lv_at hl 1 rfl) ?_
    refine lv_iconst (v := 0) hx hb d_X11_trace_21 (by decide) ?_
    obtain ⟨hk22, hf⟩ := fm_some hf
    refine fm_rcr G F hf (fun r ho => fm_runV (k := 2) Z G F N (As := [.int a1, .int 0]) (rest := []) (c_X8_at hE ho _) (by rw [eq_of_beq hk22]; decide) (by rw [eq_of_beq hk22]; rfl) kw_746 kw_211 kw_212 kw_3 kw_213 yd_X8_at rfl (by decide) (by decide) hl.1 (Nat.le_of_ble_eq_true rfl) d_X11_trace_22 (Nat.le_refl 0) (Nat.le_refl 0)) (fun x22 H locs _ F hf => ?_)
    refine lv_goto (tgt := 29) hx hb d_X11_trace_25 (by decide) ?_
    exact fm_reti Z hr hlk F d_X11_trace_29 (Option.some.inj hf) rfl
theorem d_X11_as_0 : decode prog_1_method_31_code 0 = .ok (.aload_n 0, 1) := by decide +kernel
theorem d_X11_as_1 : decode prog_1_method_31_code 1 = .ok (.iload_n 1, 1) := by decide +kernel
theorem d_X11_as_2 : decode prog_1_method_31_code 2 = .ok (.invokevirtual 115, 3) := by decide +kernel
theorem d_X11_as_5 : decode prog_1_method_31_code 5 = .ok (.ifCond .eq 12, 3) := by decide +kernel
theorem d_X11_as_8 : decode prog_1_method_31_code 8 = .ok (.iload_n 2, 1) := by decide +kernel
theorem d_X11_as_9 : decode prog_1_method_31_code 9 = .ok (.bipush 6, 2) := by decide +kernel
theorem d_X11_as_11 : decode prog_1_method_31_code 11 = .ok (.invokestatic 85, 3) := by decide +kernel
theorem d_X11_as_14 : decode prog_1_method_31_code 14 = .ok (.ifCond .ne 5, 3) := by decide +kernel
theorem d_X11_as_17 : decode prog_1_method_31_code 17 = .ok (.iconst (-1), 1) := by decide +kernel
theorem d_X11_as_18 : decode prog_1_method_31_code 18 = .ok (.ireturn, 1) := by decide +kernel
theorem d_X11_as_19 : decode prog_1_method_31_code 19 = .ok (.aload_n 0, 1) := by decide +kernel
theorem d_X11_as_20 : decode prog_1_method_31_code 20 = .ok (.getfield 13, 3) := by decide +kernel
theorem d_X11_as_23 : decode prog_1_method_31_code 23 = .ok (.iload_n 1, 1) := by decide +kernel
theorem d_X11_as_24 : decode prog_1_method_31_code 24 = .ok (.aaload, 1) := by decide +kernel
theorem d_X11_as_25 : decode prog_1_method_31_code 25 = .ok (.iload_n 2, 1) := by decide +kernel
theorem d_X11_as_26 : decode prog_1_method_31_code 26 = .ok (.invokestatic 227, 3) := by decide +kernel
theorem d_X11_as_29 : decode prog_1_method_31_code 29 = .ok (.ifCond .eq 15, 3) := by decide +kernel
theorem d_X11_as_32 : decode prog_1_method_31_code 32 = .ok (.aload_n 0, 1) := by decide +kernel
theorem d_X11_as_33 : decode prog_1_method_31_code 33 = .ok (.getfield 13, 3) := by decide +kernel
theorem d_X11_as_36 : decode prog_1_method_31_code 36 = .ok (.iload_n 1, 1) := by decide +kernel
theorem d_X11_as_37 : decode prog_1_method_31_code 37 = .ok (.aaload, 1) := by decide +kernel
theorem d_X11_as_38 : decode prog_1_method_31_code 38 = .ok (.getfield 122, 3) := by decide +kernel
theorem d_X11_as_41 : decode prog_1_method_31_code 41 = .ok (.goto 5, 3) := by decide +kernel
theorem d_X11_as_44 : decode prog_1_method_31_code 44 = .ok (.bipush (-6), 2) := by decide +kernel
theorem d_X11_as_46 : decode prog_1_method_31_code 46 = .ok (.ireturn, 1) := by decide +kernel
def m_X11_as (kap lam : Nat → Nat) (r0 : Nat) (a1 : Int32) (a2 : Int32) (S : fm_M) : Option Int32 :=
  fm_ck (kap r0 == 11) <|
  fm_b1 (m_X11_isPane kap lam r0 a1 S) fun x2 =>
  if x2 = 0 then (
   some (-1)
  ) else (
   fm_b1 (m_X11_isWithin kap lam a2 6 S) fun x11 =>
   if x11 = 0 then (
    some (-1)
   ) else (
    fm_gr kap 11 r0 0 S fun q20 =>
    fm_lr kap lam 16 q20 a1 S fun q24 =>
    fm_b1 (m_X11_isTakenFor kap lam q24 a2 S) fun x26 =>
    if x26 = 0 then (
     some (-6)
    ) else (
     fm_gr kap 11 r0 0 S fun q33 =>
     fm_lr kap lam 16 q33 a1 S fun q37 =>
     fm_gi kap 5 q37 2 S fun x38 =>
     some x38
    )
   )
  )
set_option maxHeartbeats 4000000 in
set_option maxRecDepth 100000 in
theorem c_X11_as {l : Launch} {D : va_G} {ids kap lam : Nat → Nat} {RL : List Nat} {ad sk sv : Nat → Nat} {S : fm_M} {r0 : Nat} {a1 : Int32} {a2 : Int32} {r : Int32} (hE : fm_E kap RL ad) (hf : m_X11_as kap lam r0 a1 a2 S = some r) (sz : Nat) : fm_MI l y_X11_as prog_1_method_31_code 3 (Option.some Jvm.ClassFile.FieldType.int) 2 D ids kap lam RL ad sk sv S [.ref (ad r0), .int a1, .int a2] sz r S := by
  refine fm_open rfl hE (Nat.le_of_ble_eq_true rfl) (fun p e s m args below meth c ls Z hr hlk G F N hl hsz => ?_)
  subst hsz
  obtain ⟨hx, hb, hml, hown, hts⟩ := id Z
  have hl : lv_has ls 3 [(0, .ref (ad r0)), (1, .int a1), (2, .int a2)] := hl
  unfold m_X11_as at hf
  refine lv_aload_n hx hb d_X11_as_0 rfl (lv_at hl 0 rfl) ?_
  refine lv_iload_n hx hb d_X11_as_1 rfl (lv_at hl 1 rfl) ?_
  obtain ⟨hk2, hf⟩ := fm_some hf
  refine fm_rcr G F hf (fun r ho => fm_runV (k := 1) Z G F N (As := [.int a1]) (rest := []) (c_X11_isPane hE ho _) (by rw [eq_of_beq hk2]; decide) (by rw [eq_of_beq hk2]; rfl) kw_546 kw_548 kp_9 kw_1 kw_549 yd_X11_isPane rfl (by decide) (by decide) hl.1 (Nat.le_of_ble_eq_true rfl) d_X11_as_2 (Nat.le_refl 0) (Nat.le_refl 0)) (fun x2 H locs _ F hf => ?_)
  refine lv_if_eq (tgt := 17) hx hb d_X11_as_5 (by decide) (fun c5 => ?_) (fun c5 => ?_)
  · have hf := fm_ip c5 hf
    refine lv_iconst (v := (-1)) hx hb d_X11_as_17 (by decide) ?_
    exact fm_reti Z hr hlk F d_X11_as_18 (Option.some.inj hf) rfl
  · have hf := fm_ig c5 hf
    refine lv_iload_n hx hb d_X11_as_8 rfl (lv_at hl 2 rfl) ?_
    refine lv_bipush (v := 6) hx hb d_X11_as_9 (by decide) ?_
    refine fm_rcr G F hf (fun r ho => fm_runS (k := 2) Z G F N (As := [.int a2, .int 6]) (rest := []) (c_X11_isWithin hE ho _) kw_182 kw_183 kw_1 kw_184 yd_X11_isWithin rfl (by decide) (by decide) hl.1 (Nat.le_of_ble_eq_true rfl) d_X11_as_11 (Nat.le_refl 0) (Nat.le_refl 0)) (fun x11 H locs _ F hf => ?_)
    refine lv_if_ne (tgt := 19) hx hb d_X11_as_14 (by decide) (fun c14 => ?_) (fun c14 => ?_)
    · have hf := fm_ig c14 hf
      refine lv_aload_n hx hb d_X11_as_19 rfl (lv_at hl 0 rfl) ?_
      refine fm_rgr Z G F hf fr_X11_13 d_X11_as_20 (fun q20 _ hf => ?_)
      refine lv_iload_n hx hb d_X11_as_23 rfl (lv_at hl 1 rfl) ?_
      refine fm_rlr Z G F (by decide) (by decide) hf d_X11_as_24 (fun q24 _ hf => ?_)
      refine lv_iload_n hx hb d_X11_as_25 rfl (lv_at hl 2 rfl) ?_
      refine fm_rcr G F hf (fun r ho => fm_runS (k := 2) Z G F N (As := [.ref (ad q24), .int a2]) (rest := []) (c_X11_isTakenFor hE ho _) kw_871 kw_872 kw_1 kw_873 yd_X11_isTakenFor rfl (by decide) (by decide) hl.1 (Nat.le_of_ble_eq_true rfl) d_X11_as_26 (Nat.le_refl 0) (Nat.le_refl 0)) (fun x26 H locs _ F hf => ?_)
      refine lv_if_eq (tgt := 44) hx hb d_X11_as_29 (by decide) (fun c29 => ?_) (fun c29 => ?_)
      · have hf := fm_ip c29 hf
        refine lv_bipush (v := (-6)) hx hb d_X11_as_44 (by decide) ?_
        exact fm_reti Z hr hlk F d_X11_as_46 (Option.some.inj hf) rfl
      · have hf := fm_ig c29 hf
        refine lv_aload_n hx hb d_X11_as_32 rfl (lv_at hl 0 rfl) ?_
        refine fm_rgr Z G F hf fr_X11_13 d_X11_as_33 (fun q33 _ hf => ?_)
        refine lv_iload_n hx hb d_X11_as_36 rfl (lv_at hl 1 rfl) ?_
        refine fm_rlr Z G F (by decide) (by decide) hf d_X11_as_37 (fun q37 _ hf => ?_)
        refine fm_rgi Z G F hf fr_X11_122 d_X11_as_38 (fun x38 _ hf => ?_)
        refine lv_goto (tgt := 46) hx hb d_X11_as_41 (by decide) ?_
        exact fm_reti Z hr hlk F d_X11_as_46 (Option.some.inj hf) rfl
    · have hf := fm_ip c14 hf
      refine lv_iconst (v := (-1)) hx hb d_X11_as_17 (by decide) ?_
      exact fm_reti Z hr hlk F d_X11_as_18 (Option.some.inj hf) rfl
theorem d_X11_image_0 : decode prog_1_method_32_code 0 = .ok (.iconst 0, 1) := by decide +kernel
theorem d_X11_image_1 : decode prog_1_method_32_code 1 = .ok (.istore_n 1, 1) := by decide +kernel
theorem d_X11_image_2 : decode prog_1_method_32_code 2 = .ok (.iload_n 1, 1) := by decide +kernel
theorem d_X11_image_3 : decode prog_1_method_32_code 3 = .ok (.aload_n 0, 1) := by decide +kernel
theorem d_X11_image_4 : decode prog_1_method_32_code 4 = .ok (.getfield 23, 3) := by decide +kernel
theorem d_X11_image_7 : decode prog_1_method_32_code 7 = .ok (.if_icmp .ge 18, 3) := by decide +kernel
theorem d_X11_image_10 : decode prog_1_method_32_code 10 = .ok (.aload_n 0, 1) := by decide +kernel
theorem d_X11_image_11 : decode prog_1_method_32_code 11 = .ok (.getfield 13, 3) := by decide +kernel
theorem d_X11_image_14 : decode prog_1_method_32_code 14 = .ok (.iload_n 1, 1) := by decide +kernel
theorem d_X11_image_15 : decode prog_1_method_32_code 15 = .ok (.aaload, 1) := by decide +kernel
theorem d_X11_image_16 : decode prog_1_method_32_code 16 = .ok (.invokevirtual 231, 3) := by decide +kernel
theorem d_X11_image_19 : decode prog_1_method_32_code 19 = .ok (.iinc 1 1, 3) := by decide +kernel
theorem d_X11_image_22 : decode prog_1_method_32_code 22 = .ok (.goto (-20), 3) := by decide +kernel
theorem d_X11_image_25 : decode prog_1_method_32_code 25 = .ok (.aload_n 0, 1) := by decide +kernel
theorem d_X11_image_26 : decode prog_1_method_32_code 26 = .ok (.getfield 46, 3) := by decide +kernel
theorem d_X11_image_29 : decode prog_1_method_32_code 29 = .ok (.invokevirtual 234, 3) := by decide +kernel
theorem d_X11_image_32 : decode prog_1_method_32_code 32 = .ok (.aload_n 0, 1) := by decide +kernel
theorem d_X11_image_33 : decode prog_1_method_32_code 33 = .ok (.getfield 66, 3) := by decide +kernel
theorem d_X11_image_36 : decode prog_1_method_32_code 36 = .ok (.invokevirtual 234, 3) := by decide +kernel
theorem d_X11_image_39 : decode prog_1_method_32_code 39 = .ok (.aload_n 0, 1) := by decide +kernel
theorem d_X11_image_40 : decode prog_1_method_32_code 40 = .ok (.getfield 69, 3) := by decide +kernel
theorem d_X11_image_43 : decode prog_1_method_32_code 43 = .ok (.invokevirtual 234, 3) := by decide +kernel
theorem d_X11_image_46 : decode prog_1_method_32_code 46 = .ok (.aload_n 0, 1) := by decide +kernel
theorem d_X11_image_47 : decode prog_1_method_32_code 47 = .ok (.getfield 72, 3) := by decide +kernel
theorem d_X11_image_50 : decode prog_1_method_32_code 50 = .ok (.invokevirtual 234, 3) := by decide +kernel
theorem d_X11_image_53 : decode prog_1_method_32_code 53 = .ok (.aload_n 0, 1) := by decide +kernel
theorem d_X11_image_54 : decode prog_1_method_32_code 54 = .ok (.getfield 78, 3) := by decide +kernel
theorem d_X11_image_57 : decode prog_1_method_32_code 57 = .ok (.invokevirtual 105, 3) := by decide +kernel
theorem d_X11_image_60 : decode prog_1_method_32_code 60 = .ok (.pop, 1) := by decide +kernel
theorem d_X11_image_61 : decode prog_1_method_32_code 61 = .ok (.aload_n 0, 1) := by decide +kernel
theorem d_X11_image_62 : decode prog_1_method_32_code 62 = .ok (.getfield 78, 3) := by decide +kernel
theorem d_X11_image_65 : decode prog_1_method_32_code 65 = .ok (.aload_n 0, 1) := by decide +kernel
theorem d_X11_image_66 : decode prog_1_method_32_code 66 = .ok (.getfield 23, 3) := by decide +kernel
theorem d_X11_image_69 : decode prog_1_method_32_code 69 = .ok (.aload_n 0, 1) := by decide +kernel
theorem d_X11_image_70 : decode prog_1_method_32_code 70 = .ok (.getfield 38, 3) := by decide +kernel
theorem d_X11_image_73 : decode prog_1_method_32_code 73 = .ok (.iconst 0, 1) := by decide +kernel
theorem d_X11_image_74 : decode prog_1_method_32_code 74 = .ok (.invokevirtual 93, 3) := by decide +kernel
theorem d_X11_image_77 : decode prog_1_method_32_code 77 = .ok (.pop, 1) := by decide +kernel
theorem d_X11_image_78 : decode prog_1_method_32_code 78 = .ok (.aload_n 0, 1) := by decide +kernel
theorem d_X11_image_79 : decode prog_1_method_32_code 79 = .ok (.getfield 78, 3) := by decide +kernel
theorem d_X11_image_82 : decode prog_1_method_32_code 82 = .ok (.aload_n 0, 1) := by decide +kernel
theorem d_X11_image_83 : decode prog_1_method_32_code 83 = .ok (.getfield 57, 3) := by decide +kernel
theorem d_X11_image_86 : decode prog_1_method_32_code 86 = .ok (.aload_n 0, 1) := by decide +kernel
theorem d_X11_image_87 : decode prog_1_method_32_code 87 = .ok (.getfield 60, 3) := by decide +kernel
theorem d_X11_image_90 : decode prog_1_method_32_code 90 = .ok (.aload_n 0, 1) := by decide +kernel
theorem d_X11_image_91 : decode prog_1_method_32_code 91 = .ok (.getfield 63, 3) := by decide +kernel
theorem d_X11_image_94 : decode prog_1_method_32_code 94 = .ok (.invokevirtual 93, 3) := by decide +kernel
theorem d_X11_image_97 : decode prog_1_method_32_code 97 = .ok (.pop, 1) := by decide +kernel
theorem d_X11_image_98 : decode prog_1_method_32_code 98 = .ok (.aload_n 0, 1) := by decide +kernel
theorem d_X11_image_99 : decode prog_1_method_32_code 99 = .ok (.getfield 23, 3) := by decide +kernel
theorem d_X11_image_102 : decode prog_1_method_32_code 102 = .ok (.ireturn, 1) := by decide +kernel
def k_X11_image_2 (kap lam : Nat → Nat) (go2 : Nat → Int32 → fm_M → Option (Int32 × fm_M)) (r0 : Nat) (a1 : Int32)  (S : fm_M) : Option (Int32 × fm_M) :=
  fm_gi kap 11 r0 2 S fun x4 =>
  if x4 ≤ a1 then (
   fm_gr kap 11 r0 6 S fun q26 =>
   fm_ck (kap q26 == 8) <|
   fm_b1 (m_X8_keep kap lam q26 S) fun S29 =>
   fm_gr kap 11 r0 11 S29 fun q33 =>
   fm_ck (kap q33 == 8) <|
   fm_b1 (m_X8_keep kap lam q33 S29) fun S36 =>
   fm_gr kap 11 r0 12 S36 fun q40 =>
   fm_ck (kap q40 == 8) <|
   fm_b1 (m_X8_keep kap lam q40 S36) fun S43 =>
   fm_gr kap 11 r0 13 S43 fun q47 =>
   fm_ck (kap q47 == 8) <|
   fm_b1 (m_X8_keep kap lam q47 S43) fun S50 =>
   fm_gr kap 11 r0 15 S50 fun q54 =>
   fm_ck (kap q54 == 8) <|
   fm_bi (m_X8_clear kap lam q54 S50) fun x57 S57 =>
   fm_gr kap 11 r0 15 S57 fun q62 =>
   fm_gi kap 11 r0 2 S57 fun x66 =>
   fm_gi kap 11 r0 5 S57 fun x70 =>
   fm_ck (kap q62 == 8) <|
   fm_bi (m_X8_add kap lam q62 x66 x70 0 S57) fun x74 S74 =>
   fm_gr kap 11 r0 15 S74 fun q79 =>
   fm_gi kap 11 r0 8 S74 fun x83 =>
   fm_gi kap 11 r0 9 S74 fun x87 =>
   fm_gi kap 11 r0 10 S74 fun x91 =>
   fm_ck (kap q79 == 8) <|
   fm_bi (m_X8_add kap lam q79 x83 x87 x91 S74) fun x94 S94 =>
   fm_gi kap 11 r0 2 S94 fun x99 =>
   some (x99, S94)
  ) else (
   fm_gr kap 11 r0 0 S fun q11 =>
   fm_lr kap lam 16 q11 a1 S fun q15 =>
   fm_b1 (v_keep kap lam q15 S) fun S16 =>
   fm_let (a1 + 1 : Int32) fun x19 =>
   go2 r0 x19 S16
  )
def b_X11_image_2 (kap lam : Nat → Nat) : Nat → Nat → Int32 → fm_M → Option (Int32 × fm_M)
  | 0 => fun _ _ _ => none
  | n + 1 => k_X11_image_2 kap lam (b_X11_image_2 kap lam n)
def m_X11_image (kap lam : Nat → Nat) (r0 : Nat) (S : fm_M) : Option (Int32 × fm_M) :=
  fm_let (0 : Int32) fun x1 =>
  b_X11_image_2 kap lam fm_LF r0 x1 S
set_option maxHeartbeats 4000000 in
set_option maxRecDepth 100000 in
theorem c_X11_image {l : Launch} {D : va_G} {ids kap lam : Nat → Nat} {RL : List Nat} {ad sk sv : Nat → Nat} {S : fm_M} {r0 : Nat} {r : Int32} {u : fm_M} (hE : fm_E kap RL ad) (hf : m_X11_image kap lam r0 S = some (r, u)) (sz : Nat) : fm_MI l y_X11_image prog_1_method_32_code 2 (Option.some Jvm.ClassFile.FieldType.int) 2 D ids kap lam RL ad sk sv S [.ref (ad r0)] sz r u := by
  refine fm_open rfl hE (Nat.le_of_ble_eq_true rfl) (fun p e s m args below meth c ls Z hr hlk G F N hl hsz => ?_)
  subst hsz
  obtain ⟨hx, hb, hml, hown, hts⟩ := id Z
  have hl : lv_has ls 2 [(0, .ref (ad r0))] := hl
  generalize hQ : MQ below _ args s 0 0 (fm_A RL ad s.heap.size) = Qf
  have hL : ∀ n : Nat, (∀ (r0 : Nat) (a1 : Int32)  (S : fm_M) (H : Heap) (locs : List Loc) (ls : Array Slot), fm_F D ids kap lam RL ad S (fm_A RL ad s.heap.size) s.heap H locs → lv_has ls 2 [(0, .ref (ad r0)), (1, .int a1)] → b_X11_image_2 kap lam n r0 a1 S = some (r, u) → W p l e (fm_rm 2) s m args below meth c H locs 0 0 Qf (F0 m 2 ls [])) := by
    intro n
    induction n with
    | zero => exact fun _ _ _ _ _ _ _ _ hf => absurd hf (by intro h; cases h)
    | succ n ih =>
      intro r0 a1 S H locs ls F hl hf
      have hf : k_X11_image_2 kap lam (b_X11_image_2 kap lam n) r0 a1 S = some (r, u) := hf
      unfold k_X11_image_2 at hf
      refine lv_iload_n hx hb d_X11_image_2 rfl (lv_at hl 1 rfl) ?_
      refine lv_aload_n hx hb d_X11_image_3 rfl (lv_at hl 0 rfl) ?_
      refine fm_rgi Z G F hf fr_X11_23 d_X11_image_4 (fun x4 _ hf => ?_)
      refine lv_icmp_ge (tgt := 25) hx hb d_X11_image_7 (by decide) (fun c7 => ?_) (fun c7 => ?_)
      · have hf := fm_ip c7 hf
        refine lv_aload_n hx hb d_X11_image_25 rfl (lv_at hl 0 rfl) ?_
        refine fm_rgr Z G F hf fr_X11_46 d_X11_image_26 (fun q26 _ hf => ?_)
        obtain ⟨hk29, hf⟩ := fm_some hf
        refine fm_rcv G F hf (fun u ho => fm_runV (k := 0) Z G F N (As := []) (rest := []) (c_X8_keep hE ho _) (by rw [eq_of_beq hk29]; decide) (by rw [eq_of_beq hk29]; rfl) kw_897 kw_898 kw_899 kw_3 kw_900 yd_X8_keep rfl (by decide) (by decide) hl.1 (Nat.le_of_ble_eq_true rfl) d_X11_image_29 (Nat.le_refl 0) (Nat.le_refl 0)) (fun S29 H locs _ F hf => ?_)
        refine lv_aload_n hx hb d_X11_image_32 rfl (lv_at hl 0 rfl) ?_
        refine fm_rgr Z G F hf fr_X11_66 d_X11_image_33 (fun q33 _ hf => ?_)
        obtain ⟨hk36, hf⟩ := fm_some hf
        refine fm_rcv G F hf (fun u ho => fm_runV (k := 0) Z G F N (As := []) (rest := []) (c_X8_keep hE ho _) (by rw [eq_of_beq hk36]; decide) (by rw [eq_of_beq hk36]; rfl) kw_897 kw_898 kw_899 kw_3 kw_900 yd_X8_keep rfl (by decide) (by decide) hl.1 (Nat.le_of_ble_eq_true rfl) d_X11_image_36 (Nat.le_refl 0) (Nat.le_refl 0)) (fun S36 H locs _ F hf => ?_)
        refine lv_aload_n hx hb d_X11_image_39 rfl (lv_at hl 0 rfl) ?_
        refine fm_rgr Z G F hf fr_X11_69 d_X11_image_40 (fun q40 _ hf => ?_)
        obtain ⟨hk43, hf⟩ := fm_some hf
        refine fm_rcv G F hf (fun u ho => fm_runV (k := 0) Z G F N (As := []) (rest := []) (c_X8_keep hE ho _) (by rw [eq_of_beq hk43]; decide) (by rw [eq_of_beq hk43]; rfl) kw_897 kw_898 kw_899 kw_3 kw_900 yd_X8_keep rfl (by decide) (by decide) hl.1 (Nat.le_of_ble_eq_true rfl) d_X11_image_43 (Nat.le_refl 0) (Nat.le_refl 0)) (fun S43 H locs _ F hf => ?_)
        refine lv_aload_n hx hb d_X11_image_46 rfl (lv_at hl 0 rfl) ?_
        refine fm_rgr Z G F hf fr_X11_72 d_X11_image_47 (fun q47 _ hf => ?_)
        obtain ⟨hk50, hf⟩ := fm_some hf
        refine fm_rcv G F hf (fun u ho => fm_runV (k := 0) Z G F N (As := []) (rest := []) (c_X8_keep hE ho _) (by rw [eq_of_beq hk50]; decide) (by rw [eq_of_beq hk50]; rfl) kw_897 kw_898 kw_899 kw_3 kw_900 yd_X8_keep rfl (by decide) (by decide) hl.1 (Nat.le_of_ble_eq_true rfl) d_X11_image_50 (Nat.le_refl 0) (Nat.le_refl 0)) (fun S50 H locs _ F hf => ?_)
        refine lv_aload_n hx hb d_X11_image_53 rfl (lv_at hl 0 rfl) ?_
        refine fm_rgr Z G F hf fr_X11_78 d_X11_image_54 (fun q54 _ hf => ?_)
        obtain ⟨hk57, hf⟩ := fm_some hf
        refine fm_rci G F hf (fun r u ho => fm_runV (k := 0) Z G F N (As := []) (rest := []) (c_X8_clear hE ho _) (by rw [eq_of_beq hk57]; decide) (by rw [eq_of_beq hk57]; rfl) kw_315 kw_316 kw_317 kw_3 kw_318 yd_X8_clear rfl (by decide) (by decide) hl.1 (Nat.le_of_ble_eq_true rfl) d_X11_image_57 (Nat.le_refl 0) (Nat.le_refl 0)) (fun x57 S57 H locs _ F hf => ?_)
        refine lv_pop hx hb d_X11_image_60 rfl ?_
        refine lv_aload_n hx hb d_X11_image_61 rfl (lv_at hl 0 rfl) ?_
        refine fm_rgr Z G F hf fr_X11_78 d_X11_image_62 (fun q62 _ hf => ?_)
        refine lv_aload_n hx hb d_X11_image_65 rfl (lv_at hl 0 rfl) ?_
        refine fm_rgi Z G F hf fr_X11_23 d_X11_image_66 (fun x66 _ hf => ?_)
        refine lv_aload_n hx hb d_X11_image_69 rfl (lv_at hl 0 rfl) ?_
        refine fm_rgi Z G F hf fr_X11_38 d_X11_image_70 (fun x70 _ hf => ?_)
        refine lv_iconst (v := 0) hx hb d_X11_image_73 (by decide) ?_
        obtain ⟨hk74, hf⟩ := fm_some hf
        refine fm_rci G F hf (fun r u ho => fm_runV (k := 3) Z G F N (As := [.int x66, .int x70, .int 0]) (rest := []) (c_X8_add hE ho _) (by rw [eq_of_beq hk74]; decide) (by rw [eq_of_beq hk74]; rfl) kw_189 kw_190 kw_191 kw_3 kw_192 yd_X8_add rfl (by decide) (by decide) hl.1 (Nat.le_of_ble_eq_true rfl) d_X11_image_74 (Nat.le_refl 0) (Nat.le_refl 0)) (fun x74 S74 H locs _ F hf => ?_)
        refine lv_pop hx hb d_X11_image_77 rfl ?_
        refine lv_aload_n hx hb d_X11_image_78 rfl (lv_at hl 0 rfl) ?_
        refine fm_rgr Z G F hf fr_X11_78 d_X11_image_79 (fun q79 _ hf => ?_)
        refine lv_aload_n hx hb d_X11_image_82 rfl (lv_at hl 0 rfl) ?_
        refine fm_rgi Z G F hf fr_X11_57 d_X11_image_83 (fun x83 _ hf => ?_)
        refine lv_aload_n hx hb d_X11_image_86 rfl (lv_at hl 0 rfl) ?_
        refine fm_rgi Z G F hf fr_X11_60 d_X11_image_87 (fun x87 _ hf => ?_)
        refine lv_aload_n hx hb d_X11_image_90 rfl (lv_at hl 0 rfl) ?_
        refine fm_rgi Z G F hf fr_X11_63 d_X11_image_91 (fun x91 _ hf => ?_)
        obtain ⟨hk94, hf⟩ := fm_some hf
        refine fm_rci G F hf (fun r u ho => fm_runV (k := 3) Z G F N (As := [.int x83, .int x87, .int x91]) (rest := []) (c_X8_add hE ho _) (by rw [eq_of_beq hk94]; decide) (by rw [eq_of_beq hk94]; rfl) kw_189 kw_190 kw_191 kw_3 kw_192 yd_X8_add rfl (by decide) (by decide) hl.1 (Nat.le_of_ble_eq_true rfl) d_X11_image_94 (Nat.le_refl 0) (Nat.le_refl 0)) (fun x94 S94 H locs _ F hf => ?_)
        refine lv_pop hx hb d_X11_image_97 rfl ?_
        refine lv_aload_n hx hb d_X11_image_98 rfl (lv_at hl 0 rfl) ?_
        refine fm_rgi Z G F hf fr_X11_23 d_X11_image_99 (fun x99 _ hf => ?_)
        rw [← hQ]; exact fm_reti Z hr hlk F d_X11_image_102 (Prod.mk.inj (Option.some.inj hf)).1 (Prod.mk.inj (Option.some.inj hf)).2
      · have hf := fm_ig c7 hf
        refine lv_aload_n hx hb d_X11_image_10 rfl (lv_at hl 0 rfl) ?_
        refine fm_rgr Z G F hf fr_X11_13 d_X11_image_11 (fun q11 _ hf => ?_)
        refine lv_iload_n hx hb d_X11_image_14 rfl (lv_at hl 1 rfl) ?_
        refine fm_rlr Z G F (by decide) (by decide) hf d_X11_image_15 (fun q15 _ hf => ?_)
        refine fm_rcv (rest := []) (a := (Value.ref (ad q15) :: []).toArray) G F hf (fun u ho => ?_) (fun S16 H locs _ F hf => ?_)
        · unfold v_keep at ho
          by_cases hv16_0 : kap q15 = 0
          · rw [if_pos hv16_0] at ho
            exact fm_runU (k := 0) Z G F N (As := []) (rest := []) (x := (⟨"FrostBids$Pane", "keep", "()V"⟩ : MethodName)) (C := "FrostBids$Church") (owner := "FrostBids$Pane") (c_X5_keep hE ho _) (by rw [hv16_0]; decide) (by rw [hv16_0]; rfl) kw_878 kw_881 kw_879 kw_896 kw_882 kw_879 kw_11 kw_896 ⟨by decide +kernel, by decide +kernel, by decide +kernel⟩ rfl (by decide) (by decide) hl.1 (Nat.le_of_ble_eq_true rfl) d_X11_image_16 (Nat.le_refl 0) (Nat.le_refl 0)
          rw [if_neg hv16_0] at ho
          by_cases hv16_2 : kap q15 = 2
          · rw [if_pos hv16_2] at ho
            exact fm_runU (k := 0) Z G F N (As := []) (rest := []) (x := (⟨"FrostBids$Pane", "keep", "()V"⟩ : MethodName)) (C := "FrostBids$Jail") (owner := "FrostBids$Pane") (c_X5_keep hE ho _) (by rw [hv16_2]; decide) (by rw [hv16_2]; rfl) kw_878 kw_881 kw_879 kw_896 kw_883 kw_879 kw_11 kw_896 ⟨by decide +kernel, by decide +kernel, by decide +kernel⟩ rfl (by decide) (by decide) hl.1 (Nat.le_of_ble_eq_true rfl) d_X11_image_16 (Nat.le_refl 0) (Nat.le_refl 0)
          rw [if_neg hv16_2] at ho
          by_cases hv16_3 : kap q15 = 3
          · rw [if_pos hv16_3] at ho
            exact fm_runU (k := 0) Z G F N (As := []) (rest := []) (x := (⟨"FrostBids$Pane", "keep", "()V"⟩ : MethodName)) (C := "FrostBids$Kitchen") (owner := "FrostBids$Pane") (c_X5_keep hE ho _) (by rw [hv16_3]; decide) (by rw [hv16_3]; rfl) kw_878 kw_881 kw_879 kw_896 kw_884 kw_879 kw_11 kw_896 ⟨by decide +kernel, by decide +kernel, by decide +kernel⟩ rfl (by decide) (by decide) hl.1 (Nat.le_of_ble_eq_true rfl) d_X11_image_16 (Nat.le_refl 0) (Nat.le_refl 0)
          rw [if_neg hv16_3] at ho
          by_cases hv16_4 : kap q15 = 4
          · rw [if_pos hv16_4] at ho
            exact fm_runU (k := 0) Z G F N (As := []) (rest := []) (x := (⟨"FrostBids$Pane", "keep", "()V"⟩ : MethodName)) (C := "FrostBids$Nursery") (owner := "FrostBids$Pane") (c_X5_keep hE ho _) (by rw [hv16_4]; decide) (by rw [hv16_4]; rfl) kw_878 kw_881 kw_879 kw_896 kw_885 kw_879 kw_11 kw_896 ⟨by decide +kernel, by decide +kernel, by decide +kernel⟩ rfl (by decide) (by decide) hl.1 (Nat.le_of_ble_eq_true rfl) d_X11_image_16 (Nat.le_refl 0) (Nat.le_refl 0)
          rw [if_neg hv16_4] at ho
          by_cases hv16_5 : kap q15 = 5
          · rw [if_pos hv16_5] at ho
            exact fm_runU (k := 0) Z G F N (As := []) (rest := []) (x := (⟨"FrostBids$Pane", "keep", "()V"⟩ : MethodName)) (C := "FrostBids$Pane") (owner := "FrostBids$Pane") (c_X5_keep hE ho _) (by rw [hv16_5]; decide) (by rw [hv16_5]; rfl) kw_878 kw_881 kw_879 kw_896 kw_880 kw_879 kw_11 kw_896 ⟨by decide +kernel, by decide +kernel, by decide +kernel⟩ rfl (by decide) (by decide) hl.1 (Nat.le_of_ble_eq_true rfl) d_X11_image_16 (Nat.le_refl 0) (Nat.le_refl 0)
          rw [if_neg hv16_5] at ho
          by_cases hv16_7 : kap q15 = 7
          · rw [if_pos hv16_7] at ho
            exact fm_runU (k := 0) Z G F N (As := []) (rest := []) (x := (⟨"FrostBids$Pane", "keep", "()V"⟩ : MethodName)) (C := "FrostBids$Rectory") (owner := "FrostBids$Pane") (c_X5_keep hE ho _) (by rw [hv16_7]; decide) (by rw [hv16_7]; rfl) kw_878 kw_881 kw_879 kw_896 kw_886 kw_879 kw_11 kw_896 ⟨by decide +kernel, by decide +kernel, by decide +kernel⟩ rfl (by decide) (by decide) hl.1 (Nat.le_of_ble_eq_true rfl) d_X11_image_16 (Nat.le_refl 0) (Nat.le_refl 0)
          rw [if_neg hv16_7] at ho
          by_cases hv16_9 : kap q15 = 9
          · rw [if_pos hv16_9] at ho
            exact fm_runU (k := 0) Z G F N (As := []) (rest := []) (x := (⟨"FrostBids$Pane", "keep", "()V"⟩ : MethodName)) (C := "FrostBids$Told") (owner := "FrostBids$Pane") (c_X9_keep hE ho _) (by rw [hv16_9]; decide) (by rw [hv16_9]; rfl) kw_878 kw_881 kw_879 kw_896 kw_887 kw_888 kw_17 kw_889 ⟨by decide +kernel, by decide +kernel, by decide +kernel⟩ rfl (by decide) (by decide) hl.1 (Nat.le_of_ble_eq_true rfl) d_X11_image_16 (Nat.le_refl 0) (Nat.le_refl 0)
          rw [if_neg hv16_9] at ho
          cases ho
        obtain ⟨x19, ex19⟩ : ∃ y : Int32, y = a1 + 1 := ⟨_, rfl⟩
        have hf := fm_let_at ex19 hf
        refine lv_iinc (v := x19) (lv' := [(1, .int x19), (0, .ref (ad r0))]) hx hb d_X11_image_19 hl (k := 1) rfl (by rw [ex19]; rfl) (by decide) rfl (fun ls hl => ?_)
        refine lv_goto (tgt := 2) hx hb d_X11_image_22 (by decide) ?_
        exact ih r0 x19 S16 _ _ _ F (lv_sub hl [1, 0] rfl) hf
  unfold m_X11_image at hf
  refine lv_iconst (v := 0) hx hb d_X11_image_0 (by decide) ?_
  refine lv_topi (fun x1 ex1 => ?_)
  have hf := fm_let_at ex1 hf
  refine lv_istore_n (lv' := [(1, .int x1), (0, .ref (ad r0))]) hx hb d_X11_image_1 rfl hl (by decide) rfl (fun ls hl => ?_)
  exact (hL fm_LF) r0 x1 S _ _ _ F (lv_sub hl [1, 0] rfl) hf
theorem d_X11_undo_0 : decode prog_1_method_33_code 0 = .ok (.aload_n 0, 1) := by decide +kernel
theorem d_X11_undo_1 : decode prog_1_method_33_code 1 = .ok (.getfield 78, 3) := by decide +kernel
theorem d_X11_undo_4 : decode prog_1_method_33_code 4 = .ok (.invokevirtual 97, 3) := by decide +kernel
theorem d_X11_undo_7 : decode prog_1_method_33_code 7 = .ok (.ifCond .ne 6, 3) := by decide +kernel
theorem d_X11_undo_10 : decode prog_1_method_33_code 10 = .ok (.bipush (-3), 2) := by decide +kernel
theorem d_X11_undo_12 : decode prog_1_method_33_code 12 = .ok (.ireturn, 1) := by decide +kernel
theorem d_X11_undo_13 : decode prog_1_method_33_code 13 = .ok (.aload_n 0, 1) := by decide +kernel
theorem d_X11_undo_14 : decode prog_1_method_33_code 14 = .ok (.aload_n 0, 1) := by decide +kernel
theorem d_X11_undo_15 : decode prog_1_method_33_code 15 = .ok (.getfield 78, 3) := by decide +kernel
theorem d_X11_undo_18 : decode prog_1_method_33_code 18 = .ok (.iconst 0, 1) := by decide +kernel
theorem d_X11_undo_19 : decode prog_1_method_33_code 19 = .ok (.iconst 0, 1) := by decide +kernel
theorem d_X11_undo_20 : decode prog_1_method_33_code 20 = .ok (.invokevirtual 215, 3) := by decide +kernel
theorem d_X11_undo_23 : decode prog_1_method_33_code 23 = .ok (.putfield 23, 3) := by decide +kernel
theorem d_X11_undo_26 : decode prog_1_method_33_code 26 = .ok (.aload_n 0, 1) := by decide +kernel
theorem d_X11_undo_27 : decode prog_1_method_33_code 27 = .ok (.aload_n 0, 1) := by decide +kernel
theorem d_X11_undo_28 : decode prog_1_method_33_code 28 = .ok (.getfield 78, 3) := by decide +kernel
theorem d_X11_undo_31 : decode prog_1_method_33_code 31 = .ok (.iconst 0, 1) := by decide +kernel
theorem d_X11_undo_32 : decode prog_1_method_33_code 32 = .ok (.iconst 1, 1) := by decide +kernel
theorem d_X11_undo_33 : decode prog_1_method_33_code 33 = .ok (.invokevirtual 215, 3) := by decide +kernel
theorem d_X11_undo_36 : decode prog_1_method_33_code 36 = .ok (.putfield 38, 3) := by decide +kernel
theorem d_X11_undo_39 : decode prog_1_method_33_code 39 = .ok (.aload_n 0, 1) := by decide +kernel
theorem d_X11_undo_40 : decode prog_1_method_33_code 40 = .ok (.aload_n 0, 1) := by decide +kernel
theorem d_X11_undo_41 : decode prog_1_method_33_code 41 = .ok (.getfield 78, 3) := by decide +kernel
theorem d_X11_undo_44 : decode prog_1_method_33_code 44 = .ok (.iconst 1, 1) := by decide +kernel
theorem d_X11_undo_45 : decode prog_1_method_33_code 45 = .ok (.iconst 0, 1) := by decide +kernel
theorem d_X11_undo_46 : decode prog_1_method_33_code 46 = .ok (.invokevirtual 215, 3) := by decide +kernel
theorem d_X11_undo_49 : decode prog_1_method_33_code 49 = .ok (.putfield 57, 3) := by decide +kernel
theorem d_X11_undo_52 : decode prog_1_method_33_code 52 = .ok (.aload_n 0, 1) := by decide +kernel
theorem d_X11_undo_53 : decode prog_1_method_33_code 53 = .ok (.aload_n 0, 1) := by decide +kernel
theorem d_X11_undo_54 : decode prog_1_method_33_code 54 = .ok (.getfield 78, 3) := by decide +kernel
theorem d_X11_undo_57 : decode prog_1_method_33_code 57 = .ok (.iconst 1, 1) := by decide +kernel
theorem d_X11_undo_58 : decode prog_1_method_33_code 58 = .ok (.iconst 1, 1) := by decide +kernel
theorem d_X11_undo_59 : decode prog_1_method_33_code 59 = .ok (.invokevirtual 215, 3) := by decide +kernel
theorem d_X11_undo_62 : decode prog_1_method_33_code 62 = .ok (.putfield 60, 3) := by decide +kernel
theorem d_X11_undo_65 : decode prog_1_method_33_code 65 = .ok (.aload_n 0, 1) := by decide +kernel
theorem d_X11_undo_66 : decode prog_1_method_33_code 66 = .ok (.aload_n 0, 1) := by decide +kernel
theorem d_X11_undo_67 : decode prog_1_method_33_code 67 = .ok (.getfield 78, 3) := by decide +kernel
theorem d_X11_undo_70 : decode prog_1_method_33_code 70 = .ok (.iconst 1, 1) := by decide +kernel
theorem d_X11_undo_71 : decode prog_1_method_33_code 71 = .ok (.iconst 2, 1) := by decide +kernel
theorem d_X11_undo_72 : decode prog_1_method_33_code 72 = .ok (.invokevirtual 215, 3) := by decide +kernel
theorem d_X11_undo_75 : decode prog_1_method_33_code 75 = .ok (.putfield 63, 3) := by decide +kernel
theorem d_X11_undo_78 : decode prog_1_method_33_code 78 = .ok (.iconst 0, 1) := by decide +kernel
theorem d_X11_undo_79 : decode prog_1_method_33_code 79 = .ok (.istore_n 1, 1) := by decide +kernel
theorem d_X11_undo_80 : decode prog_1_method_33_code 80 = .ok (.iload_n 1, 1) := by decide +kernel
theorem d_X11_undo_81 : decode prog_1_method_33_code 81 = .ok (.aload_n 0, 1) := by decide +kernel
theorem d_X11_undo_82 : decode prog_1_method_33_code 82 = .ok (.getfield 23, 3) := by decide +kernel
theorem d_X11_undo_85 : decode prog_1_method_33_code 85 = .ok (.if_icmp .ge 18, 3) := by decide +kernel
theorem d_X11_undo_88 : decode prog_1_method_33_code 88 = .ok (.aload_n 0, 1) := by decide +kernel
theorem d_X11_undo_89 : decode prog_1_method_33_code 89 = .ok (.getfield 13, 3) := by decide +kernel
theorem d_X11_undo_92 : decode prog_1_method_33_code 92 = .ok (.iload_n 1, 1) := by decide +kernel
theorem d_X11_undo_93 : decode prog_1_method_33_code 93 = .ok (.aaload, 1) := by decide +kernel
theorem d_X11_undo_94 : decode prog_1_method_33_code 94 = .ok (.invokevirtual 235, 3) := by decide +kernel
theorem d_X11_undo_97 : decode prog_1_method_33_code 97 = .ok (.iinc 1 1, 3) := by decide +kernel
theorem d_X11_undo_100 : decode prog_1_method_33_code 100 = .ok (.goto (-20), 3) := by decide +kernel
theorem d_X11_undo_103 : decode prog_1_method_33_code 103 = .ok (.aload_n 0, 1) := by decide +kernel
theorem d_X11_undo_104 : decode prog_1_method_33_code 104 = .ok (.getfield 46, 3) := by decide +kernel
theorem d_X11_undo_107 : decode prog_1_method_33_code 107 = .ok (.invokevirtual 238, 3) := by decide +kernel
theorem d_X11_undo_110 : decode prog_1_method_33_code 110 = .ok (.aload_n 0, 1) := by decide +kernel
theorem d_X11_undo_111 : decode prog_1_method_33_code 111 = .ok (.getfield 66, 3) := by decide +kernel
theorem d_X11_undo_114 : decode prog_1_method_33_code 114 = .ok (.invokevirtual 238, 3) := by decide +kernel
theorem d_X11_undo_117 : decode prog_1_method_33_code 117 = .ok (.aload_n 0, 1) := by decide +kernel
theorem d_X11_undo_118 : decode prog_1_method_33_code 118 = .ok (.getfield 69, 3) := by decide +kernel
theorem d_X11_undo_121 : decode prog_1_method_33_code 121 = .ok (.invokevirtual 238, 3) := by decide +kernel
theorem d_X11_undo_124 : decode prog_1_method_33_code 124 = .ok (.aload_n 0, 1) := by decide +kernel
theorem d_X11_undo_125 : decode prog_1_method_33_code 125 = .ok (.getfield 72, 3) := by decide +kernel
theorem d_X11_undo_128 : decode prog_1_method_33_code 128 = .ok (.invokevirtual 238, 3) := by decide +kernel
theorem d_X11_undo_131 : decode prog_1_method_33_code 131 = .ok (.aload_n 0, 1) := by decide +kernel
theorem d_X11_undo_132 : decode prog_1_method_33_code 132 = .ok (.getfield 23, 3) := by decide +kernel
theorem d_X11_undo_135 : decode prog_1_method_33_code 135 = .ok (.ireturn, 1) := by decide +kernel
def k_X11_undo_80 (kap lam : Nat → Nat) (go80 : Nat → Int32 → fm_M → Option (Int32 × fm_M)) (r0 : Nat) (a1 : Int32)  (S : fm_M) : Option (Int32 × fm_M) :=
  fm_gi kap 11 r0 2 S fun x82 =>
  if x82 ≤ a1 then (
   fm_gr kap 11 r0 6 S fun q104 =>
   fm_ck (kap q104 == 8) <|
   fm_b1 (m_X8_takeBack kap lam q104 S) fun S107 =>
   fm_gr kap 11 r0 11 S107 fun q111 =>
   fm_ck (kap q111 == 8) <|
   fm_b1 (m_X8_takeBack kap lam q111 S107) fun S114 =>
   fm_gr kap 11 r0 12 S114 fun q118 =>
   fm_ck (kap q118 == 8) <|
   fm_b1 (m_X8_takeBack kap lam q118 S114) fun S121 =>
   fm_gr kap 11 r0 13 S121 fun q125 =>
   fm_ck (kap q125 == 8) <|
   fm_b1 (m_X8_takeBack kap lam q125 S121) fun S128 =>
   fm_gi kap 11 r0 2 S128 fun x132 =>
   some (x132, S128)
  ) else (
   fm_gr kap 11 r0 0 S fun q89 =>
   fm_lr kap lam 16 q89 a1 S fun q93 =>
   fm_b1 (v_takeBack kap lam q93 S) fun S94 =>
   fm_let (a1 + 1 : Int32) fun x97 =>
   go80 r0 x97 S94
  )
def b_X11_undo_80 (kap lam : Nat → Nat) : Nat → Nat → Int32 → fm_M → Option (Int32 × fm_M)
  | 0 => fun _ _ _ => none
  | n + 1 => k_X11_undo_80 kap lam (b_X11_undo_80 kap lam n)
def m_X11_undo (kap lam : Nat → Nat) (r0 : Nat) (S : fm_M) : Option (Int32 × fm_M) :=
  fm_gr kap 11 r0 15 S fun q1 =>
  fm_ck (kap q1 == 8) <|
  fm_b1 (m_X8_size kap lam q1 S) fun x4 =>
  if x4 = 0 then (
   some ((-3), S)
  ) else (
   fm_gr kap 11 r0 15 S fun q15 =>
   fm_ck (kap q15 == 8) <|
   fm_b1 (m_X8_at kap lam q15 0 0 S) fun x20 =>
   fm_pi kap 11 r0 2 S x20 fun S23 =>
   fm_gr kap 11 r0 15 S23 fun q28 =>
   fm_ck (kap q28 == 8) <|
   fm_b1 (m_X8_at kap lam q28 0 1 S23) fun x33 =>
   fm_pi kap 11 r0 5 S23 x33 fun S36 =>
   fm_gr kap 11 r0 15 S36 fun q41 =>
   fm_ck (kap q41 == 8) <|
   fm_b1 (m_X8_at kap lam q41 1 0 S36) fun x46 =>
   fm_pi kap 11 r0 8 S36 x46 fun S49 =>
   fm_gr kap 11 r0 15 S49 fun q54 =>
   fm_ck (kap q54 == 8) <|
   fm_b1 (m_X8_at kap lam q54 1 1 S49) fun x59 =>
   fm_pi kap 11 r0 9 S49 x59 fun S62 =>
   fm_gr kap 11 r0 15 S62 fun q67 =>
   fm_ck (kap q67 == 8) <|
   fm_b1 (m_X8_at kap lam q67 1 2 S62) fun x72 =>
   fm_pi kap 11 r0 10 S62 x72 fun S75 =>
   fm_let (0 : Int32) fun x79 =>
   b_X11_undo_80 kap lam fm_LF r0 x79 S75
  )
set_option maxHeartbeats 4000000 in
set_option maxRecDepth 100000 in
theorem c_X11_undo {l : Launch} {D : va_G} {ids kap lam : Nat → Nat} {RL : List Nat} {ad sk sv : Nat → Nat} {S : fm_M} {r0 : Nat} {r : Int32} {u : fm_M} (hE : fm_E kap RL ad) (hf : m_X11_undo kap lam r0 S = some (r, u)) (sz : Nat) : fm_MI l y_X11_undo prog_1_method_33_code 2 (Option.some Jvm.ClassFile.FieldType.int) 3 D ids kap lam RL ad sk sv S [.ref (ad r0)] sz r u := by
  refine fm_open rfl hE (Nat.le_of_ble_eq_true rfl) (fun p e s m args below meth c ls Z hr hlk G F N hl hsz => ?_)
  subst hsz
  obtain ⟨hx, hb, hml, hown, hts⟩ := id Z
  have hl : lv_has ls 2 [(0, .ref (ad r0))] := hl
  generalize hQ : MQ below _ args s 0 0 (fm_A RL ad s.heap.size) = Qf
  have hL : ∀ n : Nat, (∀ (r0 : Nat) (a1 : Int32)  (S : fm_M) (H : Heap) (locs : List Loc) (ls : Array Slot), fm_F D ids kap lam RL ad S (fm_A RL ad s.heap.size) s.heap H locs → lv_has ls 2 [(0, .ref (ad r0)), (1, .int a1)] → b_X11_undo_80 kap lam n r0 a1 S = some (r, u) → W p l e (fm_rm 3) s m args below meth c H locs 0 0 Qf (F0 m 80 ls [])) := by
    intro n
    induction n with
    | zero => exact fun _ _ _ _ _ _ _ _ hf => absurd hf (by intro h; cases h)
    | succ n ih =>
      intro r0 a1 S H locs ls F hl hf
      have hf : k_X11_undo_80 kap lam (b_X11_undo_80 kap lam n) r0 a1 S = some (r, u) := hf
      unfold k_X11_undo_80 at hf
      refine lv_iload_n hx hb d_X11_undo_80 rfl (lv_at hl 1 rfl) ?_
      refine lv_aload_n hx hb d_X11_undo_81 rfl (lv_at hl 0 rfl) ?_
      refine fm_rgi Z G F hf fr_X11_23 d_X11_undo_82 (fun x82 _ hf => ?_)
      refine lv_icmp_ge (tgt := 103) hx hb d_X11_undo_85 (by decide) (fun c85 => ?_) (fun c85 => ?_)
      · have hf := fm_ip c85 hf
        refine lv_aload_n hx hb d_X11_undo_103 rfl (lv_at hl 0 rfl) ?_
        refine fm_rgr Z G F hf fr_X11_46 d_X11_undo_104 (fun q104 _ hf => ?_)
        obtain ⟨hk107, hf⟩ := fm_some hf
        refine fm_rcv G F hf (fun u ho => fm_runV (k := 0) Z G F N (As := []) (rest := []) (c_X8_takeBack hE ho _) (by rw [eq_of_beq hk107]; decide) (by rw [eq_of_beq hk107]; rfl) kw_922 kw_923 kw_924 kw_3 kw_925 yd_X8_takeBack rfl (by decide) (by decide) hl.1 (Nat.le_of_ble_eq_true rfl) d_X11_undo_107 (Nat.le_refl 0) (Nat.le_refl 0)) (fun S107 H locs _ F hf => ?_)
        refine lv_aload_n hx hb d_X11_undo_110 rfl (lv_at hl 0 rfl) ?_
        refine fm_rgr Z G F hf fr_X11_66 d_X11_undo_111 (fun q111 _ hf => ?_)
        obtain ⟨hk114, hf⟩ := fm_some hf
        refine fm_rcv G F hf (fun u ho => fm_runV (k := 0) Z G F N (As := []) (rest := []) (c_X8_takeBack hE ho _) (by rw [eq_of_beq hk114]; decide) (by rw [eq_of_beq hk114]; rfl) kw_922 kw_923 kw_924 kw_3 kw_925 yd_X8_takeBack rfl (by decide) (by decide) hl.1 (Nat.le_of_ble_eq_true rfl) d_X11_undo_114 (Nat.le_refl 0) (Nat.le_refl 0)) (fun S114 H locs _ F hf => ?_)
        refine lv_aload_n hx hb d_X11_undo_117 rfl (lv_at hl 0 rfl) ?_
        refine fm_rgr Z G F hf fr_X11_69 d_X11_undo_118 (fun q118 _ hf => ?_)
        obtain ⟨hk121, hf⟩ := fm_some hf
        refine fm_rcv G F hf (fun u ho => fm_runV (k := 0) Z G F N (As := []) (rest := []) (c_X8_takeBack hE ho _) (by rw [eq_of_beq hk121]; decide) (by rw [eq_of_beq hk121]; rfl) kw_922 kw_923 kw_924 kw_3 kw_925 yd_X8_takeBack rfl (by decide) (by decide) hl.1 (Nat.le_of_ble_eq_true rfl) d_X11_undo_121 (Nat.le_refl 0) (Nat.le_refl 0)) (fun S121 H locs _ F hf => ?_)
        refine lv_aload_n hx hb d_X11_undo_124 rfl (lv_at hl 0 rfl) ?_
        refine fm_rgr Z G F hf fr_X11_72 d_X11_undo_125 (fun q125 _ hf => ?_)
        obtain ⟨hk128, hf⟩ := fm_some hf
        refine fm_rcv G F hf (fun u ho => fm_runV (k := 0) Z G F N (As := []) (rest := []) (c_X8_takeBack hE ho _) (by rw [eq_of_beq hk128]; decide) (by rw [eq_of_beq hk128]; rfl) kw_922 kw_923 kw_924 kw_3 kw_925 yd_X8_takeBack rfl (by decide) (by decide) hl.1 (Nat.le_of_ble_eq_true rfl) d_X11_undo_128 (Nat.le_refl 0) (Nat.le_refl 0)) (fun S128 H locs _ F hf => ?_)
        refine lv_aload_n hx hb d_X11_undo_131 rfl (lv_at hl 0 rfl) ?_
        refine fm_rgi Z G F hf fr_X11_23 d_X11_undo_132 (fun x132 _ hf => ?_)
        rw [← hQ]; exact fm_reti Z hr hlk F d_X11_undo_135 (Prod.mk.inj (Option.some.inj hf)).1 (Prod.mk.inj (Option.some.inj hf)).2
      · have hf := fm_ig c85 hf
        refine lv_aload_n hx hb d_X11_undo_88 rfl (lv_at hl 0 rfl) ?_
        refine fm_rgr Z G F hf fr_X11_13 d_X11_undo_89 (fun q89 _ hf => ?_)
        refine lv_iload_n hx hb d_X11_undo_92 rfl (lv_at hl 1 rfl) ?_
        refine fm_rlr Z G F (by decide) (by decide) hf d_X11_undo_93 (fun q93 _ hf => ?_)
        refine fm_rcv (rest := []) (a := (Value.ref (ad q93) :: []).toArray) G F hf (fun u ho => ?_) (fun S94 H locs _ F hf => ?_)
        · unfold v_takeBack at ho
          by_cases hv94_0 : kap q93 = 0
          · rw [if_pos hv94_0] at ho
            exact fm_runU (k := 0) Z G F N (As := []) (rest := []) (x := (⟨"FrostBids$Pane", "takeBack", "()V"⟩ : MethodName)) (C := "FrostBids$Church") (owner := "FrostBids$Pane") (c_X5_takeBack hE ho _) (by rw [hv94_0]; decide) (by rw [hv94_0]; rfl) kw_906 kw_909 kw_907 kw_921 kw_910 kw_907 kw_11 kw_921 ⟨by decide +kernel, by decide +kernel, by decide +kernel⟩ rfl (by decide) (by decide) hl.1 (Nat.le_of_ble_eq_true rfl) d_X11_undo_94 (Nat.le_refl 0) (Nat.le_refl 0)
          rw [if_neg hv94_0] at ho
          by_cases hv94_2 : kap q93 = 2
          · rw [if_pos hv94_2] at ho
            exact fm_runU (k := 0) Z G F N (As := []) (rest := []) (x := (⟨"FrostBids$Pane", "takeBack", "()V"⟩ : MethodName)) (C := "FrostBids$Jail") (owner := "FrostBids$Pane") (c_X5_takeBack hE ho _) (by rw [hv94_2]; decide) (by rw [hv94_2]; rfl) kw_906 kw_909 kw_907 kw_921 kw_911 kw_907 kw_11 kw_921 ⟨by decide +kernel, by decide +kernel, by decide +kernel⟩ rfl (by decide) (by decide) hl.1 (Nat.le_of_ble_eq_true rfl) d_X11_undo_94 (Nat.le_refl 0) (Nat.le_refl 0)
          rw [if_neg hv94_2] at ho
          by_cases hv94_3 : kap q93 = 3
          · rw [if_pos hv94_3] at ho
            exact fm_runU (k := 0) Z G F N (As := []) (rest := []) (x := (⟨"FrostBids$Pane", "takeBack", "()V"⟩ : MethodName)) (C := "FrostBids$Kitchen") (owner := "FrostBids$Pane") (c_X5_takeBack hE ho _) (by rw [hv94_3]; decide) (by rw [hv94_3]; rfl) kw_906 kw_909 kw_907 kw_921 kw_912 kw_907 kw_11 kw_921 ⟨by decide +kernel, by decide +kernel, by decide +kernel⟩ rfl (by decide) (by decide) hl.1 (Nat.le_of_ble_eq_true rfl) d_X11_undo_94 (Nat.le_refl 0) (Nat.le_refl 0)
          rw [if_neg hv94_3] at ho
          by_cases hv94_4 : kap q93 = 4
          · rw [if_pos hv94_4] at ho
            exact fm_runU (k := 0) Z G F N (As := []) (rest := []) (x := (⟨"FrostBids$Pane", "takeBack", "()V"⟩ : MethodName)) (C := "FrostBids$Nursery") (owner := "FrostBids$Pane") (c_X5_takeBack hE ho _) (by rw [hv94_4]; decide) (by rw [hv94_4]; rfl) kw_906 kw_909 kw_907 kw_921 kw_913 kw_907 kw_11 kw_921 ⟨by decide +kernel, by decide +kernel, by decide +kernel⟩ rfl (by decide) (by decide) hl.1 (Nat.le_of_ble_eq_true rfl) d_X11_undo_94 (Nat.le_refl 0) (Nat.le_refl 0)
          rw [if_neg hv94_4] at ho
          by_cases hv94_5 : kap q93 = 5
          · rw [if_pos hv94_5] at ho
            exact fm_runU (k := 0) Z G F N (As := []) (rest := []) (x := (⟨"FrostBids$Pane", "takeBack", "()V"⟩ : MethodName)) (C := "FrostBids$Pane") (owner := "FrostBids$Pane") (c_X5_takeBack hE ho _) (by rw [hv94_5]; decide) (by rw [hv94_5]; rfl) kw_906 kw_909 kw_907 kw_921 kw_908 kw_907 kw_11 kw_921 ⟨by decide +kernel, by decide +kernel, by decide +kernel⟩ rfl (by decide) (by decide) hl.1 (Nat.le_of_ble_eq_true rfl) d_X11_undo_94 (Nat.le_refl 0) (Nat.le_refl 0)
          rw [if_neg hv94_5] at ho
          by_cases hv94_7 : kap q93 = 7
          · rw [if_pos hv94_7] at ho
            exact fm_runU (k := 0) Z G F N (As := []) (rest := []) (x := (⟨"FrostBids$Pane", "takeBack", "()V"⟩ : MethodName)) (C := "FrostBids$Rectory") (owner := "FrostBids$Pane") (c_X5_takeBack hE ho _) (by rw [hv94_7]; decide) (by rw [hv94_7]; rfl) kw_906 kw_909 kw_907 kw_921 kw_914 kw_907 kw_11 kw_921 ⟨by decide +kernel, by decide +kernel, by decide +kernel⟩ rfl (by decide) (by decide) hl.1 (Nat.le_of_ble_eq_true rfl) d_X11_undo_94 (Nat.le_refl 0) (Nat.le_refl 0)
          rw [if_neg hv94_7] at ho
          by_cases hv94_9 : kap q93 = 9
          · rw [if_pos hv94_9] at ho
            exact fm_runU (k := 0) Z G F N (As := []) (rest := []) (x := (⟨"FrostBids$Pane", "takeBack", "()V"⟩ : MethodName)) (C := "FrostBids$Told") (owner := "FrostBids$Pane") (c_X9_takeBack hE ho _) (by rw [hv94_9]; decide) (by rw [hv94_9]; rfl) kw_906 kw_909 kw_907 kw_921 kw_915 kw_916 kw_17 kw_917 ⟨by decide +kernel, by decide +kernel, by decide +kernel⟩ rfl (by decide) (by decide) hl.1 (Nat.le_of_ble_eq_true rfl) d_X11_undo_94 (Nat.le_refl 0) (Nat.le_refl 0)
          rw [if_neg hv94_9] at ho
          cases ho
        obtain ⟨x97, ex97⟩ : ∃ y : Int32, y = a1 + 1 := ⟨_, rfl⟩
        have hf := fm_let_at ex97 hf
        refine lv_iinc (v := x97) (lv' := [(1, .int x97), (0, .ref (ad r0))]) hx hb d_X11_undo_97 hl (k := 1) rfl (by rw [ex97]; rfl) (by decide) rfl (fun ls hl => ?_)
        refine lv_goto (tgt := 80) hx hb d_X11_undo_100 (by decide) ?_
        exact ih r0 x97 S94 _ _ _ F (lv_sub hl [1, 0] rfl) hf
  unfold m_X11_undo at hf
  refine lv_aload_n hx hb d_X11_undo_0 rfl (lv_at hl 0 rfl) ?_
  refine fm_rgr Z G F hf fr_X11_78 d_X11_undo_1 (fun q1 _ hf => ?_)
  obtain ⟨hk4, hf⟩ := fm_some hf
  refine fm_rcr G F hf (fun r ho => fm_runV (k := 0) Z G F N (As := []) (rest := []) (c_X8_size hE ho _) (by rw [eq_of_beq hk4]; decide) (by rw [eq_of_beq hk4]; rfl) kw_193 kw_194 kw_195 kw_3 kw_196 yd_X8_size rfl (by decide) (by decide) hl.1 (Nat.le_of_ble_eq_true rfl) d_X11_undo_4 (Nat.le_refl 0) (Nat.le_refl 0)) (fun x4 H locs _ F hf => ?_)
  refine lv_if_ne (tgt := 13) hx hb d_X11_undo_7 (by decide) (fun c7 => ?_) (fun c7 => ?_)
  · have hf := fm_ig c7 hf
    refine lv_aload_n hx hb d_X11_undo_13 rfl (lv_at hl 0 rfl) ?_
    refine lv_aload_n hx hb d_X11_undo_14 rfl (lv_at hl 0 rfl) ?_
    refine fm_rgr Z G F hf fr_X11_78 d_X11_undo_15 (fun q15 _ hf => ?_)
    refine lv_iconst (v := 0) hx hb d_X11_undo_18 (by decide) ?_
    refine lv_iconst (v := 0) hx hb d_X11_undo_19 (by decide) ?_
    obtain ⟨hk20, hf⟩ := fm_some hf
    refine fm_rcr G F hf (fun r ho => fm_runV (k := 2) Z G F N (As := [.int 0, .int 0]) (rest := [.ref (ad r0)]) (c_X8_at hE ho _) (by rw [eq_of_beq hk20]; decide) (by rw [eq_of_beq hk20]; rfl) kw_746 kw_211 kw_212 kw_3 kw_213 yd_X8_at rfl (by decide) (by decide) hl.1 (Nat.le_of_ble_eq_true rfl) d_X11_undo_20 (Nat.le_refl 0) (Nat.le_refl 0)) (fun x20 H locs _ F hf => ?_)
    refine fm_rpi Z G F hf fs_X11_23 d_X11_undo_23 (fun c h => by have h := eq_of_beq (show (c == 11) = true from h); subst h; rfl) (fun S23 H locs _ F hf => ?_)
    refine lv_aload_n hx hb d_X11_undo_26 rfl (lv_at hl 0 rfl) ?_
    refine lv_aload_n hx hb d_X11_undo_27 rfl (lv_at hl 0 rfl) ?_
    refine fm_rgr Z G F hf fr_X11_78 d_X11_undo_28 (fun q28 _ hf => ?_)
    refine lv_iconst (v := 0) hx hb d_X11_undo_31 (by decide) ?_
    refine lv_iconst (v := 1) hx hb d_X11_undo_32 (by decide) ?_
    obtain ⟨hk33, hf⟩ := fm_some hf
    refine fm_rcr G F hf (fun r ho => fm_runV (k := 2) Z G F N (As := [.int 0, .int 1]) (rest := [.ref (ad r0)]) (c_X8_at hE ho _) (by rw [eq_of_beq hk33]; decide) (by rw [eq_of_beq hk33]; rfl) kw_746 kw_211 kw_212 kw_3 kw_213 yd_X8_at rfl (by decide) (by decide) hl.1 (Nat.le_of_ble_eq_true rfl) d_X11_undo_33 (Nat.le_refl 0) (Nat.le_refl 0)) (fun x33 H locs _ F hf => ?_)
    refine fm_rpi Z G F hf fs_X11_38 d_X11_undo_36 (fun c h => by have h := eq_of_beq (show (c == 11) = true from h); subst h; rfl) (fun S36 H locs _ F hf => ?_)
    refine lv_aload_n hx hb d_X11_undo_39 rfl (lv_at hl 0 rfl) ?_
    refine lv_aload_n hx hb d_X11_undo_40 rfl (lv_at hl 0 rfl) ?_
    refine fm_rgr Z G F hf fr_X11_78 d_X11_undo_41 (fun q41 _ hf => ?_)
    refine lv_iconst (v := 1) hx hb d_X11_undo_44 (by decide) ?_
    refine lv_iconst (v := 0) hx hb d_X11_undo_45 (by decide) ?_
    obtain ⟨hk46, hf⟩ := fm_some hf
    refine fm_rcr G F hf (fun r ho => fm_runV (k := 2) Z G F N (As := [.int 1, .int 0]) (rest := [.ref (ad r0)]) (c_X8_at hE ho _) (by rw [eq_of_beq hk46]; decide) (by rw [eq_of_beq hk46]; rfl) kw_746 kw_211 kw_212 kw_3 kw_213 yd_X8_at rfl (by decide) (by decide) hl.1 (Nat.le_of_ble_eq_true rfl) d_X11_undo_46 (Nat.le_refl 0) (Nat.le_refl 0)) (fun x46 H locs _ F hf => ?_)
    refine fm_rpi Z G F hf fs_X11_57 d_X11_undo_49 (fun c h => by have h := eq_of_beq (show (c == 11) = true from h); subst h; rfl) (fun S49 H locs _ F hf => ?_)
    refine lv_aload_n hx hb d_X11_undo_52 rfl (lv_at hl 0 rfl) ?_
    refine lv_aload_n hx hb d_X11_undo_53 rfl (lv_at hl 0 rfl) ?_
    refine fm_rgr Z G F hf fr_X11_78 d_X11_undo_54 (fun q54 _ hf => ?_)
    refine lv_iconst (v := 1) hx hb d_X11_undo_57 (by decide) ?_
    refine lv_iconst (v := 1) hx hb d_X11_undo_58 (by decide) ?_
    obtain ⟨hk59, hf⟩ := fm_some hf
    refine fm_rcr G F hf (fun r ho => fm_runV (k := 2) Z G F N (As := [.int 1, .int 1]) (rest := [.ref (ad r0)]) (c_X8_at hE ho _) (by rw [eq_of_beq hk59]; decide) (by rw [eq_of_beq hk59]; rfl) kw_746 kw_211 kw_212 kw_3 kw_213 yd_X8_at rfl (by decide) (by decide) hl.1 (Nat.le_of_ble_eq_true rfl) d_X11_undo_59 (Nat.le_refl 0) (Nat.le_refl 0)) (fun x59 H locs _ F hf => ?_)
    refine fm_rpi Z G F hf fs_X11_60 d_X11_undo_62 (fun c h => by have h := eq_of_beq (show (c == 11) = true from h); subst h; rfl) (fun S62 H locs _ F hf => ?_)
    refine lv_aload_n hx hb d_X11_undo_65 rfl (lv_at hl 0 rfl) ?_
    refine lv_aload_n hx hb d_X11_undo_66 rfl (lv_at hl 0 rfl) ?_
    refine fm_rgr Z G F hf fr_X11_78 d_X11_undo_67 (fun q67 _ hf => ?_)
    refine lv_iconst (v := 1) hx hb d_X11_undo_70 (by decide) ?_
    refine lv_iconst (v := 2) hx hb d_X11_undo_71 (by decide) ?_
    obtain ⟨hk72, hf⟩ := fm_some hf
    refine fm_rcr G F hf (fun r ho => fm_runV (k := 2) Z G F N (As := [.int 1, .int 2]) (rest := [.ref (ad r0)]) (c_X8_at hE ho _) (by rw [eq_of_beq hk72]; decide) (by rw [eq_of_beq hk72]; rfl) kw_746 kw_211 kw_212 kw_3 kw_213 yd_X8_at rfl (by decide) (by decide) hl.1 (Nat.le_of_ble_eq_true rfl) d_X11_undo_72 (Nat.le_refl 0) (Nat.le_refl 0)) (fun x72 H locs _ F hf => ?_)
    refine fm_rpi Z G F hf fs_X11_63 d_X11_undo_75 (fun c h => by have h := eq_of_beq (show (c == 11) = true from h); subst h; rfl) (fun S75 H locs _ F hf => ?_)
    refine lv_iconst (v := 0) hx hb d_X11_undo_78 (by decide) ?_
    refine lv_topi (fun x79 ex79 => ?_)
    have hf := fm_let_at ex79 hf
    refine lv_istore_n (lv' := [(1, .int x79), (0, .ref (ad r0))]) hx hb d_X11_undo_79 rfl hl (by decide) rfl (fun ls hl => ?_)
    exact (hL fm_LF) r0 x79 S75 _ _ _ F (lv_sub hl [1, 0] rfl) hf
  · have hf := fm_ip c7 hf
    refine lv_bipush (v := (-3)) hx hb d_X11_undo_10 (by decide) ?_
    rw [← hQ]; exact fm_reti Z hr hlk F d_X11_undo_12 (Prod.mk.inj (Option.some.inj hf)).1 (Prod.mk.inj (Option.some.inj hf)).2
theorem d_X11_count_0 : decode prog_1_method_34_code 0 = .ok (.iload_n 1, 1) := by decide +kernel
theorem d_X11_count_1 : decode prog_1_method_34_code 1 = .ok (.tableswitch 93 0 6 #[43, 48, 53, 61, 69, 77, 85], 43) := by decide +kernel
theorem d_X11_count_44 : decode prog_1_method_34_code 44 = .ok (.aload_n 0, 1) := by decide +kernel
theorem d_X11_count_45 : decode prog_1_method_34_code 45 = .ok (.getfield 23, 3) := by decide +kernel
theorem d_X11_count_48 : decode prog_1_method_34_code 48 = .ok (.ireturn, 1) := by decide +kernel
theorem d_X11_count_49 : decode prog_1_method_34_code 49 = .ok (.aload_n 0, 1) := by decide +kernel
theorem d_X11_count_50 : decode prog_1_method_34_code 50 = .ok (.getfield 38, 3) := by decide +kernel
theorem d_X11_count_53 : decode prog_1_method_34_code 53 = .ok (.ireturn, 1) := by decide +kernel
theorem d_X11_count_54 : decode prog_1_method_34_code 54 = .ok (.aload_n 0, 1) := by decide +kernel
theorem d_X11_count_55 : decode prog_1_method_34_code 55 = .ok (.getfield 66, 3) := by decide +kernel
theorem d_X11_count_58 : decode prog_1_method_34_code 58 = .ok (.invokevirtual 97, 3) := by decide +kernel
theorem d_X11_count_61 : decode prog_1_method_34_code 61 = .ok (.ireturn, 1) := by decide +kernel
theorem d_X11_count_62 : decode prog_1_method_34_code 62 = .ok (.aload_n 0, 1) := by decide +kernel
theorem d_X11_count_63 : decode prog_1_method_34_code 63 = .ok (.getfield 69, 3) := by decide +kernel
theorem d_X11_count_66 : decode prog_1_method_34_code 66 = .ok (.invokevirtual 97, 3) := by decide +kernel
theorem d_X11_count_69 : decode prog_1_method_34_code 69 = .ok (.ireturn, 1) := by decide +kernel
theorem d_X11_count_70 : decode prog_1_method_34_code 70 = .ok (.aload_n 0, 1) := by decide +kernel
theorem d_X11_count_71 : decode prog_1_method_34_code 71 = .ok (.getfield 72, 3) := by decide +kernel
theorem d_X11_count_74 : decode prog_1_method_34_code 74 = .ok (.invokevirtual 97, 3) := by decide +kernel
theorem d_X11_count_77 : decode prog_1_method_34_code 77 = .ok (.ireturn, 1) := by decide +kernel
theorem d_X11_count_78 : decode prog_1_method_34_code 78 = .ok (.aload_n 0, 1) := by decide +kernel
theorem d_X11_count_79 : decode prog_1_method_34_code 79 = .ok (.getfield 46, 3) := by decide +kernel
theorem d_X11_count_82 : decode prog_1_method_34_code 82 = .ok (.invokevirtual 97, 3) := by decide +kernel
theorem d_X11_count_85 : decode prog_1_method_34_code 85 = .ok (.ireturn, 1) := by decide +kernel
theorem d_X11_count_86 : decode prog_1_method_34_code 86 = .ok (.aload_n 0, 1) := by decide +kernel
theorem d_X11_count_87 : decode prog_1_method_34_code 87 = .ok (.getfield 75, 3) := by decide +kernel
theorem d_X11_count_90 : decode prog_1_method_34_code 90 = .ok (.getfield 239, 3) := by decide +kernel
theorem d_X11_count_93 : decode prog_1_method_34_code 93 = .ok (.ireturn, 1) := by decide +kernel
theorem d_X11_count_94 : decode prog_1_method_34_code 94 = .ok (.iconst (-1), 1) := by decide +kernel
theorem d_X11_count_95 : decode prog_1_method_34_code 95 = .ok (.ireturn, 1) := by decide +kernel
def m_X11_count (kap lam : Nat → Nat) (r0 : Nat) (a1 : Int32) (S : fm_M) : Option Int32 :=
  if a1 = 0 then (
   fm_gi kap 11 r0 2 S fun x45 =>
   some x45
  ) else (
   if a1 = 1 then (
    fm_gi kap 11 r0 5 S fun x50 =>
    some x50
   ) else (
    if a1 = 2 then (
     fm_gr kap 11 r0 11 S fun q55 =>
     fm_ck (kap q55 == 8) <|
     fm_b1 (m_X8_size kap lam q55 S) fun x58 =>
     some x58
    ) else (
     if a1 = 3 then (
      fm_gr kap 11 r0 12 S fun q63 =>
      fm_ck (kap q63 == 8) <|
      fm_b1 (m_X8_size kap lam q63 S) fun x66 =>
      some x66
     ) else (
      if a1 = 4 then (
       fm_gr kap 11 r0 13 S fun q71 =>
       fm_ck (kap q71 == 8) <|
       fm_b1 (m_X8_size kap lam q71 S) fun x74 =>
       some x74
      ) else (
       if a1 = 5 then (
        fm_gr kap 11 r0 6 S fun q79 =>
        fm_ck (kap q79 == 8) <|
        fm_b1 (m_X8_size kap lam q79 S) fun x82 =>
        some x82
       ) else (
        if a1 = 6 then (
         fm_gr kap 11 r0 14 S fun q87 =>
         fm_gi kap 8 q87 3 S fun x90 =>
         some x90
        ) else (
         some (-1)
        )
       )
      )
     )
    )
   )
  )
set_option maxHeartbeats 4000000 in
set_option maxRecDepth 100000 in
theorem c_X11_count {l : Launch} {D : va_G} {ids kap lam : Nat → Nat} {RL : List Nat} {ad sk sv : Nat → Nat} {S : fm_M} {r0 : Nat} {a1 : Int32} {r : Int32} (hE : fm_E kap RL ad) (hf : m_X11_count kap lam r0 a1 S = some r) (sz : Nat) : fm_MI l y_X11_count prog_1_method_34_code 2 (Option.some Jvm.ClassFile.FieldType.int) 2 D ids kap lam RL ad sk sv S [.ref (ad r0), .int a1] sz r S := by
  refine fm_open rfl hE (Nat.le_of_ble_eq_true rfl) (fun p e s m args below meth c ls Z hr hlk G F N hl hsz => ?_)
  subst hsz
  obtain ⟨hx, hb, hml, hown, hts⟩ := id Z
  have hl : lv_has ls 2 [(0, .ref (ad r0)), (1, .int a1)] := hl
  unfold m_X11_count at hf
  refine lv_iload_n hx hb d_X11_count_0 rfl (lv_at hl 1 rfl) ?_
  by_cases w1_0 : a1 = 0
  · have hf := fm_ip w1_0 hf
    refine lv_tableIn (off := 43) (tgt := 44) hx hb d_X11_count_1 (by rw [w1_0]; decide) (by rw [w1_0]; decide) (by rw [w1_0]; rfl) (by decide) ?_
    refine lv_aload_n hx hb d_X11_count_44 rfl (lv_at hl 0 rfl) ?_
    refine fm_rgi Z G F hf fr_X11_23 d_X11_count_45 (fun x45 _ hf => ?_)
    exact fm_reti Z hr hlk F d_X11_count_48 (Option.some.inj hf) rfl
  have hf := fm_ig w1_0 hf
  by_cases w1_1 : a1 = 1
  · have hf := fm_ip w1_1 hf
    refine lv_tableIn (off := 48) (tgt := 49) hx hb d_X11_count_1 (by rw [w1_1]; decide) (by rw [w1_1]; decide) (by rw [w1_1]; rfl) (by decide) ?_
    refine lv_aload_n hx hb d_X11_count_49 rfl (lv_at hl 0 rfl) ?_
    refine fm_rgi Z G F hf fr_X11_38 d_X11_count_50 (fun x50 _ hf => ?_)
    exact fm_reti Z hr hlk F d_X11_count_53 (Option.some.inj hf) rfl
  have hf := fm_ig w1_1 hf
  by_cases w1_2 : a1 = 2
  · have hf := fm_ip w1_2 hf
    refine lv_tableIn (off := 53) (tgt := 54) hx hb d_X11_count_1 (by rw [w1_2]; decide) (by rw [w1_2]; decide) (by rw [w1_2]; rfl) (by decide) ?_
    refine lv_aload_n hx hb d_X11_count_54 rfl (lv_at hl 0 rfl) ?_
    refine fm_rgr Z G F hf fr_X11_66 d_X11_count_55 (fun q55 _ hf => ?_)
    obtain ⟨hk58, hf⟩ := fm_some hf
    refine fm_rcr G F hf (fun r ho => fm_runV (k := 0) Z G F N (As := []) (rest := []) (c_X8_size hE ho _) (by rw [eq_of_beq hk58]; decide) (by rw [eq_of_beq hk58]; rfl) kw_193 kw_194 kw_195 kw_3 kw_196 yd_X8_size rfl (by decide) (by decide) hl.1 (Nat.le_of_ble_eq_true rfl) d_X11_count_58 (Nat.le_refl 0) (Nat.le_refl 0)) (fun x58 H locs _ F hf => ?_)
    exact fm_reti Z hr hlk F d_X11_count_61 (Option.some.inj hf) rfl
  have hf := fm_ig w1_2 hf
  by_cases w1_3 : a1 = 3
  · have hf := fm_ip w1_3 hf
    refine lv_tableIn (off := 61) (tgt := 62) hx hb d_X11_count_1 (by rw [w1_3]; decide) (by rw [w1_3]; decide) (by rw [w1_3]; rfl) (by decide) ?_
    refine lv_aload_n hx hb d_X11_count_62 rfl (lv_at hl 0 rfl) ?_
    refine fm_rgr Z G F hf fr_X11_69 d_X11_count_63 (fun q63 _ hf => ?_)
    obtain ⟨hk66, hf⟩ := fm_some hf
    refine fm_rcr G F hf (fun r ho => fm_runV (k := 0) Z G F N (As := []) (rest := []) (c_X8_size hE ho _) (by rw [eq_of_beq hk66]; decide) (by rw [eq_of_beq hk66]; rfl) kw_193 kw_194 kw_195 kw_3 kw_196 yd_X8_size rfl (by decide) (by decide) hl.1 (Nat.le_of_ble_eq_true rfl) d_X11_count_66 (Nat.le_refl 0) (Nat.le_refl 0)) (fun x66 H locs _ F hf => ?_)
    exact fm_reti Z hr hlk F d_X11_count_69 (Option.some.inj hf) rfl
  have hf := fm_ig w1_3 hf
  by_cases w1_4 : a1 = 4
  · have hf := fm_ip w1_4 hf
    refine lv_tableIn (off := 69) (tgt := 70) hx hb d_X11_count_1 (by rw [w1_4]; decide) (by rw [w1_4]; decide) (by rw [w1_4]; rfl) (by decide) ?_
    refine lv_aload_n hx hb d_X11_count_70 rfl (lv_at hl 0 rfl) ?_
    refine fm_rgr Z G F hf fr_X11_72 d_X11_count_71 (fun q71 _ hf => ?_)
    obtain ⟨hk74, hf⟩ := fm_some hf
    refine fm_rcr G F hf (fun r ho => fm_runV (k := 0) Z G F N (As := []) (rest := []) (c_X8_size hE ho _) (by rw [eq_of_beq hk74]; decide) (by rw [eq_of_beq hk74]; rfl) kw_193 kw_194 kw_195 kw_3 kw_196 yd_X8_size rfl (by decide) (by decide) hl.1 (Nat.le_of_ble_eq_true rfl) d_X11_count_74 (Nat.le_refl 0) (Nat.le_refl 0)) (fun x74 H locs _ F hf => ?_)
    exact fm_reti Z hr hlk F d_X11_count_77 (Option.some.inj hf) rfl
  have hf := fm_ig w1_4 hf
  by_cases w1_5 : a1 = 5
  · have hf := fm_ip w1_5 hf
    refine lv_tableIn (off := 77) (tgt := 78) hx hb d_X11_count_1 (by rw [w1_5]; decide) (by rw [w1_5]; decide) (by rw [w1_5]; rfl) (by decide) ?_
    refine lv_aload_n hx hb d_X11_count_78 rfl (lv_at hl 0 rfl) ?_
    refine fm_rgr Z G F hf fr_X11_46 d_X11_count_79 (fun q79 _ hf => ?_)
    obtain ⟨hk82, hf⟩ := fm_some hf
    refine fm_rcr G F hf (fun r ho => fm_runV (k := 0) Z G F N (As := []) (rest := []) (c_X8_size hE ho _) (by rw [eq_of_beq hk82]; decide) (by rw [eq_of_beq hk82]; rfl) kw_193 kw_194 kw_195 kw_3 kw_196 yd_X8_size rfl (by decide) (by decide) hl.1 (Nat.le_of_ble_eq_true rfl) d_X11_count_82 (Nat.le_refl 0) (Nat.le_refl 0)) (fun x82 H locs _ F hf => ?_)
    exact fm_reti Z hr hlk F d_X11_count_85 (Option.some.inj hf) rfl
  have hf := fm_ig w1_5 hf
  by_cases w1_6 : a1 = 6
  · have hf := fm_ip w1_6 hf
    refine lv_tableIn (off := 85) (tgt := 86) hx hb d_X11_count_1 (by rw [w1_6]; decide) (by rw [w1_6]; decide) (by rw [w1_6]; rfl) (by decide) ?_
    refine lv_aload_n hx hb d_X11_count_86 rfl (lv_at hl 0 rfl) ?_
    refine fm_rgr Z G F hf fr_X11_75 d_X11_count_87 (fun q87 _ hf => ?_)
    refine fm_rgn Z G F N hf d_X11_count_90 (fun x90 _ hf => ?_)
    exact fm_reti Z hr hlk F d_X11_count_93 (Option.some.inj hf) rfl
  have hf := fm_ig w1_6 hf
  have z1_0 := lv_neT (a := 0) w1_0 (by decide)
  have z1_1 := lv_neT (a := 1) w1_1 (by decide)
  have z1_2 := lv_neT (a := 2) w1_2 (by decide)
  have z1_3 := lv_neT (a := 3) w1_3 (by decide)
  have z1_4 := lv_neT (a := 4) w1_4 (by decide)
  have z1_5 := lv_neT (a := 5) w1_5 (by decide)
  have z1_6 := lv_neT (a := 6) w1_6 (by decide)
  refine lv_tableOut (tgt := 94) hx hb d_X11_count_1 (by omega) (by decide) ?_
  refine lv_iconst (v := (-1)) hx hb d_X11_count_94 (by decide) ?_
  exact fm_reti Z hr hlk F d_X11_count_95 (Option.some.inj hf) rfl
