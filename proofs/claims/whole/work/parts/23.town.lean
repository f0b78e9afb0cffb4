/-! models and contracts (tool/gen.py prints them) -/
theorem d_X12_spells_0 : decode prog_14_method_11_code 0 = .ok (.iconst 0, 1) := by decide +kernel
theorem d_X12_spells_1 : decode prog_14_method_11_code 1 = .ok (.istore_n 2, 1) := by decide +kernel
theorem d_X12_spells_2 : decode prog_14_method_11_code 2 = .ok (.iload_n 2, 1) := by decide +kernel
theorem d_X12_spells_3 : decode prog_14_method_11_code 3 = .ok (.aload_n 1, 1) := by decide +kernel
theorem d_X12_spells_4 : decode prog_14_method_11_code 4 = .ok (.invokevirtual 62, 3) := by decide +kernel
theorem d_X12_spells_7 : decode prog_14_method_11_code 7 = .ok (.if_icmp .ge 18, 3) := by decide +kernel
theorem d_X12_spells_10 : decode prog_14_method_11_code 10 = .ok (.aload_n 0, 1) := by decide +kernel
theorem d_X12_spells_11 : decode prog_14_method_11_code 11 = .ok (.aload_n 1, 1) := by decide +kernel
theorem d_X12_spells_12 : decode prog_14_method_11_code 12 = .ok (.iload_n 2, 1) := by decide +kernel
theorem d_X12_spells_13 : decode prog_14_method_11_code 13 = .ok (.invokevirtual 67, 3) := by decide +kernel
theorem d_X12_spells_16 : decode prog_14_method_11_code 16 = .ok (.invokevirtual 71, 3) := by decide +kernel
theorem d_X12_spells_19 : decode prog_14_method_11_code 19 = .ok (.iinc 2 1, 3) := by decide +kernel
theorem d_X12_spells_22 : decode prog_14_method_11_code 22 = .ok (.goto (-20), 3) := by decide +kernel
theorem d_X12_spells_25 : decode prog_14_method_11_code 25 = .ok (.return_, 1) := by decide +kernel
def k_X12_spells_2 (kap lam : Nat → Nat) (go2 : Nat → Nat → Int32 → fm_M → Option fm_M) (r0 : Nat) (t1 : Nat) (a2 : Int32)  (S : fm_M) : Option fm_M :=
  fm_slen_ t1 fun x4 =>
  if x4 ≤ a2 then (
   some S
  ) else (
   fm_sat_ t1 a2 fun x13 =>
   fm_ck (kap r0 == 12) <|
   fm_b1 (m_X12_must kap lam r0 x13 S) fun S16 =>
   fm_let (a2 + 1 : Int32) fun x19 =>
   go2 r0 t1 x19 S16
  )
def b_X12_spells_2 (kap lam : Nat → Nat) : Nat → Nat → Nat → Int32 → fm_M → Option fm_M
  | 0 => fun _ _ _ _ => none
  | n + 1 => k_X12_spells_2 kap lam (b_X12_spells_2 kap lam n)
def m_X12_spells (kap lam : Nat → Nat) (r0 : Nat) (t1 : Nat) (S : fm_M) : Option fm_M :=
  fm_let (0 : Int32) fun x1 =>
  b_X12_spells_2 kap lam fm_LF r0 t1 x1 S
set_option maxHeartbeats 4000000 in
set_option maxRecDepth 100000 in
theorem c_X12_spells {l : Launch} {D : va_G} {ids kap lam : Nat → Nat} {RL : List Nat} {ad sk sv : Nat → Nat} {S : fm_M} {r0 : Nat} {t1 : Nat} {u : fm_M} (hE : fm_E kap RL ad) (hf : m_X12_spells kap lam r0 t1 S = some u) (sz : Nat) : fm_MV l y_X12_spells prog_14_method_11_code 3 (Option.none : Option Jvm.ClassFile.FieldType) 6 D ids kap lam RL ad sk sv S [.ref (ad r0), .ref (sk t1)] sz u := by
  refine fm_open rfl hE (Nat.le_of_ble_eq_true rfl) (fun p e s m args below meth c ls Z hr hlk G F N hl hsz => ?_)
  subst hsz
  obtain ⟨hx, hb, hml, hown, hts⟩ := id Z
  have hl : lv_has ls 3 [(0, .ref (ad r0)), (1, .ref (sk t1))] := hl
  generalize hQ : MQ below _ args s 0 0 (fm_A RL ad s.heap.size) = Qf
  have hL : ∀ n : Nat, (∀ (r0 : Nat) (t1 : Nat) (a2 : Int32)  (S : fm_M) (H : Heap) (locs : List Loc) (ls : Array Slot), fm_F D ids kap lam RL ad S (fm_A RL ad s.heap.size) s.heap H locs → lv_has ls 3 [(0, .ref (ad r0)), (1, .ref (sk t1)), (2, .int a2)] → b_X12_spells_2 kap lam n r0 t1 a2 S = some u → W p l e (fm_rm 6) s m args below meth c H locs 0 0 Qf (F0 m 2 ls [])) := by
    intro n
    induction n with
    | zero => exact fun _ _ _ _ _ _ _ _ _ hf => absurd hf (by intro h; cases h)
    | succ n ih =>
      intro r0 t1 a2 S H locs ls F hl hf
      have hf : k_X12_spells_2 kap lam (b_X12_spells_2 kap lam n) r0 t1 a2 S = some u := hf
      unfold k_X12_spells_2 at hf
      refine lv_iload_n hx hb d_X12_spells_2 rfl (lv_at hl 2 rfl) ?_
      refine lv_aload_n hx hb d_X12_spells_3 rfl (lv_at hl 1 rfl) ?_
      refine fm_rslen hE Z G F N hl.1 hf kw_1028 d_X12_spells_4 (by decide) (Nat.le_of_ble_eq_true rfl) (fun x4 H locs _ F hf => ?_)
      refine lv_icmp_ge (tgt := 25) hx hb d_X12_spells_7 (by decide) (fun c7 => ?_) (fun c7 => ?_)
      · have hf := fm_ip c7 hf
        rw [← hQ]; exact fm_retv Z hr hlk F d_X12_spells_25 (Option.some.inj hf)
      · have hf := fm_ig c7 hf
        refine lv_aload_n hx hb d_X12_spells_10 rfl (lv_at hl 0 rfl) ?_
        refine lv_aload_n hx hb d_X12_spells_11 rfl (lv_at hl 1 rfl) ?_
        refine lv_iload_n hx hb d_X12_spells_12 rfl (lv_at hl 2 rfl) ?_
        refine fm_rsat hE Z G F N hl.1 hf kw_1029 d_X12_spells_13 (by decide) (Nat.le_of_ble_eq_true rfl) (fun x13 H locs _ F hf => ?_)
        obtain ⟨hk16, hf⟩ := fm_some hf
        refine fm_rcv G F hf (fun u ho => fm_runV (k := 1) Z G F N (As := [.int x13]) (rest := []) (c_X12_must hE ho _) (by rw [eq_of_beq hk16]; decide) (by rw [eq_of_beq hk16]; rfl) kw_1030 kw_1032 kp_29 kw_6 kw_1033 yd_X12_must rfl (by decide) (by decide) hl.1 (Nat.le_of_ble_eq_true rfl) d_X12_spells_16 (Nat.le_refl 0) (Nat.le_refl 0)) (fun S16 H locs _ F hf => ?_)
        obtain ⟨x19, ex19⟩ : ∃ y : Int32, y = a2 + 1 := ⟨_, rfl⟩
        have hf := fm_let_at ex19 hf
        refine lv_iinc (v := x19) (lv' := [(2, .int x19), (0, .ref (ad r0)), (1, .ref (sk t1))]) hx hb d_X12_spells_19 hl (k := 2) rfl (by rw [ex19]; rfl) (by decide) rfl (fun ls hl => ?_)
        refine lv_goto (tgt := 2) hx hb d_X12_spells_22 (by decide) ?_
        exact ih r0 t1 x19 S16 _ _ _ F (lv_sub hl [1, 2, 0] rfl) hf
  unfold m_X12_spells at hf
  refine lv_iconst (v := 0) hx hb d_X12_spells_0 (by decide) ?_
  refine lv_topi (fun x1 ex1 => ?_)
  have hf := fm_let_at ex1 hf
  refine lv_istore_n (lv' := [(2, .int x1), (0, .ref (ad r0)), (1, .ref (sk t1))]) hx hb d_X12_spells_1 rfl hl (by decide) rfl (fun ls hl => ?_)
  exact (hL fm_LF) r0 t1 x1 S _ _ _ F (lv_sub hl [1, 2, 0] rfl) hf
theorem d_X12_among_0 : decode prog_14_method_13_code 0 = .ok (.iconst 0, 1) := by decide +kernel
theorem d_X12_among_1 : decode prog_14_method_13_code 1 = .ok (.istore_n 2, 1) := by decide +kernel
theorem d_X12_among_2 : decode prog_14_method_13_code 2 = .ok (.iload_n 2, 1) := by decide +kernel
theorem d_X12_among_3 : decode prog_14_method_13_code 3 = .ok (.aload_n 1, 1) := by decide +kernel
theorem d_X12_among_4 : decode prog_14_method_13_code 4 = .ok (.invokevirtual 62, 3) := by decide +kernel
theorem d_X12_among_7 : decode prog_14_method_13_code 7 = .ok (.if_icmp .ge 33, 3) := by decide +kernel
theorem d_X12_among_10 : decode prog_14_method_13_code 10 = .ok (.aload_n 0, 1) := by decide +kernel
theorem d_X12_among_11 : decode prog_14_method_13_code 11 = .ok (.invokevirtual 58, 3) := by decide +kernel
theorem d_X12_among_14 : decode prog_14_method_13_code 14 = .ok (.aload_n 1, 1) := by decide +kernel
theorem d_X12_among_15 : decode prog_14_method_13_code 15 = .ok (.iload_n 2, 1) := by decide +kernel
theorem d_X12_among_16 : decode prog_14_method_13_code 16 = .ok (.invokevirtual 67, 3) := by decide +kernel
theorem d_X12_among_19 : decode prog_14_method_13_code 19 = .ok (.if_icmp .ne 15, 3) := by decide +kernel
theorem d_X12_among_22 : decode prog_14_method_13_code 22 = .ok (.aload_n 0, 1) := by decide +kernel
theorem d_X12_among_23 : decode prog_14_method_13_code 23 = .ok (.dup, 1) := by decide +kernel
theorem d_X12_among_24 : decode prog_14_method_13_code 24 = .ok (.getfield 48, 3) := by decide +kernel
theorem d_X12_among_27 : decode prog_14_method_13_code 27 = .ok (.iconst 1, 1) := by decide +kernel
theorem d_X12_among_28 : decode prog_14_method_13_code 28 = .ok (.iadd, 1) := by decide +kernel
theorem d_X12_among_29 : decode prog_14_method_13_code 29 = .ok (.putfield 48, 3) := by decide +kernel
theorem d_X12_among_32 : decode prog_14_method_13_code 32 = .ok (.iload_n 2, 1) := by decide +kernel
theorem d_X12_among_33 : decode prog_14_method_13_code 33 = .ok (.ireturn, 1) := by decide +kernel
theorem d_X12_among_34 : decode prog_14_method_13_code 34 = .ok (.iinc 2 1, 3) := by decide +kernel
theorem d_X12_among_37 : decode prog_14_method_13_code 37 = .ok (.goto (-35), 3) := by decide +kernel
theorem d_X12_among_40 : decode prog_14_method_13_code 40 = .ok (.iconst (-1), 1) := by decide +kernel
theorem d_X12_among_41 : decode prog_14_method_13_code 41 = .ok (.ireturn, 1) := by decide +kernel
def k_X12_among_2 (kap lam : Nat → Nat) (go2 : Nat → Nat → Int32 → fm_M → Option (Int32 × fm_M)) (r0 : Nat) (t1 : Nat) (a2 : Int32)  (S : fm_M) : Option (Int32 × fm_M) :=
  fm_slen_ t1 fun x4 =>
  if x4 ≤ a2 then (
   some ((-1), S)
  ) else (
   fm_ck (kap r0 == 12) <|
   fm_b1 (m_X12_here kap lam r0 S) fun x11 =>
   fm_sat_ t1 a2 fun x16 =>
   if x11 = x16 then (
    fm_gi kap 12 r0 6 S fun x24 =>
    fm_pi kap 12 r0 6 S (x24 + 1) fun S29 =>
    some (a2, S29)
   ) else (
    fm_let (a2 + 1 : Int32) fun x34 =>
    go2 r0 t1 x34 S
   )
  )
def b_X12_among_2 (kap lam : Nat → Nat) : Nat → Nat → Nat → Int32 → fm_M → Option (Int32 × fm_M)
  | 0 => fun _ _ _ _ => none
  | n + 1 => k_X12_among_2 kap lam (b_X12_among_2 kap lam n)
def m_X12_among (kap lam : Nat → Nat) (r0 : Nat) (t1 : Nat) (S : fm_M) : Option (Int32 × fm_M) :=
  fm_let (0 : Int32) fun x1 =>
  b_X12_among_2 kap lam fm_LF r0 t1 x1 S
set_option maxHeartbeats 4000000 in
set_option maxRecDepth 100000 in
theorem c_X12_among {l : Launch} {D : va_G} {ids kap lam : Nat → Nat} {RL : List Nat} {ad sk sv : Nat → Nat} {S : fm_M} {r0 : Nat} {t1 : Nat} {r : Int32} {u : fm_M} (hE : fm_E kap RL ad) (hf : m_X12_among kap lam r0 t1 S = some (r, u)) (sz : Nat) : fm_MI l y_X12_among prog_14_method_13_code 3 (Option.some Jvm.ClassFile.FieldType.int) 6 D ids kap lam RL ad sk sv S [.ref (ad r0), .ref (sk t1)] sz r u := by
  refine fm_open rfl hE (Nat.le_of_ble_eq_true rfl) (fun p e s m args below meth c ls Z hr hlk G F N hl hsz => ?_)
  subst hsz
  obtain ⟨hx, hb, hml, hown, hts⟩ := id Z
  have hl : lv_has ls 3 [(0, .ref (ad r0)), (1, .ref (sk t1))] := hl
  generalize hQ : MQ below _ args s 0 0 (fm_A RL ad s.heap.size) = Qf
  have hL : ∀ n : Nat, (∀ (r0 : Nat) (t1 : Nat) (a2 : Int32)  (S : fm_M) (H : Heap) (locs : List Loc) (ls : Array Slot), fm_F D ids kap lam RL ad S (fm_A RL ad s.heap.size) s.heap H locs → lv_has ls 3 [(0, .ref (ad r0)), (1, .ref (sk t1)), (2, .int a2)] → b_X12_among_2 kap lam n r0 t1 a2 S = some (r, u) → W p l e (fm_rm 6) s m args below meth c H locs 0 0 Qf (F0 m 2 ls [])) := by
    intro n
    induction n with
    | zero => exact fun _ _ _ _ _ _ _ _ _ hf => absurd hf (by intro h; cases h)
    | succ n ih =>
      intro r0 t1 a2 S H locs ls F hl hf
      have hf : k_X12_among_2 kap lam (b_X12_among_2 kap lam n) r0 t1 a2 S = some (r, u) := hf
      unfold k_X12_among_2 at hf
      refine lv_iload_n hx hb d_X12_among_2 rfl (lv_at hl 2 rfl) ?_
      refine lv_aload_n hx hb d_X12_among_3 rfl (lv_at hl 1 rfl) ?_
      refine fm_rslen hE Z G F N hl.1 hf kw_1028 d_X12_among_4 (by decide) (Nat.le_of_ble_eq_true rfl) (fun x4 H locs _ F hf => ?_)
      refine lv_icmp_ge (tgt := 40) hx hb d_X12_among_7 (by decide) (fun c7 => ?_) (fun c7 => ?_)
      · have hf := fm_ip c7 hf
        refine lv_iconst (v := (-1)) hx hb d_X12_among_40 (by decide) ?_
        rw [← hQ]; exact fm_reti Z hr hlk F d_X12_among_41 (Prod.mk.inj (Option.some.inj hf)).1 (Prod.mk.inj (Option.some.inj hf)).2
      · have hf := fm_ig c7 hf
        refine lv_aload_n hx hb d_X12_among_10 rfl (lv_at hl 0 rfl) ?_
        obtain ⟨hk11, hf⟩ := fm_some hf
        refine fm_rcr G F hf (fun r ho => fm_runV (k := 0) Z G F N (As := []) (rest := []) (c_X12_here hE ho _) (by rw [eq_of_beq hk11]; decide) (by rw [eq_of_beq hk11]; rfl) kw_1015 kw_1017 kp_26 kw_6 kw_1018 yd_X12_here rfl (by decide) (by decide) hl.1 (Nat.le_of_ble_eq_true rfl) d_X12_among_11 (Nat.le_refl 0) (Nat.le_refl 0)) (fun x11 H locs _ F hf => ?_)
        refine lv_aload_n hx hb d_X12_among_14 rfl (lv_at hl 1 rfl) ?_
        refine lv_iload_n hx hb d_X12_among_15 rfl (lv_at hl 2 rfl) ?_
        refine fm_rsat hE Z G F N hl.1 hf kw_1029 d_X12_among_16 (by decide) (Nat.le_of_ble_eq_true rfl) (fun x16 H locs _ F hf => ?_)
        refine lv_icmp_ne (tgt := 34) hx hb d_X12_among_19 (by decide) (fun c19 => ?_) (fun c19 => ?_)
        · have hf := fm_ig c19 hf
          obtain ⟨x34, ex34⟩ : ∃ y : Int32, y = a2 + 1 := ⟨_, rfl⟩
          have hf := fm_let_at ex34 hf
          refine lv_iinc (v := x34) (lv' := [(2, .int x34), (0, .ref (ad r0)), (1, .ref (sk t1))]) hx hb d_X12_among_34 hl (k := 2) rfl (by rw [ex34]; rfl) (by decide) rfl (fun ls hl => ?_)
          refine lv_goto (tgt := 2) hx hb d_X12_among_37 (by decide) ?_
          exact ih r0 t1 x34 S _ _ _ F (lv_sub hl [1, 2, 0] rfl) hf
        · have hf := fm_ip c19 hf
          refine lv_aload_n hx hb d_X12_among_22 rfl (lv_at hl 0 rfl) ?_
          refine lv_dup hx hb d_X12_among_23 rfl ?_
          refine fm_rgi Z G F hf fr_X12_48 d_X12_among_24 (fun x24 _ hf => ?_)
          refine lv_iconst (v := 1) hx hb d_X12_among_27 (by decide) ?_
          refine lv_iadd hx hb d_X12_among_28 ?_
          refine fm_rpi Z G F hf fs_X12_48 d_X12_among_29 (fun c h => by have h := eq_of_beq (show (c == 12) = true from h); subst h; rfl) (fun S29 H locs _ F hf => ?_)
          refine lv_iload_n hx hb d_X12_among_32 rfl (lv_at hl 2 rfl) ?_
          rw [← hQ]; exact fm_reti Z hr hlk F d_X12_among_33 (Prod.mk.inj (Option.some.inj hf)).1 (Prod.mk.inj (Option.some.inj hf)).2
  unfold m_X12_among at hf
  refine lv_iconst (v := 0) hx hb d_X12_among_0 (by decide) ?_
  refine lv_topi (fun x1 ex1 => ?_)
  have hf := fm_let_at ex1 hf
  refine lv_istore_n (lv' := [(2, .int x1), (0, .ref (ad r0)), (1, .ref (sk t1))]) hx hb d_X12_among_1 rfl hl (by decide) rfl (fun ls hl => ?_)
  exact (hL fm_LF) r0 t1 x1 S _ _ _ F (lv_sub hl [1, 2, 0] rfl) hf
theorem d_X12_factor_0 : decode prog_14_method_15_code 0 = .ok (.aload_n 0, 1) := by decide +kernel
theorem d_X12_factor_1 : decode prog_14_method_15_code 1 = .ok (.getfield 54, 3) := by decide +kernel
theorem d_X12_factor_4 : decode prog_14_method_15_code 4 = .ok (.ifCond .eq 4, 3) := by decide +kernel
theorem d_X12_factor_7 : decode prog_14_method_15_code 7 = .ok (.return_, 1) := by decide +kernel
theorem d_X12_factor_8 : decode prog_14_method_15_code 8 = .ok (.aload_n 0, 1) := by decide +kernel
theorem d_X12_factor_9 : decode prog_14_method_15_code 9 = .ok (.invokevirtual 58, 3) := by decide +kernel
theorem d_X12_factor_12 : decode prog_14_method_15_code 12 = .ok (.istore_n 1, 1) := by decide +kernel
theorem d_X12_factor_13 : decode prog_14_method_15_code 13 = .ok (.iload_n 1, 1) := by decide +kernel
theorem d_X12_factor_14 : decode prog_14_method_15_code 14 = .ok (.bipush 33, 2) := by decide +kernel
theorem d_X12_factor_16 : decode prog_14_method_15_code 16 = .ok (.if_icmp .eq 9, 3) := by decide +kernel
theorem d_X12_factor_19 : decode prog_14_method_15_code 19 = .ok (.iload_n 1, 1) := by decide +kernel
theorem d_X12_factor_20 : decode prog_14_method_15_code 20 = .ok (.bipush 40, 2) := by decide +kernel
theorem d_X12_factor_22 : decode prog_14_method_15_code 22 = .ok (.if_icmp .ne 90, 3) := by decide +kernel
theorem d_X12_factor_25 : decode prog_14_method_15_code 25 = .ok (.aload_n 0, 1) := by decide +kernel
theorem d_X12_factor_26 : decode prog_14_method_15_code 26 = .ok (.aload_n 0, 1) := by decide +kernel
theorem d_X12_factor_27 : decode prog_14_method_15_code 27 = .ok (.getfield 78, 3) := by decide +kernel
theorem d_X12_factor_30 : decode prog_14_method_15_code 30 = .ok (.iconst 5, 1) := by decide +kernel
theorem d_X12_factor_31 : decode prog_14_method_15_code 31 = .ok (.if_icmp .ne 7, 3) := by decide +kernel
theorem d_X12_factor_34 : decode prog_14_method_15_code 34 = .ok (.iconst 1, 1) := by decide +kernel
theorem d_X12_factor_35 : decode prog_14_method_15_code 35 = .ok (.goto 4, 3) := by decide +kernel
theorem d_X12_factor_38 : decode prog_14_method_15_code 38 = .ok (.iconst 0, 1) := by decide +kernel
theorem d_X12_factor_39 : decode prog_14_method_15_code 39 = .ok (.putfield 54, 3) := by decide +kernel
theorem d_X12_factor_42 : decode prog_14_method_15_code 42 = .ok (.aload_n 0, 1) := by decide +kernel
theorem d_X12_factor_43 : decode prog_14_method_15_code 43 = .ok (.dup, 1) := by decide +kernel
theorem d_X12_factor_44 : decode prog_14_method_15_code 44 = .ok (.getfield 78, 3) := by decide +kernel
theorem d_X12_factor_47 : decode prog_14_method_15_code 47 = .ok (.iconst 1, 1) := by decide +kernel
theorem d_X12_factor_48 : decode prog_14_method_15_code 48 = .ok (.iadd, 1) := by decide +kernel
theorem d_X12_factor_49 : decode prog_14_method_15_code 49 = .ok (.putfield 78, 3) := by decide +kernel
theorem d_X12_factor_52 : decode prog_14_method_15_code 52 = .ok (.aload_n 0, 1) := by decide +kernel
theorem d_X12_factor_53 : decode prog_14_method_15_code 53 = .ok (.dup, 1) := by decide +kernel
theorem d_X12_factor_54 : decode prog_14_method_15_code 54 = .ok (.getfield 48, 3) := by decide +kernel
theorem d_X12_factor_57 : decode prog_14_method_15_code 57 = .ok (.aload_n 0, 1) := by decide +kernel
theorem d_X12_factor_58 : decode prog_14_method_15_code 58 = .ok (.getfield 54, 3) := by decide +kernel
theorem d_X12_factor_61 : decode prog_14_method_15_code 61 = .ok (.ifCond .eq 7, 3) := by decide +kernel
theorem d_X12_factor_64 : decode prog_14_method_15_code 64 = .ok (.iconst 0, 1) := by decide +kernel
theorem d_X12_factor_65 : decode prog_14_method_15_code 65 = .ok (.goto 4, 3) := by decide +kernel
theorem d_X12_factor_68 : decode prog_14_method_15_code 68 = .ok (.iconst 1, 1) := by decide +kernel
theorem d_X12_factor_69 : decode prog_14_method_15_code 69 = .ok (.iadd, 1) := by decide +kernel
theorem d_X12_factor_70 : decode prog_14_method_15_code 70 = .ok (.putfield 48, 3) := by decide +kernel
theorem d_X12_factor_73 : decode prog_14_method_15_code 73 = .ok (.iload_n 1, 1) := by decide +kernel
theorem d_X12_factor_74 : decode prog_14_method_15_code 74 = .ok (.bipush 33, 2) := by decide +kernel
theorem d_X12_factor_76 : decode prog_14_method_15_code 76 = .ok (.if_icmp .ne 15, 3) := by decide +kernel
theorem d_X12_factor_79 : decode prog_14_method_15_code 79 = .ok (.aload_n 0, 1) := by decide +kernel
theorem d_X12_factor_80 : decode prog_14_method_15_code 80 = .ok (.invokevirtual 81, 3) := by decide +kernel
theorem d_X12_factor_83 : decode prog_14_method_15_code 83 = .ok (.aload_n 0, 1) := by decide +kernel
theorem d_X12_factor_84 : decode prog_14_method_15_code 84 = .ok (.iconst (-1), 1) := by decide +kernel
theorem d_X12_factor_85 : decode prog_14_method_15_code 85 = .ok (.invokevirtual 84, 3) := by decide +kernel
theorem d_X12_factor_88 : decode prog_14_method_15_code 88 = .ok (.goto 13, 3) := by decide +kernel
theorem d_X12_factor_91 : decode prog_14_method_15_code 91 = .ok (.aload_n 0, 1) := by decide +kernel
theorem d_X12_factor_92 : decode prog_14_method_15_code 92 = .ok (.invokevirtual 87, 3) := by decide +kernel
theorem d_X12_factor_95 : decode prog_14_method_15_code 95 = .ok (.aload_n 0, 1) := by decide +kernel
theorem d_X12_factor_96 : decode prog_14_method_15_code 96 = .ok (.bipush 41, 2) := by decide +kernel
theorem d_X12_factor_98 : decode prog_14_method_15_code 98 = .ok (.invokevirtual 71, 3) := by decide +kernel
theorem d_X12_factor_101 : decode prog_14_method_15_code 101 = .ok (.aload_n 0, 1) := by decide +kernel
theorem d_X12_factor_102 : decode prog_14_method_15_code 102 = .ok (.dup, 1) := by decide +kernel
theorem d_X12_factor_103 : decode prog_14_method_15_code 103 = .ok (.getfield 78, 3) := by decide +kernel
theorem d_X12_factor_106 : decode prog_14_method_15_code 106 = .ok (.iconst 1, 1) := by decide +kernel
theorem d_X12_factor_107 : decode prog_14_method_15_code 107 = .ok (.isub, 1) := by decide +kernel
theorem d_X12_factor_108 : decode prog_14_method_15_code 108 = .ok (.putfield 78, 3) := by decide +kernel
theorem d_X12_factor_111 : decode prog_14_method_15_code 111 = .ok (.return_, 1) := by decide +kernel
theorem d_X12_factor_112 : decode prog_14_method_15_code 112 = .ok (.aload_n 0, 1) := by decide +kernel
theorem d_X12_factor_113 : decode prog_14_method_15_code 113 = .ok (.ldc 90, 2) := by decide +kernel
theorem d_X12_factor_115 : decode prog_14_method_15_code 115 = .ok (.invokevirtual 92, 3) := by decide +kernel
theorem d_X12_factor_118 : decode prog_14_method_15_code 118 = .ok (.istore_n 2, 1) := by decide +kernel
theorem d_X12_factor_119 : decode prog_14_method_15_code 119 = .ok (.aload_n 0, 1) := by decide +kernel
theorem d_X12_factor_120 : decode prog_14_method_15_code 120 = .ok (.iload_n 2, 1) := by decide +kernel
theorem d_X12_factor_121 : decode prog_14_method_15_code 121 = .ok (.iconst (-1), 1) := by decide +kernel
theorem d_X12_factor_122 : decode prog_14_method_15_code 122 = .ok (.if_icmp .ne 7, 3) := by decide +kernel
theorem d_X12_factor_125 : decode prog_14_method_15_code 125 = .ok (.iconst 1, 1) := by decide +kernel
theorem d_X12_factor_126 : decode prog_14_method_15_code 126 = .ok (.goto 4, 3) := by decide +kernel
theorem d_X12_factor_129 : decode prog_14_method_15_code 129 = .ok (.iconst 0, 1) := by decide +kernel
theorem d_X12_factor_130 : decode prog_14_method_15_code 130 = .ok (.putfield 54, 3) := by decide +kernel
theorem d_X12_factor_133 : decode prog_14_method_15_code 133 = .ok (.aload_n 0, 1) := by decide +kernel
theorem d_X12_factor_134 : decode prog_14_method_15_code 134 = .ok (.getfield 54, 3) := by decide +kernel
theorem d_X12_factor_137 : decode prog_14_method_15_code 137 = .ok (.ifCond .eq 7, 3) := by decide +kernel
theorem d_X12_factor_140 : decode prog_14_method_15_code 140 = .ok (.iconst 0, 1) := by decide +kernel
theorem d_X12_factor_141 : decode prog_14_method_15_code 141 = .ok (.goto 9, 3) := by decide +kernel
theorem d_X12_factor_144 : decode prog_14_method_15_code 144 = .ok (.aload_n 0, 1) := by decide +kernel
theorem d_X12_factor_145 : decode prog_14_method_15_code 145 = .ok (.ldc 96, 2) := by decide +kernel
theorem d_X12_factor_147 : decode prog_14_method_15_code 147 = .ok (.invokevirtual 92, 3) := by decide +kernel
theorem d_X12_factor_150 : decode prog_14_method_15_code 150 = .ok (.istore_n 3, 1) := by decide +kernel
theorem d_X12_factor_151 : decode prog_14_method_15_code 151 = .ok (.aload_n 0, 1) := by decide +kernel
theorem d_X12_factor_152 : decode prog_14_method_15_code 152 = .ok (.aload_n 0, 1) := by decide +kernel
theorem d_X12_factor_153 : decode prog_14_method_15_code 153 = .ok (.getfield 54, 3) := by decide +kernel
theorem d_X12_factor_156 : decode prog_14_method_15_code 156 = .ok (.ifCond .ne 8, 3) := by decide +kernel
theorem d_X12_factor_159 : decode prog_14_method_15_code 159 = .ok (.iload_n 3, 1) := by decide +kernel
theorem d_X12_factor_160 : decode prog_14_method_15_code 160 = .ok (.iconst (-1), 1) := by decide +kernel
theorem d_X12_factor_161 : decode prog_14_method_15_code 161 = .ok (.if_icmp .ne 7, 3) := by decide +kernel
theorem d_X12_factor_164 : decode prog_14_method_15_code 164 = .ok (.iconst 1, 1) := by decide +kernel
theorem d_X12_factor_165 : decode prog_14_method_15_code 165 = .ok (.goto 4, 3) := by decide +kernel
theorem d_X12_factor_168 : decode prog_14_method_15_code 168 = .ok (.iconst 0, 1) := by decide +kernel
theorem d_X12_factor_169 : decode prog_14_method_15_code 169 = .ok (.putfield 54, 3) := by decide +kernel
theorem d_X12_factor_172 : decode prog_14_method_15_code 172 = .ok (.aload_n 0, 1) := by decide +kernel
theorem d_X12_factor_173 : decode prog_14_method_15_code 173 = .ok (.invokevirtual 98, 3) := by decide +kernel
theorem d_X12_factor_176 : decode prog_14_method_15_code 176 = .ok (.istore 4, 2) := by decide +kernel
theorem d_X12_factor_178 : decode prog_14_method_15_code 178 = .ok (.aload_n 0, 1) := by decide +kernel
theorem d_X12_factor_179 : decode prog_14_method_15_code 179 = .ok (.iload_n 2, 1) := by decide +kernel
theorem d_X12_factor_180 : decode prog_14_method_15_code 180 = .ok (.bipush 8, 2) := by decide +kernel
theorem d_X12_factor_182 : decode prog_14_method_15_code 182 = .ok (.iload_n 3, 1) := by decide +kernel
theorem d_X12_factor_183 : decode prog_14_method_15_code 183 = .ok (.imul, 1) := by decide +kernel
theorem d_X12_factor_184 : decode prog_14_method_15_code 184 = .ok (.iadd, 1) := by decide +kernel
theorem d_X12_factor_185 : decode prog_14_method_15_code 185 = .ok (.bipush 32, 2) := by decide +kernel
theorem d_X12_factor_187 : decode prog_14_method_15_code 187 = .ok (.iload 4, 2) := by decide +kernel
theorem d_X12_factor_189 : decode prog_14_method_15_code 189 = .ok (.imul, 1) := by decide +kernel
theorem d_X12_factor_190 : decode prog_14_method_15_code 190 = .ok (.iadd, 1) := by decide +kernel
theorem d_X12_factor_191 : decode prog_14_method_15_code 191 = .ok (.invokevirtual 84, 3) := by decide +kernel
theorem d_X12_factor_194 : decode prog_14_method_15_code 194 = .ok (.return_, 1) := by decide +kernel
def k_X12_factor_39 (kap lam : Nat → Nat) (go_X12_factor : Nat → fm_M → Option fm_M) (go_X12_every : Nat → fm_M → Option fm_M) (go_X12_some : Nat → fm_M → Option fm_M) (go39 : Nat → Int32 → Int32 → Nat → fm_M → Option fm_M) (go150 : Nat → Int32 → Int32 → fm_M → Option fm_M) (r0 : Nat) (a1 : Int32) (ak0 : Int32) (rk1 : Nat) (S : fm_M) : Option fm_M :=
  fm_pz kap 12 rk1 8 S ak0 fun S39 =>
  fm_gi kap 12 r0 9 S39 fun x44 =>
  fm_pi kap 12 r0 9 S39 (x44 + 1) fun S49 =>
  fm_gi kap 12 r0 6 S49 fun x54 =>
  fm_gi kap 12 r0 8 S49 fun x58 =>
  if x58 = 0 then (
   fm_pi kap 12 r0 6 S49 (x54 + 1) fun S70 =>
   if a1 = 33 then (
    fm_ck (kap r0 == 12) <|
    fm_b1 (go_X12_factor r0 S70) fun S80 =>
    fm_ck (kap r0 == 12) <|
    fm_b1 (m_X12_emits kap lam r0 (-1) S80) fun S85 =>
    fm_gi kap 12 r0 9 S85 fun x103 =>
    fm_pi kap 12 r0 9 S85 (x103 - 1) fun S108 =>
    some S108
   ) else (
    fm_ck (kap r0 == 12) <|
    fm_b1 (go_X12_some r0 S70) fun S92 =>
    fm_ck (kap r0 == 12) <|
    fm_b1 (m_X12_must kap lam r0 41 S92) fun S98 =>
    fm_gi kap 12 r0 9 S98 fun x103 =>
    fm_pi kap 12 r0 9 S98 (x103 - 1) fun S108 =>
    some S108
   )
  ) else (
   fm_pi kap 12 r0 6 S49 (x54 + 0) fun S70 =>
   if a1 = 33 then (
    fm_ck (kap r0 == 12) <|
    fm_b1 (go_X12_factor r0 S70) fun S80 =>
    fm_ck (kap r0 == 12) <|
    fm_b1 (m_X12_emits kap lam r0 (-1) S80) fun S85 =>
    fm_gi kap 12 r0 9 S85 fun x103 =>
    fm_pi kap 12 r0 9 S85 (x103 - 1) fun S108 =>
    some S108
   ) else (
    fm_ck (kap r0 == 12) <|
    fm_b1 (go_X12_some r0 S70) fun S92 =>
    fm_ck (kap r0 == 12) <|
    fm_b1 (m_X12_must kap lam r0 41 S92) fun S98 =>
    fm_gi kap 12 r0 9 S98 fun x103 =>
    fm_pi kap 12 r0 9 S98 (x103 - 1) fun S108 =>
    some S108
   )
  )
def k_X12_factor_150 (kap lam : Nat → Nat) (go_X12_factor : Nat → fm_M → Option fm_M) (go_X12_every : Nat → fm_M → Option fm_M) (go_X12_some : Nat → fm_M → Option fm_M) (go39 : Nat → Int32 → Int32 → Nat → fm_M → Option fm_M) (go150 : Nat → Int32 → Int32 → fm_M → Option fm_M) (r0 : Nat) (a2 : Int32) (ak0 : Int32) (S : fm_M) : Option fm_M :=
  fm_gi kap 12 r0 8 S fun x153 =>
  if x153 = 0 then (
   if ak0 = (-1) then (
    fm_pz kap 12 r0 8 S 1 fun S169 =>
    fm_ck (kap r0 == 12) <|
    fm_bi (m_X12_figures kap lam r0 S169) fun x173 S173 =>
    fm_ck (kap r0 == 12) <|
    fm_b1 (m_X12_emits kap lam r0 ((a2 + (8 * ak0)) + (32 * x173)) S173) fun S191 =>
    some S191
   ) else (
    fm_pz kap 12 r0 8 S 0 fun S169 =>
    fm_ck (kap r0 == 12) <|
    fm_bi (m_X12_figures kap lam r0 S169) fun x173 S173 =>
    fm_ck (kap r0 == 12) <|
    fm_b1 (m_X12_emits kap lam r0 ((a2 + (8 * ak0)) + (32 * x173)) S173) fun S191 =>
    some S191
   )
  ) else (
   fm_pz kap 12 r0 8 S 1 fun S169 =>
   fm_ck (kap r0 == 12) <|
   fm_bi (m_X12_figures kap lam r0 S169) fun x173 S173 =>
   fm_ck (kap r0 == 12) <|
   fm_b1 (m_X12_emits kap lam r0 ((a2 + (8 * ak0)) + (32 * x173)) S173) fun S191 =>
   some S191
  )
def bs_X12_factor (kap lam : Nat → Nat) (go_X12_factor : Nat → fm_M → Option fm_M) (go_X12_every : Nat → fm_M → Option fm_M) (go_X12_some : Nat → fm_M → Option fm_M) : Nat → (Nat → Int32 → Int32 → Nat → fm_M → Option fm_M) × (Nat → Int32 → Int32 → fm_M → Option fm_M)
  | 0 => ((fun _ _ _ _ _ => none), (fun _ _ _ _ => none))
  | n + 1 => (k_X12_factor_39 kap lam go_X12_factor go_X12_every go_X12_some (bs_X12_factor kap lam go_X12_factor go_X12_every go_X12_some n).1 (bs_X12_factor kap lam go_X12_factor go_X12_every go_X12_some n).2, k_X12_factor_150 kap lam go_X12_factor go_X12_every go_X12_some (bs_X12_factor kap lam go_X12_factor go_X12_every go_X12_some n).1 (bs_X12_factor kap lam go_X12_factor go_X12_every go_X12_some n).2)
def b_X12_factor_39 (kap lam : Nat → Nat) (go_X12_factor : Nat → fm_M → Option fm_M) (go_X12_every : Nat → fm_M → Option fm_M) (go_X12_some : Nat → fm_M → Option fm_M) (n : Nat) : Nat → Int32 → Int32 → Nat → fm_M → Option fm_M := (bs_X12_factor kap lam go_X12_factor go_X12_every go_X12_some n).1
def b_X12_factor_150 (kap lam : Nat → Nat) (go_X12_factor : Nat → fm_M → Option fm_M) (go_X12_every : Nat → fm_M → Option fm_M) (go_X12_some : Nat → fm_M → Option fm_M) (n : Nat) : Nat → Int32 → Int32 → fm_M → Option fm_M := (bs_X12_factor kap lam go_X12_factor go_X12_every go_X12_some n).2
def s_X12_factor (kap lam : Nat → Nat) (go_X12_factor : Nat → fm_M → Option fm_M) (go_X12_every : Nat → fm_M → Option fm_M) (go_X12_some : Nat → fm_M → Option fm_M) (r0 : Nat) (S : fm_M) : Option fm_M :=
  fm_gi kap 12 r0 8 S fun x1 =>
  if x1 = 0 then (
   fm_ck (kap r0 == 12) <|
   fm_b1 (m_X12_here kap lam r0 S) fun x9 =>
   if x9 = 33 then (
    fm_gi kap 12 r0 9 S fun x27 =>
    if x27 = 5 then (
     b_X12_factor_39 kap lam go_X12_factor go_X12_every go_X12_some fm_LF r0 x9 1 r0 S
    ) else (
     b_X12_factor_39 kap lam go_X12_factor go_X12_every go_X12_some fm_LF r0 x9 0 r0 S
    )
   ) else (
    if x9 = 40 then (
     fm_gi kap 12 r0 9 S fun x27 =>
     if x27 = 5 then (
      b_X12_factor_39 kap lam go_X12_factor go_X12_every go_X12_some fm_LF r0 x9 1 r0 S
     ) else (
      b_X12_factor_39 kap lam go_X12_factor go_X12_every go_X12_some fm_LF r0 x9 0 r0 S
     )
    ) else (
     fm_ck (kap r0 == 12) <|
     fm_bi (m_X12_among kap lam r0 4 S) fun x115 S115 =>
     if x115 = (-1) then (
      fm_pz kap 12 r0 8 S115 1 fun S130 =>
      fm_gi kap 12 r0 8 S130 fun x134 =>
      if x134 = 0 then (
       fm_ck (kap r0 == 12) <|
       fm_bi (m_X12_among kap lam r0 5 S130) fun x147 S147 =>
       b_X12_factor_150 kap lam go_X12_factor go_X12_every go_X12_some fm_LF r0 x115 x147 S147
      ) else (
       b_X12_factor_150 kap lam go_X12_factor go_X12_every go_X12_some fm_LF r0 x115 0 S130
      )
     ) else (
      fm_pz kap 12 r0 8 S115 0 fun S130 =>
      fm_gi kap 12 r0 8 S130 fun x134 =>
      if x134 = 0 then (
       fm_ck (kap r0 == 12) <|
       fm_bi (m_X12_among kap lam r0 5 S130) fun x147 S147 =>
       b_X12_factor_150 kap lam go_X12_factor go_X12_every go_X12_some fm_LF r0 x115 x147 S147
      ) else (
       b_X12_factor_150 kap lam go_X12_factor go_X12_every go_X12_some fm_LF r0 x115 0 S130
      )
     )
    )
   )
  ) else (
   some S
  )
theorem d_X12_every_0 : decode prog_14_method_16_code 0 = .ok (.aload_n 0, 1) := by decide +kernel
theorem d_X12_every_1 : decode prog_14_method_16_code 1 = .ok (.invokevirtual 81, 3) := by decide +kernel
theorem d_X12_every_4 : decode prog_14_method_16_code 4 = .ok (.aload_n 0, 1) := by decide +kernel
theorem d_X12_every_5 : decode prog_14_method_16_code 5 = .ok (.getfield 54, 3) := by decide +kernel
theorem d_X12_every_8 : decode prog_14_method_16_code 8 = .ok (.ifCond .ne 35, 3) := by decide +kernel
theorem d_X12_every_11 : decode prog_14_method_16_code 11 = .ok (.aload_n 0, 1) := by decide +kernel
theorem d_X12_every_12 : decode prog_14_method_16_code 12 = .ok (.invokevirtual 58, 3) := by decide +kernel
theorem d_X12_every_15 : decode prog_14_method_16_code 15 = .ok (.bipush 38, 2) := by decide +kernel
theorem d_X12_every_17 : decode prog_14_method_16_code 17 = .ok (.if_icmp .ne 26, 3) := by decide +kernel
theorem d_X12_every_20 : decode prog_14_method_16_code 20 = .ok (.aload_n 0, 1) := by decide +kernel
theorem d_X12_every_21 : decode prog_14_method_16_code 21 = .ok (.dup, 1) := by decide +kernel
theorem d_X12_every_22 : decode prog_14_method_16_code 22 = .ok (.getfield 48, 3) := by decide +kernel
theorem d_X12_every_25 : decode prog_14_method_16_code 25 = .ok (.iconst 1, 1) := by decide +kernel
theorem d_X12_every_26 : decode prog_14_method_16_code 26 = .ok (.iadd, 1) := by decide +kernel
theorem d_X12_every_27 : decode prog_14_method_16_code 27 = .ok (.putfield 48, 3) := by decide +kernel
theorem d_X12_every_30 : decode prog_14_method_16_code 30 = .ok (.aload_n 0, 1) := by decide +kernel
theorem d_X12_every_31 : decode prog_14_method_16_code 31 = .ok (.invokevirtual 81, 3) := by decide +kernel
theorem d_X12_every_34 : decode prog_14_method_16_code 34 = .ok (.aload_n 0, 1) := by decide +kernel
theorem d_X12_every_35 : decode prog_14_method_16_code 35 = .ok (.bipush (-2), 2) := by decide +kernel
theorem d_X12_every_37 : decode prog_14_method_16_code 37 = .ok (.invokevirtual 84, 3) := by decide +kernel
theorem d_X12_every_40 : decode prog_14_method_16_code 40 = .ok (.goto (-36), 3) := by decide +kernel
theorem d_X12_every_43 : decode prog_14_method_16_code 43 = .ok (.return_, 1) := by decide +kernel
def k_X12_every_4 (kap lam : Nat → Nat) (go_X12_factor : Nat → fm_M → Option fm_M) (go_X12_every : Nat → fm_M → Option fm_M) (go_X12_some : Nat → fm_M → Option fm_M) (go4 : Nat → fm_M → Option fm_M) (r0 : Nat)  (S : fm_M) : Option fm_M :=
  fm_gi kap 12 r0 8 S fun x5 =>
  if x5 = 0 then (
   fm_ck (kap r0 == 12) <|
   fm_b1 (m_X12_here kap lam r0 S) fun x12 =>
   if x12 = 38 then (
    fm_gi kap 12 r0 6 S fun x22 =>
    fm_pi kap 12 r0 6 S (x22 + 1) fun S27 =>
    fm_ck (kap r0 == 12) <|
    fm_b1 (go_X12_factor r0 S27) fun S31 =>
    fm_ck (kap r0 == 12) <|
    fm_b1 (m_X12_emits kap lam r0 (-2) S31) fun S37 =>
    go4 r0 S37
   ) else (
    some S
   )
  ) else (
   some S
  )
def b_X12_every_4 (kap lam : Nat → Nat) (go_X12_factor : Nat → fm_M → Option fm_M) (go_X12_every : Nat → fm_M → Option fm_M) (go_X12_some : Nat → fm_M → Option fm_M) : Nat → Nat → fm_M → Option fm_M
  | 0 => fun _ _ => none
  | n + 1 => k_X12_every_4 kap lam go_X12_factor go_X12_every go_X12_some (b_X12_every_4 kap lam go_X12_factor go_X12_every go_X12_some n)
def s_X12_every (kap lam : Nat → Nat) (go_X12_factor : Nat → fm_M → Option fm_M) (go_X12_every : Nat → fm_M → Option fm_M) (go_X12_some : Nat → fm_M → Option fm_M) (r0 : Nat) (S : fm_M) : Option fm_M :=
  fm_ck (kap r0 == 12) <|
  fm_b1 (go_X12_factor r0 S) fun S1 =>
  b_X12_every_4 kap lam go_X12_factor go_X12_every go_X12_some fm_LF r0 S1
theorem d_X12_some_0 : decode prog_14_method_17_code 0 = .ok (.aload_n 0, 1) := by decide +kernel
theorem d_X12_some_1 : decode prog_14_method_17_code 1 = .ok (.invokevirtual 101, 3) := by decide +kernel
theorem d_X12_some_4 : decode prog_14_method_17_code 4 = .ok (.aload_n 0, 1) := by decide +kernel
theorem d_X12_some_5 : decode prog_14_method_17_code 5 = .ok (.getfield 54, 3) := by decide +kernel
theorem d_X12_some_8 : decode prog_14_method_17_code 8 = .ok (.ifCond .ne 35, 3) := by decide +kernel
theorem d_X12_some_11 : decode prog_14_method_17_code 11 = .ok (.aload_n 0, 1) := by decide +kernel
theorem d_X12_some_12 : decode prog_14_method_17_code 12 = .ok (.invokevirtual 58, 3) := by decide +kernel
theorem d_X12_some_15 : decode prog_14_method_17_code 15 = .ok (.bipush 124, 2) := by decide +kernel
theorem d_X12_some_17 : decode prog_14_method_17_code 17 = .ok (.if_icmp .ne 26, 3) := by decide +kernel
theorem d_X12_some_20 : decode prog_14_method_17_code 20 = .ok (.aload_n 0, 1) := by decide +kernel
theorem d_X12_some_21 : decode prog_14_method_17_code 21 = .ok (.dup, 1) := by decide +kernel
theorem d_X12_some_22 : decode prog_14_method_17_code 22 = .ok (.getfield 48, 3) := by decide +kernel
theorem d_X12_some_25 : decode prog_14_method_17_code 25 = .ok (.iconst 1, 1) := by decide +kernel
theorem d_X12_some_26 : decode prog_14_method_17_code 26 = .ok (.iadd, 1) := by decide +kernel
theorem d_X12_some_27 : decode prog_14_method_17_code 27 = .ok (.putfield 48, 3) := by decide +kernel
theorem d_X12_some_30 : decode prog_14_method_17_code 30 = .ok (.aload_n 0, 1) := by decide +kernel
theorem d_X12_some_31 : decode prog_14_method_17_code 31 = .ok (.invokevirtual 101, 3) := by decide +kernel
theorem d_X12_some_34 : decode prog_14_method_17_code 34 = .ok (.aload_n 0, 1) := by decide +kernel
theorem d_X12_some_35 : decode prog_14_method_17_code 35 = .ok (.bipush (-3), 2) := by decide +kernel
theorem d_X12_some_37 : decode prog_14_method_17_code 37 = .ok (.invokevirtual 84, 3) := by decide +kernel
theorem d_X12_some_40 : decode prog_14_method_17_code 40 = .ok (.goto (-36), 3) := by decide +kernel
theorem d_X12_some_43 : decode prog_14_method_17_code 43 = .ok (.return_, 1) := by decide +kernel
def k_X12_some_4 (kap lam : Nat → Nat) (go_X12_factor : Nat → fm_M → Option fm_M) (go_X12_every : Nat → fm_M → Option fm_M) (go_X12_some : Nat → fm_M → Option fm_M) (go4 : Nat → fm_M → Option fm_M) (r0 : Nat)  (S : fm_M) : Option fm_M :=
  fm_gi kap 12 r0 8 S fun x5 =>
  if x5 = 0 then (
   fm_ck (kap r0 == 12) <|
   fm_b1 (m_X12_here kap lam r0 S) fun x12 =>
   if x12 = 124 then (
    fm_gi kap 12 r0 6 S fun x22 =>
    fm_pi kap 12 r0 6 S (x22 + 1) fun S27 =>
    fm_ck (kap r0 == 12) <|
    fm_b1 (go_X12_every r0 S27) fun S31 =>
    fm_ck (kap r0 == 12) <|
    fm_b1 (m_X12_emits kap lam r0 (-3) S31) fun S37 =>
    go4 r0 S37
   ) else (
    some S
   )
  ) else (
   some S
  )
def b_X12_some_4 (kap lam : Nat → Nat) (go_X12_factor : Nat → fm_M → Option fm_M) (go_X12_every : Nat → fm_M → Option fm_M) (go_X12_some : Nat → fm_M → Option fm_M) : Nat → Nat → fm_M → Option fm_M
  | 0 => fun _ _ => none
  | n + 1 => k_X12_some_4 kap lam go_X12_factor go_X12_every go_X12_some (b_X12_some_4 kap lam go_X12_factor go_X12_every go_X12_some n)
def s_X12_some (kap lam : Nat → Nat) (go_X12_factor : Nat → fm_M → Option fm_M) (go_X12_every : Nat → fm_M → Option fm_M) (go_X12_some : Nat → fm_M → Option fm_M) (r0 : Nat) (S : fm_M) : Option fm_M :=
  fm_ck (kap r0 == 12) <|
  fm_b1 (go_X12_every r0 S) fun S1 =>
  b_X12_some_4 kap lam go_X12_factor go_X12_every go_X12_some fm_LF r0 S1
def grp_tw (kap lam : Nat → Nat) : Nat → (Nat → fm_M → Option fm_M) × (Nat → fm_M → Option fm_M) × (Nat → fm_M → Option fm_M)
  | 0 => ((fun _ _ => none), (fun _ _ => none), (fun _ _ => none))
  | n + 1 => (s_X12_factor kap lam (grp_tw kap lam n).1 (grp_tw kap lam n).2.1 (grp_tw kap lam n).2.2, s_X12_every kap lam (grp_tw kap lam n).1 (grp_tw kap lam n).2.1 (grp_tw kap lam n).2.2, s_X12_some kap lam (grp_tw kap lam n).1 (grp_tw kap lam n).2.1 (grp_tw kap lam n).2.2)
def m_X12_factor (n : Nat) (kap lam : Nat → Nat) (r0 : Nat) (S : fm_M) : Option fm_M := (grp_tw kap lam n).1 r0 S
def m_X12_every (n : Nat) (kap lam : Nat → Nat) (r0 : Nat) (S : fm_M) : Option fm_M := (grp_tw kap lam n).2.1 r0 S
def m_X12_some (n : Nat) (kap lam : Nat → Nat) (r0 : Nat) (S : fm_M) : Option fm_M := (grp_tw kap lam n).2.2 r0 S
set_option maxHeartbeats 4000000 in
set_option maxRecDepth 100000 in
theorem cg_tw {l : Launch} {D : va_G} {ids kap lam : Nat → Nat} {RL : List Nat} {ad sk sv : Nat → Nat} (hE : fm_E kap RL ad) : ∀ nn : Nat, (∀ {S : fm_M} {r0 : Nat} {u : fm_M} , m_X12_factor nn kap lam r0 S = some u → ∀ sz, fm_MV l y_X12_factor prog_14_method_15_code 5 (Option.none : Option Jvm.ClassFile.FieldType) (7 + nn) D ids kap lam RL ad sk sv S [.ref (ad r0)] sz u) ∧ (∀ {S : fm_M} {r0 : Nat} {u : fm_M} , m_X12_every nn kap lam r0 S = some u → ∀ sz, fm_MV l y_X12_every prog_14_method_16_code 1 (Option.none : Option Jvm.ClassFile.FieldType) (7 + nn) D ids kap lam RL ad sk sv S [.ref (ad r0)] sz u) ∧ (∀ {S : fm_M} {r0 : Nat} {u : fm_M} , m_X12_some nn kap lam r0 S = some u → ∀ sz, fm_MV l y_X12_some prog_14_method_17_code 1 (Option.none : Option Jvm.ClassFile.FieldType) (7 + nn) D ids kap lam RL ad sk sv S [.ref (ad r0)] sz u) := by
  intro nn
  induction nn with
  | zero => exact ⟨fun hf => absurd hf (by intro h; cases h), fun hf => absurd hf (by intro h; cases h), fun hf => absurd hf (by intro h; cases h)⟩
  | succ nn ih =>
    obtain ⟨ih_X12_factor, ih_X12_every, ih_X12_some⟩ := ih
    refine ⟨?_, ?_, ?_⟩
    · intro S r0 u hf sz
      have hf : s_X12_factor kap lam (m_X12_factor nn kap lam) (m_X12_every nn kap lam) (m_X12_some nn kap lam) r0 S = some u := hf
      refine fm_open rfl hE (Nat.le_of_ble_eq_true rfl) (fun p e s m args below meth c ls Z hr hlk G F N hl hsz => ?_)
      subst hsz
      obtain ⟨hx, hb, hml, hown, hts⟩ := id Z
      have hl : lv_has ls 5 [(0, .ref (ad r0))] := hl
      generalize hQ : MQ below _ args s 0 0 (fm_A RL ad s.heap.size) = Qf
      have hL : ∀ n : Nat, (∀ (r0 : Nat) (a1 : Int32) (ak0 : Int32) (rk1 : Nat) (S : fm_M) (H : Heap) (locs : List Loc) (ls : Array Slot), fm_F D ids kap lam RL ad S (fm_A RL ad s.heap.size) s.heap H locs → lv_has ls 5 [(0, .ref (ad r0)), (1, .int a1)] → b_X12_factor_39 kap lam (m_X12_factor nn kap lam) (m_X12_every nn kap lam) (m_X12_some nn kap lam) n r0 a1 ak0 rk1 S = some u → W p l e (fm_rm (7 + (nn + 1))) s m args below meth c H locs 0 0 Qf (F0 m 39 ls [.int ak0, .ref (ad rk1)])) ∧ (∀ (r0 : Nat) (a2 : Int32) (ak0 : Int32) (S : fm_M) (H : Heap) (locs : List Loc) (ls : Array Slot), fm_F D ids kap lam RL ad S (fm_A RL ad s.heap.size) s.heap H locs → lv_has ls 5 [(0, .ref (ad r0)), (2, .int a2)] → b_X12_factor_150 kap lam (m_X12_factor nn kap lam) (m_X12_every nn kap lam) (m_X12_some nn kap lam) n r0 a2 ak0 S = some u → W p l e (fm_rm (7 + (nn + 1))) s m args below meth c H locs 0 0 Qf (F0 m 150 ls [.int ak0])) := by
        intro n
        induction n with
        | zero => exact ⟨fun _ _ _ _ _ _ _ _ _ _ hf => absurd hf (by intro h; cases h), fun _ _ _ _ _ _ _ _ _ hf => absurd hf (by intro h; cases h)⟩
        | succ n ih =>
          refine ⟨?_, ?_⟩
          · intro r0 a1 ak0 rk1 S H locs ls F hl hf
            have hf : k_X12_factor_39 kap lam (m_X12_factor nn kap lam) (m_X12_every nn kap lam) (m_X12_some nn kap lam) (b_X12_factor_39 kap lam (m_X12_factor nn kap lam) (m_X12_every nn kap lam) (m_X12_some nn kap lam) n) (b_X12_factor_150 kap lam (m_X12_factor nn kap lam) (m_X12_every nn kap lam) (m_X12_some nn kap lam) n) r0 a1 ak0 rk1 S = some u := hf
            unfold k_X12_factor_39 at hf
            refine fm_rpz Z G F hf fs_X12_54 d_X12_factor_39 (fun c h => by have h := eq_of_beq (show (c == 12) = true from h); subst h; rfl) (fun S39 H locs _ F hf => ?_)
            refine lv_aload_n hx hb d_X12_factor_42 rfl (lv_at hl 0 rfl) ?_
            refine lv_dup hx hb d_X12_factor_43 rfl ?_
            refine fm_rgi Z G F hf fr_X12_78 d_X12_factor_44 (fun x44 _ hf => ?_)
            refine lv_iconst (v := 1) hx hb d_X12_factor_47 (by decide) ?_
            refine lv_iadd hx hb d_X12_factor_48 ?_
            refine fm_rpi Z G F hf fs_X12_78 d_X12_factor_49 (fun c h => by have h := eq_of_beq (show (c == 12) = true from h); subst h; rfl) (fun S49 H locs _ F hf => ?_)
            refine lv_aload_n hx hb d_X12_factor_52 rfl (lv_at hl 0 rfl) ?_
            refine lv_dup hx hb d_X12_factor_53 rfl ?_
            refine fm_rgi Z G F hf fr_X12_48 d_X12_factor_54 (fun x54 _ hf => ?_)
            refine lv_aload_n hx hb d_X12_factor_57 rfl (lv_at hl 0 rfl) ?_
            refine fm_rgi Z G F hf fr_X12_54 d_X12_factor_58 (fun x58 _ hf => ?_)
            refine lv_if_eq (tgt := 68) hx hb d_X12_factor_61 (by decide) (fun c61 => ?_) (fun c61 => ?_)
            · have hf := fm_ip c61 hf
              refine lv_iconst (v := 1) hx hb d_X12_factor_68 (by decide) ?_
              refine lv_iadd hx hb d_X12_factor_69 ?_
              refine fm_rpi Z G F hf fs_X12_48 d_X12_factor_70 (fun c h => by have h := eq_of_beq (show (c == 12) = true from h); subst h; rfl) (fun S70 H locs _ F hf => ?_)
              refine lv_iload_n hx hb d_X12_factor_73 rfl (lv_at hl 1 rfl) ?_
              refine lv_bipush (v := 33) hx hb d_X12_factor_74 (by decide) ?_
              refine lv_icmp_ne (tgt := 91) hx hb d_X12_factor_76 (by decide) (fun c76 => ?_) (fun c76 => ?_)
              · have hf := fm_ig c76 hf
                refine lv_aload_n hx hb d_X12_factor_91 rfl (lv_at hl 0 rfl) ?_
                obtain ⟨hk92, hf⟩ := fm_some hf
                refine fm_rcv G F hf (fun u ho => fm_runV (k := 0) Z G F N (As := []) (rest := []) (ih_X12_some ho _) (by rw [eq_of_beq hk92]; decide) (by rw [eq_of_beq hk92]; rfl) kw_1044 kw_1046 kp_32 kw_6 kw_1047 yd_X12_some rfl (by decide) (by first | omega | decide) hl.1 (Nat.le_of_ble_eq_true rfl) d_X12_factor_92 (Nat.le_refl 0) (Nat.le_refl 0)) (fun S92 H locs _ F hf => ?_)
                refine lv_aload_n hx hb d_X12_factor_95 rfl (lv_at hl 0 rfl) ?_
                refine lv_bipush (v := 41) hx hb d_X12_factor_96 (by decide) ?_
                obtain ⟨hk98, hf⟩ := fm_some hf
                refine fm_rcv G F hf (fun u ho => fm_runV (k := 1) Z G F N (As := [.int 41]) (rest := []) (c_X12_must hE ho _) (by rw [eq_of_beq hk98]; decide) (by rw [eq_of_beq hk98]; rfl) kw_1030 kw_1032 kp_29 kw_6 kw_1033 yd_X12_must rfl (by decide) (by first | omega | decide) hl.1 (Nat.le_of_ble_eq_true rfl) d_X12_factor_98 (Nat.le_refl 0) (Nat.le_refl 0)) (fun S98 H locs _ F hf => ?_)
                refine lv_aload_n hx hb d_X12_factor_101 rfl (lv_at hl 0 rfl) ?_
                refine lv_dup hx hb d_X12_factor_102 rfl ?_
                refine fm_rgi Z G F hf fr_X12_78 d_X12_factor_103 (fun x103 _ hf => ?_)
                refine lv_iconst (v := 1) hx hb d_X12_factor_106 (by decide) ?_
                refine lv_isub hx hb d_X12_factor_107 ?_
                refine fm_rpi Z G F hf fs_X12_78 d_X12_factor_108 (fun c h => by have h := eq_of_beq (show (c == 12) = true from h); subst h; rfl) (fun S108 H locs _ F hf => ?_)
                rw [← hQ]; exact fm_retv Z hr hlk F d_X12_factor_111 (Option.some.inj hf)
              · have hf := fm_ip c76 hf
                refine lv_aload_n hx hb d_X12_factor_79 rfl (lv_at hl 0 rfl) ?_
                obtain ⟨hk80, hf⟩ := fm_some hf
                refine fm_rcv G F hf (fun u ho => fm_runV (k := 0) Z G F N (As := []) (rest := []) (ih_X12_factor ho _) (by rw [eq_of_beq hk80]; decide) (by rw [eq_of_beq hk80]; rfl) kw_1052 kw_1054 kp_34 kw_6 kw_1055 yd_X12_factor rfl (by decide) (by first | omega | decide) hl.1 (Nat.le_of_ble_eq_true rfl) d_X12_factor_80 (Nat.le_refl 0) (Nat.le_refl 0)) (fun S80 H locs _ F hf => ?_)
                refine lv_aload_n hx hb d_X12_factor_83 rfl (lv_at hl 0 rfl) ?_
                refine lv_iconst (v := (-1)) hx hb d_X12_factor_84 (by decide) ?_
                obtain ⟨hk85, hf⟩ := fm_some hf
                refine fm_rcv G F hf (fun u ho => fm_runV (k := 1) Z G F N (As := [.int (-1)]) (rest := []) (c_X12_emits hE ho _) (by rw [eq_of_beq hk85]; decide) (by rw [eq_of_beq hk85]; rfl) kw_1056 kw_1058 kp_35 kw_6 kw_1059 yd_X12_emits rfl (by decide) (by first | omega | decide) hl.1 (Nat.le_of_ble_eq_true rfl) d_X12_factor_85 (Nat.le_refl 0) (Nat.le_refl 0)) (fun S85 H locs _ F hf => ?_)
                refine lv_goto (tgt := 101) hx hb d_X12_factor_88 (by decide) ?_
                refine lv_aload_n hx hb d_X12_factor_101 rfl (lv_at hl 0 rfl) ?_
                refine lv_dup hx hb d_X12_factor_102 rfl ?_
                refine fm_rgi Z G F hf fr_X12_78 d_X12_factor_103 (fun x103 _ hf => ?_)
                refine lv_iconst (v := 1) hx hb d_X12_factor_106 (by decide) ?_
                refine lv_isub hx hb d_X12_factor_107 ?_
                refine fm_rpi Z G F hf fs_X12_78 d_X12_factor_108 (fun c h => by have h := eq_of_beq (show (c == 12) = true from h); subst h; rfl) (fun S108 H locs _ F hf => ?_)
                rw [← hQ]; exact fm_retv Z hr hlk F d_X12_factor_111 (Option.some.inj hf)
            · have hf := fm_ig c61 hf
              refine lv_iconst (v := 0) hx hb d_X12_factor_64 (by decide) ?_
              refine lv_goto (tgt := 69) hx hb d_X12_factor_65 (by decide) ?_
              refine lv_iadd hx hb d_X12_factor_69 ?_
              refine fm_rpi Z G F hf fs_X12_48 d_X12_factor_70 (fun c h => by have h := eq_of_beq (show (c == 12) = true from h); subst h; rfl) (fun S70 H locs _ F hf => ?_)
              refine lv_iload_n hx hb d_X12_factor_73 rfl (lv_at hl 1 rfl) ?_
              refine lv_bipush (v := 33) hx hb d_X12_factor_74 (by decide) ?_
              refine lv_icmp_ne (tgt := 91) hx hb d_X12_factor_76 (by decide) (fun c76 => ?_) (fun c76 => ?_)
              · have hf := fm_ig c76 hf
                refine lv_aload_n hx hb d_X12_factor_91 rfl (lv_at hl 0 rfl) ?_
                obtain ⟨hk92, hf⟩ := fm_some hf
                refine fm_rcv G F hf (fun u ho => fm_runV (k := 0) Z G F N (As := []) (rest := []) (ih_X12_some ho _) (by rw [eq_of_beq hk92]; decide) (by rw [eq_of_beq hk92]; rfl) kw_1044 kw_1046 kp_32 kw_6 kw_1047 yd_X12_some rfl (by decide) (by first | omega | decide) hl.1 (Nat.le_of_ble_eq_true rfl) d_X12_factor_92 (Nat.le_refl 0) (Nat.le_refl 0)) (fun S92 H locs _ F hf => ?_)
                refine lv_aload_n hx hb d_X12_factor_95 rfl (lv_at hl 0 rfl) ?_
                refine lv_bipush (v := 41) hx hb d_X12_factor_96 (by decide) ?_
                obtain ⟨hk98, hf⟩ := fm_some hf
                refine fm_rcv G F hf (fun u ho => fm_runV (k := 1) Z G F N (As := [.int 41]) (rest := []) (c_X12_must hE ho _) (by rw [eq_of_beq hk98]; decide) (by rw [eq_of_beq hk98]; rfl) kw_1030 kw_1032 kp_29 kw_6 kw_1033 yd_X12_must rfl (by decide) (by first | omega | decide) hl.1 (Nat.le_of_ble_eq_true rfl) d_X12_factor_98 (Nat.le_refl 0) (Nat.le_refl 0)) (fun S98 H locs _ F hf => ?_)
                refine lv_aload_n hx hb d_X12_factor_101 rfl (lv_at hl 0 rfl) ?_
                refine lv_dup hx hb d_X12_factor_102 rfl ?_
                refine fm_rgi Z G F hf fr_X12_78 d_X12_factor_103 (fun x103 _ hf => ?_)
                refine lv_iconst (v := 1) hx hb d_X12_factor_106 (by decide) ?_
                refine lv_isub hx hb d_X12_factor_107 ?_
                refine fm_rpi Z G F hf fs_X12_78 d_X12_factor_108 (fun c h => by have h := eq_of_beq (show (c == 12) = true from h); subst h; rfl) (fun S108 H locs _ F hf => ?_)
                rw [← hQ]; exact fm_retv Z hr hlk F d_X12_factor_111 (Option.some.inj hf)
              · have hf := fm_ip c76 hf
                refine lv_aload_n hx hb d_X12_factor_79 rfl (lv_at hl 0 rfl) ?_
                obtain ⟨hk80, hf⟩ := fm_some hf
                refine fm_rcv G F hf (fun u ho => fm_runV (k := 0) Z G F N (As := []) (rest := []) (ih_X12_factor ho _) (by rw [eq_of_beq hk80]; decide) (by rw [eq_of_beq hk80]; rfl) kw_1052 kw_1054 kp_34 kw_6 kw_1055 yd_X12_factor rfl (by decide) (by first | omega | decide) hl.1 (Nat.le_of_ble_eq_true rfl) d_X12_factor_80 (Nat.le_refl 0) (Nat.le_refl 0)) (fun S80 H locs _ F hf => ?_)
                refine lv_aload_n hx hb d_X12_factor_83 rfl (lv_at hl 0 rfl) ?_
                refine lv_iconst (v := (-1)) hx hb d_X12_factor_84 (by decide) ?_
                obtain ⟨hk85, hf⟩ := fm_some hf
                refine fm_rcv G F hf (fun u ho => fm_runV (k := 1) Z G F N (As := [.int (-1)]) (rest := []) (c_X12_emits hE ho _) (by rw [eq_of_beq hk85]; decide) (by rw [eq_of_beq hk85]; rfl) kw_1056 kw_1058 kp_35 kw_6 kw_1059 yd_X12_emits rfl (by decide) (by first | omega | decide) hl.1 (Nat.le_of_ble_eq_true rfl) d_X12_factor_85 (Nat.le_refl 0) (Nat.le_refl 0)) (fun S85 H locs _ F hf => ?_)
                refine lv_goto (tgt := 101) hx hb d_X12_factor_88 (by decide) ?_
                refine lv_aload_n hx hb d_X12_factor_101 rfl (lv_at hl 0 rfl) ?_
                refine lv_dup hx hb d_X12_factor_102 rfl ?_
                refine fm_rgi Z G F hf fr_X12_78 d_X12_factor_103 (fun x103 _ hf => ?_)
                refine lv_iconst (v := 1) hx hb d_X12_factor_106 (by decide) ?_
                refine lv_isub hx hb d_X12_factor_107 ?_
                refine fm_rpi Z G F hf fs_X12_78 d_X12_factor_108 (fun c h => by have h := eq_of_beq (show (c == 12) = true from h); subst h; rfl) (fun S108 H locs _ F hf => ?_)
                rw [← hQ]; exact fm_retv Z hr hlk F d_X12_factor_111 (Option.some.inj hf)
          · intro r0 a2 ak0 S H locs ls F hl hf
            have hf : k_X12_factor_150 kap lam (m_X12_factor nn kap lam) (m_X12_every nn kap lam) (m_X12_some nn kap lam) (b_X12_factor_39 kap lam (m_X12_factor nn kap lam) (m_X12_every nn kap lam) (m_X12_some nn kap lam) n) (b_X12_factor_150 kap lam (m_X12_factor nn kap lam) (m_X12_every nn kap lam) (m_X12_some nn kap lam) n) r0 a2 ak0 S = some u := hf
            unfold k_X12_factor_150 at hf
            refine lv_istore_n (lv' := [(3, .int ak0), (0, .ref (ad r0)), (2, .int a2)]) hx hb d_X12_factor_150 rfl hl (by decide) rfl (fun ls hl => ?_)
            refine lv_aload_n hx hb d_X12_factor_151 rfl (lv_at hl 1 rfl) ?_
            refine lv_aload_n hx hb d_X12_factor_152 rfl (lv_at hl 1 rfl) ?_
            refine fm_rgi Z G F hf fr_X12_54 d_X12_factor_153 (fun x153 _ hf => ?_)
            refine lv_if_ne (tgt := 164) hx hb d_X12_factor_156 (by decide) (fun c156 => ?_) (fun c156 => ?_)
            · have hf := fm_ig c156 hf
              refine lv_iconst (v := 1) hx hb d_X12_factor_164 (by decide) ?_
              refine lv_goto (tgt := 169) hx hb d_X12_factor_165 (by decide) ?_
              refine fm_rpz Z G F hf fs_X12_54 d_X12_factor_169 (fun c h => by have h := eq_of_beq (show (c == 12) = true from h); subst h; rfl) (fun S169 H locs _ F hf => ?_)
              refine lv_aload_n hx hb d_X12_factor_172 rfl (lv_at hl 1 rfl) ?_
              obtain ⟨hk173, hf⟩ := fm_some hf
              refine fm_rci G F hf (fun r u ho => fm_runV (k := 0) Z G F N (As := []) (rest := []) (c_X12_figures hE ho _) (by rw [eq_of_beq hk173]; decide) (by rw [eq_of_beq hk173]; rfl) kw_1034 kw_1036 kp_30 kw_6 kw_1037 yd_X12_figures rfl (by decide) (by first | omega | decide) hl.1 (Nat.le_of_ble_eq_true rfl) d_X12_factor_173 (Nat.le_refl 0) (Nat.le_refl 0)) (fun x173 S173 H locs _ F hf => ?_)
              refine lv_istore (lv' := [(4, .int x173), (3, .int ak0), (0, .ref (ad r0)), (2, .int a2)]) hx hb d_X12_factor_176 hl (by decide) rfl (fun ls hl => ?_)
              refine lv_aload_n hx hb d_X12_factor_178 rfl (lv_at hl 2 rfl) ?_
              refine lv_iload_n hx hb d_X12_factor_179 rfl (lv_at hl 3 rfl) ?_
              refine lv_bipush (v := 8) hx hb d_X12_factor_180 (by decide) ?_
              refine lv_iload_n hx hb d_X12_factor_182 rfl (lv_at hl 1 rfl) ?_
              refine lv_imul hx hb d_X12_factor_183 ?_
              refine lv_iadd hx hb d_X12_factor_184 ?_
              refine lv_bipush (v := 32) hx hb d_X12_factor_185 (by decide) ?_
              refine lv_iload hx hb d_X12_factor_187 (lv_at hl 0 rfl) ?_
              refine lv_imul hx hb d_X12_factor_189 ?_
              refine lv_iadd hx hb d_X12_factor_190 ?_
              obtain ⟨hk191, hf⟩ := fm_some hf
              refine fm_rcv G F hf (fun u ho => fm_runV (k := 1) Z G F N (As := [.int ((a2 + (8 * ak0)) + (32 * x173))]) (rest := []) (c_X12_emits hE ho _) (by rw [eq_of_beq hk191]; decide) (by rw [eq_of_beq hk191]; rfl) kw_1056 kw_1058 kp_35 kw_6 kw_1059 yd_X12_emits rfl (by decide) (by first | omega | decide) hl.1 (Nat.le_of_ble_eq_true rfl) d_X12_factor_191 (Nat.le_refl 0) (Nat.le_refl 0)) (fun S191 H locs _ F hf => ?_)
              rw [← hQ]; exact fm_retv Z hr hlk F d_X12_factor_194 (Option.some.inj hf)
            · have hf := fm_ip c156 hf
              refine lv_iload_n hx hb d_X12_factor_159 rfl (lv_at hl 0 rfl) ?_
              refine lv_iconst (v := (-1)) hx hb d_X12_factor_160 (by decide) ?_
              refine lv_icmp_ne (tgt := 168) hx hb d_X12_factor_161 (by decide) (fun c161 => ?_) (fun c161 => ?_)
              · have hf := fm_ig c161 hf
                refine lv_iconst (v := 0) hx hb d_X12_factor_168 (by decide) ?_
                refine fm_rpz Z G F hf fs_X12_54 d_X12_factor_169 (fun c h => by have h := eq_of_beq (show (c == 12) = true from h); subst h; rfl) (fun S169 H locs _ F hf => ?_)
                refine lv_aload_n hx hb d_X12_factor_172 rfl (lv_at hl 1 rfl) ?_
                obtain ⟨hk173, hf⟩ := fm_some hf
                refine fm_rci G F hf (fun r u ho => fm_runV (k := 0) Z G F N (As := []) (rest := []) (c_X12_figures hE ho _) (by rw [eq_of_beq hk173]; decide) (by rw [eq_of_beq hk173]; rfl) kw_1034 kw_1036 kp_30 kw_6 kw_1037 yd_X12_figures rfl (by decide) (by first | omega | decide) hl.1 (Nat.le_of_ble_eq_true rfl) d_X12_factor_173 (Nat.le_refl 0) (Nat.le_refl 0)) (fun x173 S173 H locs _ F hf => ?_)
                refine lv_istore (lv' := [(4, .int x173), (3, .int ak0), (0, .ref (ad r0)), (2, .int a2)]) hx hb d_X12_factor_176 hl (by decide) rfl (fun ls hl => ?_)
                refine lv_aload_n hx hb d_X12_factor_178 rfl (lv_at hl 2 rfl) ?_
                refine lv_iload_n hx hb d_X12_factor_179 rfl (lv_at hl 3 rfl) ?_
                refine lv_bipush (v := 8) hx hb d_X12_factor_180 (by decide) ?_
                refine lv_iload_n hx hb d_X12_factor_182 rfl (lv_at hl 1 rfl) ?_
                refine lv_imul hx hb d_X12_factor_183 ?_
                refine lv_iadd hx hb d_X12_factor_184 ?_
                refine lv_bipush (v := 32) hx hb d_X12_factor_185 (by decide) ?_
                refine lv_iload hx hb d_X12_factor_187 (lv_at hl 0 rfl) ?_
                refine lv_imul hx hb d_X12_factor_189 ?_
                refine lv_iadd hx hb d_X12_factor_190 ?_
                obtain ⟨hk191, hf⟩ := fm_some hf
                refine fm_rcv G F hf (fun u ho => fm_runV (k := 1) Z G F N (As := [.int ((a2 + (8 * ak0)) + (32 * x173))]) (rest := []) (c_X12_emits hE ho _) (by rw [eq_of_beq hk191]; decide) (by rw [eq_of_beq hk191]; rfl) kw_1056 kw_1058 kp_35 kw_6 kw_1059 yd_X12_emits rfl (by decide) (by first | omega | decide) hl.1 (Nat.le_of_ble_eq_true rfl) d_X12_factor_191 (Nat.le_refl 0) (Nat.le_refl 0)) (fun S191 H locs _ F hf => ?_)
                rw [← hQ]; exact fm_retv Z hr hlk F d_X12_factor_194 (Option.some.inj hf)
              · have hf := fm_ip c161 hf
                refine lv_iconst (v := 1) hx hb d_X12_factor_164 (by decide) ?_
                refine lv_goto (tgt := 169) hx hb d_X12_factor_165 (by decide) ?_
                refine fm_rpz Z G F hf fs_X12_54 d_X12_factor_169 (fun c h => by have h := eq_of_beq (show (c == 12) = true from h); subst h; rfl) (fun S169 H locs _ F hf => ?_)
                refine lv_aload_n hx hb d_X12_factor_172 rfl (lv_at hl 1 rfl) ?_
                obtain ⟨hk173, hf⟩ := fm_some hf
                refine fm_rci G F hf (fun r u ho => fm_runV (k := 0) Z G F N (As := []) (rest := []) (c_X12_figures hE ho _) (by rw [eq_of_beq hk173]; decide) (by rw [eq_of_beq hk173]; rfl) kw_1034 kw_1036 kp_30 kw_6 kw_1037 yd_X12_figures rfl (by decide) (by first | omega | decide) hl.1 (Nat.le_of_ble_eq_true rfl) d_X12_factor_173 (Nat.le_refl 0) (Nat.le_refl 0)) (fun x173 S173 H locs _ F hf => ?_)
                refine lv_istore (lv' := [(4, .int x173), (3, .int ak0), (0, .ref (ad r0)), (2, .int a2)]) hx hb d_X12_factor_176 hl (by decide) rfl (fun ls hl => ?_)
                refine lv_aload_n hx hb d_X12_factor_178 rfl (lv_at hl 2 rfl) ?_
                refine lv_iload_n hx hb d_X12_factor_179 rfl (lv_at hl 3 rfl) ?_
                refine lv_bipush (v := 8) hx hb d_X12_factor_180 (by decide) ?_
                refine lv_iload_n hx hb d_X12_factor_182 rfl (lv_at hl 1 rfl) ?_
                refine lv_imul hx hb d_X12_factor_183 ?_
                refine lv_iadd hx hb d_X12_factor_184 ?_
                refine lv_bipush (v := 32) hx hb d_X12_factor_185 (by decide) ?_
                refine lv_iload hx hb d_X12_factor_187 (lv_at hl 0 rfl) ?_
                refine lv_imul hx hb d_X12_factor_189 ?_
                refine lv_iadd hx hb d_X12_factor_190 ?_
                obtain ⟨hk191, hf⟩ := fm_some hf
                refine fm_rcv G F hf (fun u ho => fm_runV (k := 1) Z G F N (As := [.int ((a2 + (8 * ak0)) + (32 * x173))]) (rest := []) (c_X12_emits hE ho _) (by rw [eq_of_beq hk191]; decide) (by rw [eq_of_beq hk191]; rfl) kw_1056 kw_1058 kp_35 kw_6 kw_1059 yd_X12_emits rfl (by decide) (by first | omega | decide) hl.1 (Nat.le_of_ble_eq_true rfl) d_X12_factor_191 (Nat.le_refl 0) (Nat.le_refl 0)) (fun S191 H locs _ F hf => ?_)
                rw [← hQ]; exact fm_retv Z hr hlk F d_X12_factor_194 (Option.some.inj hf)
      unfold s_X12_factor at hf
      refine lv_aload_n hx hb d_X12_factor_0 rfl (lv_at hl 0 rfl) ?_
      refine fm_rgi Z G F hf fr_X12_54 d_X12_factor_1 (fun x1 _ hf => ?_)
      refine lv_if_eq (tgt := 8) hx hb d_X12_factor_4 (by decide) (fun c4 => ?_) (fun c4 => ?_)
      · have hf := fm_ip c4 hf
        refine lv_aload_n hx hb d_X12_factor_8 rfl (lv_at hl 0 rfl) ?_
        obtain ⟨hk9, hf⟩ := fm_some hf
        refine fm_rcr G F hf (fun r ho => fm_runV (k := 0) Z G F N (As := []) (rest := []) (c_X12_here hE ho _) (by rw [eq_of_beq hk9]; decide) (by rw [eq_of_beq hk9]; rfl) kw_1015 kw_1017 kp_26 kw_6 kw_1018 yd_X12_here rfl (by decide) (by first | omega | decide) hl.1 (Nat.le_of_ble_eq_true rfl) d_X12_factor_9 (Nat.le_refl 0) (Nat.le_refl 0)) (fun x9 H locs _ F hf => ?_)
        refine lv_istore_n (lv' := [(1, .int x9), (0, .ref (ad r0))]) hx hb d_X12_factor_12 rfl hl (by decide) rfl (fun ls hl => ?_)
        refine lv_iload_n hx hb d_X12_factor_13 rfl (lv_at hl 0 rfl) ?_
        refine lv_bipush (v := 33) hx hb d_X12_factor_14 (by decide) ?_
        refine lv_icmp_eq (tgt := 25) hx hb d_X12_factor_16 (by decide) (fun c16 => ?_) (fun c16 => ?_)
        · have hf := fm_ip c16 hf
          refine lv_aload_n hx hb d_X12_factor_25 rfl (lv_at hl 1 rfl) ?_
          refine lv_aload_n hx hb d_X12_factor_26 rfl (lv_at hl 1 rfl) ?_
          refine fm_rgi Z G F hf fr_X12_78 d_X12_factor_27 (fun x27 _ hf => ?_)
          refine lv_iconst (v := 5) hx hb d_X12_factor_30 (by decide) ?_
          refine lv_icmp_ne (tgt := 38) hx hb d_X12_factor_31 (by decide) (fun c31 => ?_) (fun c31 => ?_)
          · have hf := fm_ig c31 hf
            refine lv_iconst (v := 0) hx hb d_X12_factor_38 (by decide) ?_
            exact (hL fm_LF).1 r0 x9 0 r0 S _ _ _ F (lv_sub hl [1, 0] rfl) hf
          · have hf := fm_ip c31 hf
            refine lv_iconst (v := 1) hx hb d_X12_factor_34 (by decide) ?_
            refine lv_goto (tgt := 39) hx hb d_X12_factor_35 (by decide) ?_
            exact (hL fm_LF).1 r0 x9 1 r0 S _ _ _ F (lv_sub hl [1, 0] rfl) hf
        · have hf := fm_ig c16 hf
          refine lv_iload_n hx hb d_X12_factor_19 rfl (lv_at hl 0 rfl) ?_
          refine lv_bipush (v := 40) hx hb d_X12_factor_20 (by decide) ?_
          refine lv_icmp_ne (tgt := 112) hx hb d_X12_factor_22 (by decide) (fun c22 => ?_) (fun c22 => ?_)
          · have hf := fm_ig c22 hf
            refine lv_aload_n hx hb d_X12_factor_112 rfl (lv_at hl 1 rfl) ?_
            refine va_ldcS (q := sk 4) hx hb hown (N.2.2.1 ("FrostBidsModel", 90, "pkcnwh", 4) (by decide)) d_X12_factor_113 ?_
            obtain ⟨hk115, hf⟩ := fm_some hf
            refine fm_rci G F hf (fun r u ho => fm_runV (k := 1) Z G F N (As := [.ref (sk 4)]) (rest := []) (c_X12_among hE ho _) (by rw [eq_of_beq hk115]; decide) (by rw [eq_of_beq hk115]; rfl) kw_1061 kw_1063 kp_36 kw_6 kw_1064 yd_X12_among rfl (by decide) (by first | omega | decide) hl.1 (Nat.le_of_ble_eq_true rfl) d_X12_factor_115 (Nat.le_refl 0) (Nat.le_refl 0)) (fun x115 S115 H locs _ F hf => ?_)
            refine lv_istore_n (lv' := [(2, .int x115), (1, .int x9), (0, .ref (ad r0))]) hx hb d_X12_factor_118 rfl hl (by decide) rfl (fun ls hl => ?_)
            refine lv_aload_n hx hb d_X12_factor_119 rfl (lv_at hl 2 rfl) ?_
            refine lv_iload_n hx hb d_X12_factor_120 rfl (lv_at hl 0 rfl) ?_
            refine lv_iconst (v := (-1)) hx hb d_X12_factor_121 (by decide) ?_
            refine lv_icmp_ne (tgt := 129) hx hb d_X12_factor_122 (by decide) (fun c122 => ?_) (fun c122 => ?_)
            · have hf := fm_ig c122 hf
              refine lv_iconst (v := 0) hx hb d_X12_factor_129 (by decide) ?_
              refine fm_rpz Z G F hf fs_X12_54 d_X12_factor_130 (fun c h => by have h := eq_of_beq (show (c == 12) = true from h); subst h; rfl) (fun S130 H locs _ F hf => ?_)
              refine lv_aload_n hx hb d_X12_factor_133 rfl (lv_at hl 2 rfl) ?_
              refine fm_rgi Z G F hf fr_X12_54 d_X12_factor_134 (fun x134 _ hf => ?_)
              refine lv_if_eq (tgt := 144) hx hb d_X12_factor_137 (by decide) (fun c137 => ?_) (fun c137 => ?_)
              · have hf := fm_ip c137 hf
                refine lv_aload_n hx hb d_X12_factor_144 rfl (lv_at hl 2 rfl) ?_
                refine va_ldcS (q := sk 5) hx hb hown (N.2.2.1 ("FrostBidsModel", 96, "<=>", 5) (by decide)) d_X12_factor_145 ?_
                obtain ⟨hk147, hf⟩ := fm_some hf
                refine fm_rci G F hf (fun r u ho => fm_runV (k := 1) Z G F N (As := [.ref (sk 5)]) (rest := []) (c_X12_among hE ho _) (by rw [eq_of_beq hk147]; decide) (by rw [eq_of_beq hk147]; rfl) kw_1061 kw_1063 kp_36 kw_6 kw_1064 yd_X12_among rfl (by decide) (by first | omega | decide) hl.1 (Nat.le_of_ble_eq_true rfl) d_X12_factor_147 (Nat.le_refl 0) (Nat.le_refl 0)) (fun x147 S147 H locs _ F hf => ?_)
                exact (hL fm_LF).2 r0 x115 x147 S147 _ _ _ F (lv_sub hl [2, 0] rfl) hf
              · have hf := fm_ig c137 hf
                refine lv_iconst (v := 0) hx hb d_X12_factor_140 (by decide) ?_
                refine lv_goto (tgt := 150) hx hb d_X12_factor_141 (by decide) ?_
                exact (hL fm_LF).2 r0 x115 0 S130 _ _ _ F (lv_sub hl [2, 0] rfl) hf
            · have hf := fm_ip c122 hf
              refine lv_iconst (v := 1) hx hb d_X12_factor_125 (by decide) ?_
              refine lv_goto (tgt := 130) hx hb d_X12_factor_126 (by decide) ?_
              refine fm_rpz Z G F hf fs_X12_54 d_X12_factor_130 (fun c h => by have h := eq_of_beq (show (c == 12) = true from h); subst h; rfl) (fun S130 H locs _ F hf => ?_)
              refine lv_aload_n hx hb d_X12_factor_133 rfl (lv_at hl 2 rfl) ?_
              refine fm_rgi Z G F hf fr_X12_54 d_X12_factor_134 (fun x134 _ hf => ?_)
              refine lv_if_eq (tgt := 144) hx hb d_X12_factor_137 (by decide) (fun c137 => ?_) (fun c137 => ?_)
              · have hf := fm_ip c137 hf
                refine lv_aload_n hx hb d_X12_factor_144 rfl (lv_at hl 2 rfl) ?_
                refine va_ldcS (q := sk 5) hx hb hown (N.2.2.1 ("FrostBidsModel", 96, "<=>", 5) (by decide)) d_X12_factor_145 ?_
                obtain ⟨hk147, hf⟩ := fm_some hf
                refine fm_rci G F hf (fun r u ho => fm_runV (k := 1) Z G F N (As := [.ref (sk 5)]) (rest := []) (c_X12_among hE ho _) (by rw [eq_of_beq hk147]; decide) (by rw [eq_of_beq hk147]; rfl) kw_1061 kw_1063 kp_36 kw_6 kw_1064 yd_X12_among rfl (by decide) (by first | omega | decide) hl.1 (Nat.le_of_ble_eq_true rfl) d_X12_factor_147 (Nat.le_refl 0) (Nat.le_refl 0)) (fun x147 S147 H locs _ F hf => ?_)
                exact (hL fm_LF).2 r0 x115 x147 S147 _ _ _ F (lv_sub hl [2, 0] rfl) hf
              · have hf := fm_ig c137 hf
                refine lv_iconst (v := 0) hx hb d_X12_factor_140 (by decide) ?_
                refine lv_goto (tgt := 150) hx hb d_X12_factor_141 (by decide) ?_
                exact (hL fm_LF).2 r0 x115 0 S130 _ _ _ F (lv_sub hl [2, 0] rfl) hf
          · have hf := fm_ip c22 hf
            refine lv_aload_n hx hb d_X12_factor_25 rfl (lv_at hl 1 rfl) ?_
            refine lv_aload_n hx hb d_X12_factor_26 rfl (lv_at hl 1 rfl) ?_
            refine fm_rgi Z G F hf fr_X12_78 d_X12_factor_27 (fun x27 _ hf => ?_)
            refine lv_iconst (v := 5) hx hb d_X12_factor_30 (by decide) ?_
            refine lv_icmp_ne (tgt := 38) hx hb d_X12_factor_31 (by decide) (fun c31 => ?_) (fun c31 => ?_)
            · have hf := fm_ig c31 hf
              refine lv_iconst (v := 0) hx hb d_X12_factor_38 (by decide) ?_
              exact (hL fm_LF).1 r0 x9 0 r0 S _ _ _ F (lv_sub hl [1, 0] rfl) hf
            · have hf := fm_ip c31 hf
              refine lv_iconst (v := 1) hx hb d_X12_factor_34 (by decide) ?_
              refine lv_goto (tgt := 39) hx hb d_X12_factor_35 (by decide) ?_
              exact (hL fm_LF).1 r0 x9 1 r0 S _ _ _ F (lv_sub hl [1, 0] rfl) hf
      · have hf := fm_ig c4 hf
        rw [← hQ]; exact fm_retv Z hr hlk F d_X12_factor_7 (Option.some.inj hf)
    · intro S r0 u hf sz
      have hf : s_X12_every kap lam (m_X12_factor nn kap lam) (m_X12_every nn kap lam) (m_X12_some nn kap lam) r0 S = some u := hf
      refine fm_open rfl hE (Nat.le_of_ble_eq_true rfl) (fun p e s m args below meth c ls Z hr hlk G F N hl hsz => ?_)
      subst hsz
      obtain ⟨hx, hb, hml, hown, hts⟩ := id Z
      have hl : lv_has ls 1 [(0, .ref (ad r0))] := hl
      generalize hQ : MQ below _ args s 0 0 (fm_A RL ad s.heap.size) = Qf
      have hL : ∀ n : Nat, (∀ (r0 : Nat)  (S : fm_M) (H : Heap) (locs : List Loc) (ls : Array Slot), fm_F D ids kap lam RL ad S (fm_A RL ad s.heap.size) s.heap H locs → lv_has ls 1 [(0, .ref (ad r0))] → b_X12_every_4 kap lam (m_X12_factor nn kap lam) (m_X12_every nn kap lam) (m_X12_some nn kap lam) n r0 S = some u → W p l e (fm_rm (7 + (nn + 1))) s m args below meth c H locs 0 0 Qf (F0 m 4 ls [])) := by
        intro n
        induction n with
        | zero => exact fun _ _ _ _ _ _ _ hf => absurd hf (by intro h; cases h)
        | succ n ih =>
          intro r0 S H locs ls F hl hf
          have hf : k_X12_every_4 kap lam (m_X12_factor nn kap lam) (m_X12_every nn kap lam) (m_X12_some nn kap lam) (b_X12_every_4 kap lam (m_X12_factor nn kap lam) (m_X12_every nn kap lam) (m_X12_some nn kap lam) n) r0 S = some u := hf
          unfold k_X12_every_4 at hf
          refine lv_aload_n hx hb d_X12_every_4 rfl (lv_at hl 0 rfl) ?_
          refine fm_rgi Z G F hf fr_X12_54 d_X12_every_5 (fun x5 _ hf => ?_)
          refine lv_if_ne (tgt := 43) hx hb d_X12_every_8 (by decide) (fun c8 => ?_) (fun c8 => ?_)
          · have hf := fm_ig c8 hf
            rw [← hQ]; exact fm_retv Z hr hlk F d_X12_every_43 (Option.some.inj hf)
          · have hf := fm_ip c8 hf
            refine lv_aload_n hx hb d_X12_every_11 rfl (lv_at hl 0 rfl) ?_
            obtain ⟨hk12, hf⟩ := fm_some hf
            refine fm_rcr G F hf (fun r ho => fm_runV (k := 0) Z G F N (As := []) (rest := []) (c_X12_here hE ho _) (by rw [eq_of_beq hk12]; decide) (by rw [eq_of_beq hk12]; rfl) kw_1015 kw_1017 kp_26 kw_6 kw_1018 yd_X12_here rfl (by decide) (by first | omega | decide) hl.1 (Nat.le_of_ble_eq_true rfl) d_X12_every_12 (Nat.le_refl 0) (Nat.le_refl 0)) (fun x12 H locs _ F hf => ?_)
            refine lv_bipush (v := 38) hx hb d_X12_every_15 (by decide) ?_
            refine lv_icmp_ne (tgt := 43) hx hb d_X12_every_17 (by decide) (fun c17 => ?_) (fun c17 => ?_)
            · have hf := fm_ig c17 hf
              rw [← hQ]; exact fm_retv Z hr hlk F d_X12_every_43 (Option.some.inj hf)
            · have hf := fm_ip c17 hf
              refine lv_aload_n hx hb d_X12_every_20 rfl (lv_at hl 0 rfl) ?_
              refine lv_dup hx hb d_X12_every_21 rfl ?_
              refine fm_rgi Z G F hf fr_X12_48 d_X12_every_22 (fun x22 _ hf => ?_)
              refine lv_iconst (v := 1) hx hb d_X12_every_25 (by decide) ?_
              refine lv_iadd hx hb d_X12_every_26 ?_
              refine fm_rpi Z G F hf fs_X12_48 d_X12_every_27 (fun c h => by have h := eq_of_beq (show (c == 12) = true from h); subst h; rfl) (fun S27 H locs _ F hf => ?_)
              refine lv_aload_n hx hb d_X12_every_30 rfl (lv_at hl 0 rfl) ?_
              obtain ⟨hk31, hf⟩ := fm_some hf
              refine fm_rcv G F hf (fun u ho => fm_runV (k := 0) Z G F N (As := []) (rest := []) (ih_X12_factor ho _) (by rw [eq_of_beq hk31]; decide) (by rw [eq_of_beq hk31]; rfl) kw_1052 kw_1054 kp_34 kw_6 kw_1055 yd_X12_factor rfl (by decide) (by first | omega | decide) hl.1 (Nat.le_of_ble_eq_true rfl) d_X12_every_31 (Nat.le_refl 0) (Nat.le_refl 0)) (fun S31 H locs _ F hf => ?_)
              refine lv_aload_n hx hb d_X12_every_34 rfl (lv_at hl 0 rfl) ?_
              refine lv_bipush (v := (-2)) hx hb d_X12_every_35 (by decide) ?_
              obtain ⟨hk37, hf⟩ := fm_some hf
              refine fm_rcv G F hf (fun u ho => fm_runV (k := 1) Z G F N (As := [.int (-2)]) (rest := []) (c_X12_emits hE ho _) (by rw [eq_of_beq hk37]; decide) (by rw [eq_of_beq hk37]; rfl) kw_1056 kw_1058 kp_35 kw_6 kw_1059 yd_X12_emits rfl (by decide) (by first | omega | decide) hl.1 (Nat.le_of_ble_eq_true rfl) d_X12_every_37 (Nat.le_refl 0) (Nat.le_refl 0)) (fun S37 H locs _ F hf => ?_)
              refine lv_goto (tgt := 4) hx hb d_X12_every_40 (by decide) ?_
              exact ih r0 S37 _ _ _ F (lv_sub hl [0] rfl) hf
      unfold s_X12_every at hf
      refine lv_aload_n hx hb d_X12_every_0 rfl (lv_at hl 0 rfl) ?_
      obtain ⟨hk1, hf⟩ := fm_some hf
      refine fm_rcv G F hf (fun u ho => fm_runV (k := 0) Z G F N (As := []) (rest := []) (ih_X12_factor ho _) (by rw [eq_of_beq hk1]; decide) (by rw [eq_of_beq hk1]; rfl) kw_1052 kw_1054 kp_34 kw_6 kw_1055 yd_X12_factor rfl (by decide) (by first | omega | decide) hl.1 (Nat.le_of_ble_eq_true rfl) d_X12_every_1 (Nat.le_refl 0) (Nat.le_refl 0)) (fun S1 H locs _ F hf => ?_)
      exact (hL fm_LF) r0 S1 _ _ _ F (lv_sub hl [0] rfl) hf
    · intro S r0 u hf sz
      have hf : s_X12_some kap lam (m_X12_factor nn kap lam) (m_X12_every nn kap lam) (m_X12_some nn kap lam) r0 S = some u := hf
      refine fm_open rfl hE (Nat.le_of_ble_eq_true rfl) (fun p e s m args below meth c ls Z hr hlk G F N hl hsz => ?_)
      subst hsz
      obtain ⟨hx, hb, hml, hown, hts⟩ := id Z
      have hl : lv_has ls 1 [(0, .ref (ad r0))] := hl
      generalize hQ : MQ below _ args s 0 0 (fm_A RL ad s.heap.size) = Qf
      have hL : ∀ n : Nat, (∀ (r0 : Nat)  (S : fm_M) (H : Heap) (locs : List Loc) (ls : Array Slot), fm_F D ids kap lam RL ad S (fm_A RL ad s.heap.size) s.heap H locs → lv_has ls 1 [(0, .ref (ad r0))] → b_X12_some_4 kap lam (m_X12_factor nn kap lam) (m_X12_every nn kap lam) (m_X12_some nn kap lam) n r0 S = some u → W p l e (fm_rm (7 + (nn + 1))) s m args below meth c H locs 0 0 Qf (F0 m 4 ls [])) := by
        intro n
        induction n with
        | zero => exact fun _ _ _ _ _ _ _ hf => absurd hf (by intro h; cases h)
        | succ n ih =>
          intro r0 S H locs ls F hl hf
          have hf : k_X12_some_4 kap lam (m_X12_factor nn kap lam) (m_X12_every nn kap lam) (m_X12_some nn kap lam) (b_X12_some_4 kap lam (m_X12_factor nn kap lam) (m_X12_every nn kap lam) (m_X12_some nn kap lam) n) r0 S = some u := hf
          unfold k_X12_some_4 at hf
          refine lv_aload_n hx hb d_X12_some_4 rfl (lv_at hl 0 rfl) ?_
          refine fm_rgi Z G F hf fr_X12_54 d_X12_some_5 (fun x5 _ hf => ?_)
          refine lv_if_ne (tgt := 43) hx hb d_X12_some_8 (by decide) (fun c8 => ?_) (fun c8 => ?_)
          · have hf := fm_ig c8 hf
            rw [← hQ]; exact fm_retv Z hr hlk F d_X12_some_43 (Option.some.inj hf)
          · have hf := fm_ip c8 hf
            refine lv_aload_n hx hb d_X12_some_11 rfl (lv_at hl 0 rfl) ?_
            obtain ⟨hk12, hf⟩ := fm_some hf
            refine fm_rcr G F hf (fun r ho => fm_runV (k := 0) Z G F N (As := []) (rest := []) (c_X12_here hE ho _) (by rw [eq_of_beq hk12]; decide) (by rw [eq_of_beq hk12]; rfl) kw_1015 kw_1017 kp_26 kw_6 kw_1018 yd_X12_here rfl (by decide) (by first | omega | decide) hl.1 (Nat.le_of_ble_eq_true rfl) d_X12_some_12 (Nat.le_refl 0) (Nat.le_refl 0)) (fun x12 H locs _ F hf => ?_)
            refine lv_bipush (v := 124) hx hb d_X12_some_15 (by decide) ?_
            refine lv_icmp_ne (tgt := 43) hx hb d_X12_some_17 (by decide) (fun c17 => ?_) (fun c17 => ?_)
            · have hf := fm_ig c17 hf
              rw [← hQ]; exact fm_retv Z hr hlk F d_X12_some_43 (Option.some.inj hf)
            · have hf := fm_ip c17 hf
              refine lv_aload_n hx hb d_X12_some_20 rfl (lv_at hl 0 rfl) ?_
              refine lv_dup hx hb d_X12_some_21 rfl ?_
              refine fm_rgi Z G F hf fr_X12_48 d_X12_some_22 (fun x22 _ hf => ?_)
              refine lv_iconst (v := 1) hx hb d_X12_some_25 (by decide) ?_
              refine lv_iadd hx hb d_X12_some_26 ?_
              refine fm_rpi Z G F hf fs_X12_48 d_X12_some_27 (fun c h => by have h := eq_of_beq (show (c == 12) = true from h); subst h; rfl) (fun S27 H locs _ F hf => ?_)
              refine lv_aload_n hx hb d_X12_some_30 rfl (lv_at hl 0 rfl) ?_
              obtain ⟨hk31, hf⟩ := fm_some hf
              refine fm_rcv G F hf (fun u ho => fm_runV (k := 0) Z G F N (As := []) (rest := []) (ih_X12_every ho _) (by rw [eq_of_beq hk31]; decide) (by rw [eq_of_beq hk31]; rfl) kw_1048 kw_1050 kp_33 kw_6 kw_1051 yd_X12_every rfl (by decide) (by first | omega | decide) hl.1 (Nat.le_of_ble_eq_true rfl) d_X12_some_31 (Nat.le_refl 0) (Nat.le_refl 0)) (fun S31 H locs _ F hf => ?_)
              refine lv_aload_n hx hb d_X12_some_34 rfl (lv_at hl 0 rfl) ?_
              refine lv_bipush (v := (-3)) hx hb d_X12_some_35 (by decide) ?_
              obtain ⟨hk37, hf⟩ := fm_some hf
              refine fm_rcv G F hf (fun u ho => fm_runV (k := 1) Z G F N (As := [.int (-3)]) (rest := []) (c_X12_emits hE ho _) (by rw [eq_of_beq hk37]; decide) (by rw [eq_of_beq hk37]; rfl) kw_1056 kw_1058 kp_35 kw_6 kw_1059 yd_X12_emits rfl (by decide) (by first | omega | decide) hl.1 (Nat.le_of_ble_eq_true rfl) d_X12_some_37 (Nat.le_refl 0) (Nat.le_refl 0)) (fun S37 H locs _ F hf => ?_)
              refine lv_goto (tgt := 4) hx hb d_X12_some_40 (by decide) ?_
              exact ih r0 S37 _ _ _ F (lv_sub hl [0] rfl) hf
      unfold s_X12_some at hf
      refine lv_aload_n hx hb d_X12_some_0 rfl (lv_at hl 0 rfl) ?_
      obtain ⟨hk1, hf⟩ := fm_some hf
      refine fm_rcv G F hf (fun u ho => fm_runV (k := 0) Z G F N (As := []) (rest := []) (ih_X12_every ho _) (by rw [eq_of_beq hk1]; decide) (by rw [eq_of_beq hk1]; rfl) kw_1048 kw_1050 kp_33 kw_6 kw_1051 yd_X12_every rfl (by decide) (by first | omega | decide) hl.1 (Nat.le_of_ble_eq_true rfl) d_X12_some_1 (Nat.le_refl 0) (Nat.le_refl 0)) (fun S1 H locs _ F hf => ?_)
      exact (hL fm_LF) r0 S1 _ _ _ F (lv_sub hl [0] rfl) hf
theorem c_X12_factor (n : Nat) {l : Launch} {D : va_G} {ids kap lam : Nat → Nat} {RL : List Nat} {ad sk sv : Nat → Nat} {S : fm_M} {r0 : Nat} {u : fm_M} (hE : fm_E kap RL ad) (hf : m_X12_factor n kap lam r0 S = some u) (sz : Nat) : fm_MV l y_X12_factor prog_14_method_15_code 5 (Option.none : Option Jvm.ClassFile.FieldType) (7 + n) D ids kap lam RL ad sk sv S [.ref (ad r0)] sz u := (cg_tw hE n).1 hf sz
theorem c_X12_every (n : Nat) {l : Launch} {D : va_G} {ids kap lam : Nat → Nat} {RL : List Nat} {ad sk sv : Nat → Nat} {S : fm_M} {r0 : Nat} {u : fm_M} (hE : fm_E kap RL ad) (hf : m_X12_every n kap lam r0 S = some u) (sz : Nat) : fm_MV l y_X12_every prog_14_method_16_code 1 (Option.none : Option Jvm.ClassFile.FieldType) (7 + n) D ids kap lam RL ad sk sv S [.ref (ad r0)] sz u := (cg_tw hE n).2.1 hf sz
theorem c_X12_some (n : Nat) {l : Launch} {D : va_G} {ids kap lam : Nat → Nat} {RL : List Nat} {ad sk sv : Nat → Nat} {S : fm_M} {r0 : Nat} {u : fm_M} (hE : fm_E kap RL ad) (hf : m_X12_some n kap lam r0 S = some u) (sz : Nat) : fm_MV l y_X12_some prog_14_method_17_code 1 (Option.none : Option Jvm.ClassFile.FieldType) (7 + n) D ids kap lam RL ad sk sv S [.ref (ad r0)] sz u := (cg_tw hE n).2.2 hf sz
theorem d_X12_much_0 : decode prog_14_method_18_code 0 = .ok (.aload_n 0, 1) := by decide +kernel
theorem d_X12_much_1 : decode prog_14_method_18_code 1 = .ok (.aload_n 2, 1) := by decide +kernel
theorem d_X12_much_2 : decode prog_14_method_18_code 2 = .ok (.invokevirtual 104, 3) := by decide +kernel
theorem d_X12_much_5 : decode prog_14_method_18_code 5 = .ok (.aload_n 0, 1) := by decide +kernel
theorem d_X12_much_6 : decode prog_14_method_18_code 6 = .ok (.invokevirtual 98, 3) := by decide +kernel
theorem d_X12_much_9 : decode prog_14_method_18_code 9 = .ok (.istore_n 3, 1) := by decide +kernel
theorem d_X12_much_10 : decode prog_14_method_18_code 10 = .ok (.aload_n 0, 1) := by decide +kernel
theorem d_X12_much_11 : decode prog_14_method_18_code 11 = .ok (.bipush 32, 2) := by decide +kernel
theorem d_X12_much_13 : decode prog_14_method_18_code 13 = .ok (.invokevirtual 71, 3) := by decide +kernel
theorem d_X12_much_16 : decode prog_14_method_18_code 16 = .ok (.aload_n 0, 1) := by decide +kernel
theorem d_X12_much_17 : decode prog_14_method_18_code 17 = .ok (.invokevirtual 87, 3) := by decide +kernel
theorem d_X12_much_20 : decode prog_14_method_18_code 20 = .ok (.aload_n 0, 1) := by decide +kernel
theorem d_X12_much_21 : decode prog_14_method_18_code 21 = .ok (.iload_n 1, 1) := by decide +kernel
theorem d_X12_much_22 : decode prog_14_method_18_code 22 = .ok (.iload_n 3, 1) := by decide +kernel
theorem d_X12_much_23 : decode prog_14_method_18_code 23 = .ok (.isub, 1) := by decide +kernel
theorem d_X12_much_24 : decode prog_14_method_18_code 24 = .ok (.invokevirtual 84, 3) := by decide +kernel
theorem d_X12_much_27 : decode prog_14_method_18_code 27 = .ok (.return_, 1) := by decide +kernel
def m_X12_much (kap lam : Nat → Nat) (r0 : Nat) (a1 : Int32) (t2 : Nat) (S : fm_M) : Option fm_M :=
  fm_ck (kap r0 == 12) <|
  fm_b1 (m_X12_spells kap lam r0 t2 S) fun S2 =>
  fm_ck (kap r0 == 12) <|
  fm_bi (m_X12_figures kap lam r0 S2) fun x6 S6 =>
  fm_ck (kap r0 == 12) <|
  fm_b1 (m_X12_must kap lam r0 32 S6) fun S13 =>
  fm_ck (kap r0 == 12) <|
  fm_b1 (m_X12_some fm_RF kap lam r0 S13) fun S17 =>
  fm_ck (kap r0 == 12) <|
  fm_b1 (m_X12_emits kap lam r0 (a1 - x6) S17) fun S24 =>
  some S24
set_option maxHeartbeats 4000000 in
set_option maxRecDepth 100000 in
theorem c_X12_much {l : Launch} {D : va_G} {ids kap lam : Nat → Nat} {RL : List Nat} {ad sk sv : Nat → Nat} {S : fm_M} {r0 : Nat} {a1 : Int32} {t2 : Nat} {u : fm_M} (hE : fm_E kap RL ad) (hf : m_X12_much kap lam r0 a1 t2 S = some u) (sz : Nat) : fm_MV l y_X12_much prog_14_method_18_code 4 (Option.none : Option Jvm.ClassFile.FieldType) 68 D ids kap lam RL ad sk sv S [.ref (ad r0), .int a1, .ref (sk t2)] sz u := by
  refine fm_open rfl hE (Nat.le_of_ble_eq_true rfl) (fun p e s m args below meth c ls Z hr hlk G F N hl hsz => ?_)
  subst hsz
  obtain ⟨hx, hb, hml, hown, hts⟩ := id Z
  have hl : lv_has ls 4 [(0, .ref (ad r0)), (1, .int a1), (2, .ref (sk t2))] := hl
  unfold m_X12_much at hf
  refine lv_aload_n hx hb d_X12_much_0 rfl (lv_at hl 0 rfl) ?_
  refine lv_aload_n hx hb d_X12_much_1 rfl (lv_at hl 2 rfl) ?_
  obtain ⟨hk2, hf⟩ := fm_some hf
  refine fm_rcv G F hf (fun u ho => fm_runV (k := 1) Z G F N (As := [.ref (sk t2)]) (rest := []) (c_X12_spells hE ho _) (by rw [eq_of_beq hk2]; decide) (by rw [eq_of_beq hk2]; rfl) kw_1024 kw_1026 kp_28 kw_6 kw_1027 yd_X12_spells rfl (by decide) (by decide) hl.1 (Nat.le_of_ble_eq_true rfl) d_X12_much_2 (Nat.le_refl 0) (Nat.le_refl 0)) (fun S2 H locs _ F hf => ?_)
  refine lv_aload_n hx hb d_X12_much_5 rfl (lv_at hl 0 rfl) ?_
  obtain ⟨hk6, hf⟩ := fm_some hf
  refine fm_rci G F hf (fun r u ho => fm_runV (k := 0) Z G F N (As := []) (rest := []) (c_X12_figures hE ho _) (by rw [eq_of_beq hk6]; decide) (by rw [eq_of_beq hk6]; rfl) kw_1034 kw_1036 kp_30 kw_6 kw_1037 yd_X12_figures rfl (by decide) (by decide) hl.1 (Nat.le_of_ble_eq_true rfl) d_X12_much_6 (Nat.le_refl 0) (Nat.le_refl 0)) (fun x6 S6 H locs _ F hf => ?_)
  refine lv_istore_n (lv' := [(3, .int x6), (0, .ref (ad r0)), (1, .int a1), (2, .ref (sk t2))]) hx hb d_X12_much_9 rfl hl (by decide) rfl (fun ls hl => ?_)
  refine lv_aload_n hx hb d_X12_much_10 rfl (lv_at hl 1 rfl) ?_
  refine lv_bipush (v := 32) hx hb d_X12_much_11 (by decide) ?_
  obtain ⟨hk13, hf⟩ := fm_some hf
  refine fm_rcv G F hf (fun u ho => fm_runV (k := 1) Z G F N (As := [.int 32]) (rest := []) (c_X12_must hE ho _) (by rw [eq_of_beq hk13]; decide) (by rw [eq_of_beq hk13]; rfl) kw_1030 kw_1032 kp_29 kw_6 kw_1033 yd_X12_must rfl (by decide) (by decide) hl.1 (Nat.le_of_ble_eq_true rfl) d_X12_much_13 (Nat.le_refl 0) (Nat.le_refl 0)) (fun S13 H locs _ F hf => ?_)
  refine lv_aload_n hx hb d_X12_much_16 rfl (lv_at hl 1 rfl) ?_
  obtain ⟨hk17, hf⟩ := fm_some hf
  refine fm_rcv G F hf (fun u ho => fm_runV (k := 0) Z G F N (As := []) (rest := []) (c_X12_some fm_RF hE ho _) (by rw [eq_of_beq hk17]; decide) (by rw [eq_of_beq hk17]; rfl) kw_1044 kw_1046 kp_32 kw_6 kw_1047 yd_X12_some rfl (by decide) (by decide) hl.1 (Nat.le_of_ble_eq_true rfl) d_X12_much_17 (Nat.le_refl 0) (Nat.le_refl 0)) (fun S17 H locs _ F hf => ?_)
  refine lv_aload_n hx hb d_X12_much_20 rfl (lv_at hl 1 rfl) ?_
  refine lv_iload_n hx hb d_X12_much_21 rfl (lv_at hl 2 rfl) ?_
  refine lv_iload_n hx hb d_X12_much_22 rfl (lv_at hl 0 rfl) ?_
  refine lv_isub hx hb d_X12_much_23 ?_
  obtain ⟨hk24, hf⟩ := fm_some hf
  refine fm_rcv G F hf (fun u ho => fm_runV (k := 1) Z G F N (As := [.int (a1 - x6)]) (rest := []) (c_X12_emits hE ho _) (by rw [eq_of_beq hk24]; decide) (by rw [eq_of_beq hk24]; rfl) kw_1056 kw_1058 kp_35 kw_6 kw_1059 yd_X12_emits rfl (by decide) (by decide) hl.1 (Nat.le_of_ble_eq_true rfl) d_X12_much_24 (Nat.le_refl 0) (Nat.le_refl 0)) (fun S24 H locs _ F hf => ?_)
  exact fm_retv Z hr hlk F d_X12_much_27 (Option.some.inj hf)
theorem d_X12_tellsHere_0 : decode prog_14_method_19_code 0 = .ok (.aload_n 0, 1) := by decide +kernel
theorem d_X12_tellsHere_1 : decode prog_14_method_19_code 1 = .ok (.aload_n 2, 1) := by decide +kernel
theorem d_X12_tellsHere_2 : decode prog_14_method_19_code 2 = .ok (.invokevirtual 104, 3) := by decide +kernel
theorem d_X12_tellsHere_5 : decode prog_14_method_19_code 5 = .ok (.aload_n 0, 1) := by decide +kernel
theorem d_X12_tellsHere_6 : decode prog_14_method_19_code 6 = .ok (.invokevirtual 98, 3) := by decide +kernel
theorem d_X12_tellsHere_9 : decode prog_14_method_19_code 9 = .ok (.istore_n 3, 1) := by decide +kernel
theorem d_X12_tellsHere_10 : decode prog_14_method_19_code 10 = .ok (.aload_n 0, 1) := by decide +kernel
theorem d_X12_tellsHere_11 : decode prog_14_method_19_code 11 = .ok (.getfield 54, 3) := by decide +kernel
theorem d_X12_tellsHere_14 : decode prog_14_method_19_code 14 = .ok (.ifCond .ne 15, 3) := by decide +kernel
theorem d_X12_tellsHere_17 : decode prog_14_method_19_code 17 = .ok (.aload_n 0, 1) := by decide +kernel
theorem d_X12_tellsHere_18 : decode prog_14_method_19_code 18 = .ok (.getfield 9, 3) := by decide +kernel
theorem d_X12_tellsHere_21 : decode prog_14_method_19_code 21 = .ok (.iload_n 1, 1) := by decide +kernel
theorem d_X12_tellsHere_22 : decode prog_14_method_19_code 22 = .ok (.aload_n 0, 1) := by decide +kernel
theorem d_X12_tellsHere_23 : decode prog_14_method_19_code 23 = .ok (.getfield 75, 3) := by decide +kernel
theorem d_X12_tellsHere_26 : decode prog_14_method_19_code 26 = .ok (.iadd, 1) := by decide +kernel
theorem d_X12_tellsHere_27 : decode prog_14_method_19_code 27 = .ok (.iload_n 3, 1) := by decide +kernel
theorem d_X12_tellsHere_28 : decode prog_14_method_19_code 28 = .ok (.iastore, 1) := by decide +kernel
theorem d_X12_tellsHere_29 : decode prog_14_method_19_code 29 = .ok (.return_, 1) := by decide +kernel
def m_X12_tellsHere (kap lam : Nat → Nat) (r0 : Nat) (a1 : Int32) (t2 : Nat) (S : fm_M) : Option fm_M :=
  fm_ck (kap r0 == 12) <|
  fm_b1 (m_X12_spells kap lam r0 t2 S) fun S2 =>
  fm_ck (kap r0 == 12) <|
  fm_bi (m_X12_figures kap lam r0 S2) fun x6 S6 =>
  fm_gi kap 12 r0 8 S6 fun x11 =>
  if x11 = 0 then (
   fm_gr kap 12 r0 1 S6 fun q18 =>
   fm_gi kap 12 r0 5 S6 fun x23 =>
   fm_st kap lam q18 (a1 + x23) x6 S6 fun S28 =>
   some S28
  ) else (
   some S6
  )
set_option maxHeartbeats 4000000 in
set_option maxRecDepth 100000 in
theorem c_X12_tellsHere {l : Launch} {D : va_G} {ids kap lam : Nat → Nat} {RL : List Nat} {ad sk sv : Nat → Nat} {S : fm_M} {r0 : Nat} {a1 : Int32} {t2 : Nat} {u : fm_M} (hE : fm_E kap RL ad) (hf : m_X12_tellsHere kap lam r0 a1 t2 S = some u) (sz : Nat) : fm_MV l y_X12_tellsHere prog_14_method_19_code 4 (Option.none : Option Jvm.ClassFile.FieldType) 7 D ids kap lam RL ad sk sv S [.ref (ad r0), .int a1, .ref (sk t2)] sz u := by
  refine fm_open rfl hE (Nat.le_of_ble_eq_true rfl) (fun p e s m args below meth c ls Z hr hlk G F N hl hsz => ?_)
  subst hsz
  obtain ⟨hx, hb, hml, hown, hts⟩ := id Z
  have hl : lv_has ls 4 [(0, .ref (ad r0)), (1, .int a1), (2, .ref (sk t2))] := hl
  unfold m_X12_tellsHere at hf
  refine lv_aload_n hx hb d_X12_tellsHere_0 rfl (lv_at hl 0 rfl) ?_
  refine lv_aload_n hx hb d_X12_tellsHere_1 rfl (lv_at hl 2 rfl) ?_
  obtain ⟨hk2, hf⟩ := fm_some hf
  refine fm_rcv G F hf (fun u ho => fm_runV (k := 1) Z G F N (As := [.ref (sk t2)]) (rest := []) (c_X12_spells hE ho _) (by rw [eq_of_beq hk2]; decide) (by rw [eq_of_beq hk2]; rfl) kw_1024 kw_1026 kp_28 kw_6 kw_1027 yd_X12_spells rfl (by decide) (by decide) hl.1 (Nat.le_of_ble_eq_true rfl) d_X12_tellsHere_2 (Nat.le_refl 0) (Nat.le_refl 0)) (fun S2 H locs _ F hf => ?_)
  refine lv_aload_n hx hb d_X12_tellsHere_5 rfl (lv_at hl 0 rfl) ?_
  obtain ⟨hk6, hf⟩ := fm_some hf
  refine fm_rci G F hf (fun r u ho => fm_runV (k := 0) Z G F N (As := []) (rest := []) (c_X12_figures hE ho _) (by rw [eq_of_beq hk6]; decide) (by rw [eq_of_beq hk6]; rfl) kw_1034 kw_1036 kp_30 kw_6 kw_1037 yd_X12_figures rfl (by decide) (by decide) hl.1 (Nat.le_of_ble_eq_true rfl) d_X12_tellsHere_6 (Nat.le_refl 0) (Nat.le_refl 0)) (fun x6 S6 H locs _ F hf => ?_)
  refine lv_istore_n (lv' := [(3, .int x6), (0, .ref (ad r0)), (1, .int a1), (2, .ref (sk t2))]) hx hb d_X12_tellsHere_9 rfl hl (by decide) rfl (fun ls hl => ?_)
  refine lv_aload_n hx hb d_X12_tellsHere_10 rfl (lv_at hl 1 rfl) ?_
  refine fm_rgi Z G F hf fr_X12_54 d_X12_tellsHere_11 (fun x11 _ hf => ?_)
  refine lv_if_ne (tgt := 29) hx hb d_X12_tellsHere_14 (by decide) (fun c14 => ?_) (fun c14 => ?_)
  · have hf := fm_ig c14 hf
    exact fm_retv Z hr hlk F d_X12_tellsHere_29 (Option.some.inj hf)
  · have hf := fm_ip c14 hf
    refine lv_aload_n hx hb d_X12_tellsHere_17 rfl (lv_at hl 1 rfl) ?_
    refine fm_rgr Z G F hf fr_X12_9 d_X12_tellsHere_18 (fun q18 _ hf => ?_)
    refine lv_iload_n hx hb d_X12_tellsHere_21 rfl (lv_at hl 2 rfl) ?_
    refine lv_aload_n hx hb d_X12_tellsHere_22 rfl (lv_at hl 1 rfl) ?_
    refine fm_rgi Z G F hf fr_X12_75 d_X12_tellsHere_23 (fun x23 _ hf => ?_)
    refine lv_iadd hx hb d_X12_tellsHere_26 ?_
    refine lv_iload_n hx hb d_X12_tellsHere_27 rfl (lv_at hl 0 rfl) ?_
    refine fm_rst Z G F hf d_X12_tellsHere_28 (fun S28 H locs _ F hf => ?_)
    exact fm_retv Z hr hlk F d_X12_tellsHere_29 (Option.some.inj hf)
theorem d_X12_clauseHere_0 : decode prog_14_method_20_code 0 = .ok (.aload_n 0, 1) := by decide +kernel
theorem d_X12_clauseHere_1 : decode prog_14_method_20_code 1 = .ok (.invokevirtual 58, 3) := by decide +kernel
theorem d_X12_clauseHere_4 : decode prog_14_method_20_code 4 = .ok (.lookupswitch 91 #[(99, 68), (102, 44), (103, 79), (116, 56)], 44) := by decide +kernel
theorem d_X12_clauseHere_48 : decode prog_14_method_20_code 48 = .ok (.aload_n 0, 1) := by decide +kernel
theorem d_X12_clauseHere_49 : decode prog_14_method_20_code 49 = .ok (.sipush 211, 3) := by decide +kernel
theorem d_X12_clauseHere_52 : decode prog_14_method_20_code 52 = .ok (.ldc 108, 2) := by decide +kernel
theorem d_X12_clauseHere_54 : decode prog_14_method_20_code 54 = .ok (.invokevirtual 110, 3) := by decide +kernel
theorem d_X12_clauseHere_57 : decode prog_14_method_20_code 57 = .ok (.goto 43, 3) := by decide +kernel
theorem d_X12_clauseHere_60 : decode prog_14_method_20_code 60 = .ok (.aload_n 0, 1) := by decide +kernel
theorem d_X12_clauseHere_61 : decode prog_14_method_20_code 61 = .ok (.sipush 216, 3) := by decide +kernel
theorem d_X12_clauseHere_64 : decode prog_14_method_20_code 64 = .ok (.ldc 114, 2) := by decide +kernel
theorem d_X12_clauseHere_66 : decode prog_14_method_20_code 66 = .ok (.invokevirtual 110, 3) := by decide +kernel
theorem d_X12_clauseHere_69 : decode prog_14_method_20_code 69 = .ok (.goto 31, 3) := by decide +kernel
theorem d_X12_clauseHere_72 : decode prog_14_method_20_code 72 = .ok (.aload_n 0, 1) := by decide +kernel
theorem d_X12_clauseHere_73 : decode prog_14_method_20_code 73 = .ok (.bipush (-10), 2) := by decide +kernel
theorem d_X12_clauseHere_75 : decode prog_14_method_20_code 75 = .ok (.ldc 116, 2) := by decide +kernel
theorem d_X12_clauseHere_77 : decode prog_14_method_20_code 77 = .ok (.invokevirtual 118, 3) := by decide +kernel
theorem d_X12_clauseHere_80 : decode prog_14_method_20_code 80 = .ok (.goto 20, 3) := by decide +kernel
theorem d_X12_clauseHere_83 : decode prog_14_method_20_code 83 = .ok (.aload_n 0, 1) := by decide +kernel
theorem d_X12_clauseHere_84 : decode prog_14_method_20_code 84 = .ok (.sipush (-200), 3) := by decide +kernel
theorem d_X12_clauseHere_87 : decode prog_14_method_20_code 87 = .ok (.ldc 121, 2) := by decide +kernel
theorem d_X12_clauseHere_89 : decode prog_14_method_20_code 89 = .ok (.invokevirtual 118, 3) := by decide +kernel
theorem d_X12_clauseHere_92 : decode prog_14_method_20_code 92 = .ok (.goto 8, 3) := by decide +kernel
theorem d_X12_clauseHere_95 : decode prog_14_method_20_code 95 = .ok (.aload_n 0, 1) := by decide +kernel
theorem d_X12_clauseHere_96 : decode prog_14_method_20_code 96 = .ok (.iconst 1, 1) := by decide +kernel
theorem d_X12_clauseHere_97 : decode prog_14_method_20_code 97 = .ok (.putfield 54, 3) := by decide +kernel
theorem d_X12_clauseHere_100 : decode prog_14_method_20_code 100 = .ok (.return_, 1) := by decide +kernel
def m_X12_clauseHere (kap lam : Nat → Nat) (r0 : Nat) (S : fm_M) : Option fm_M :=
  fm_ck (kap r0 == 12) <|
  fm_b1 (m_X12_here kap lam r0 S) fun x1 =>
  if x1 = 99 then (
   fm_ck (kap r0 == 12) <|
   fm_b1 (m_X12_much kap lam r0 (-10) 2 S) fun S77 =>
   some S77
  ) else (
   if x1 = 102 then (
    fm_ck (kap r0 == 12) <|
    fm_b1 (m_X12_tellsHere kap lam r0 211 0 S) fun S54 =>
    some S54
   ) else (
    if x1 = 103 then (
     fm_ck (kap r0 == 12) <|
     fm_b1 (m_X12_much kap lam r0 (-200) 3 S) fun S89 =>
     some S89
    ) else (
     if x1 = 116 then (
      fm_ck (kap r0 == 12) <|
      fm_b1 (m_X12_tellsHere kap lam r0 216 1 S) fun S66 =>
      some S66
     ) else (
      fm_pz kap 12 r0 8 S 1 fun S97 =>
      some S97
     )
    )
   )
  )
set_option maxHeartbeats 4000000 in
set_option maxRecDepth 100000 in
theorem c_X12_clauseHere {l : Launch} {D : va_G} {ids kap lam : Nat → Nat} {RL : List Nat} {ad sk sv : Nat → Nat} {S : fm_M} {r0 : Nat} {u : fm_M} (hE : fm_E kap RL ad) (hf : m_X12_clauseHere kap lam r0 S = some u) (sz : Nat) : fm_MV l y_X12_clauseHere prog_14_method_20_code 1 (Option.none : Option Jvm.ClassFile.FieldType) 69 D ids kap lam RL ad sk sv S [.ref (ad r0)] sz u := by
  refine fm_open rfl hE (Nat.le_of_ble_eq_true rfl) (fun p e s m args below meth c ls Z hr hlk G F N hl hsz => ?_)
  subst hsz
  obtain ⟨hx, hb, hml, hown, hts⟩ := id Z
  have hl : lv_has ls 1 [(0, .ref (ad r0))] := hl
  unfold m_X12_clauseHere at hf
  refine lv_aload_n hx hb d_X12_clauseHere_0 rfl (lv_at hl 0 rfl) ?_
  obtain ⟨hk1, hf⟩ := fm_some hf
  refine fm_rcr G F hf (fun r ho => fm_runV (k := 0) Z G F N (As := []) (rest := []) (c_X12_here hE ho _) (by rw [eq_of_beq hk1]; decide) (by rw [eq_of_beq hk1]; rfl) kw_1015 kw_1017 kp_26 kw_6 kw_1018 yd_X12_here rfl (by decide) (by decide) hl.1 (Nat.le_of_ble_eq_true rfl) d_X12_clauseHere_1 (Nat.le_refl 0) (Nat.le_refl 0)) (fun x1 H locs _ F hf => ?_)
  by_cases w4_99 : x1 = 99
  · have hf := fm_ip w4_99 hf
    refine lv_lookup (off := 68) (tgt := 72) hx hb d_X12_clauseHere_4 (by decide) (by rw [w4_99]; decide) (by decide) ?_
    refine lv_aload_n hx hb d_X12_clauseHere_72 rfl (lv_at hl 0 rfl) ?_
    refine lv_bipush (v := (-10)) hx hb d_X12_clauseHere_73 (by decide) ?_
    refine va_ldcS (q := sk 2) hx hb hown (N.2.2.1 ("FrostBidsModel", 116, "chill ", 2) (by decide)) d_X12_clauseHere_75 ?_
    obtain ⟨hk77, hf⟩ := fm_some hf
    refine fm_rcv G F hf (fun u ho => fm_runV (k := 2) Z G F N (As := [.int (-10), .ref (sk 2)]) (rest := []) (c_X12_much hE ho _) (by rw [eq_of_beq hk77]; decide) (by rw [eq_of_beq hk77]; rfl) kw_1040 kw_1042 kp_31 kw_6 kw_1043 yd_X12_much rfl (by decide) (by decide) hl.1 (Nat.le_of_ble_eq_true rfl) d_X12_clauseHere_77 (Nat.le_refl 0) (Nat.le_refl 0)) (fun S77 H locs _ F hf => ?_)
    refine lv_goto (tgt := 100) hx hb d_X12_clauseHere_80 (by decide) ?_
    exact fm_retv Z hr hlk F d_X12_clauseHere_100 (Option.some.inj hf)
  have hf := fm_ig w4_99 hf
  by_cases w4_102 : x1 = 102
  · have hf := fm_ip w4_102 hf
    refine lv_lookup (off := 44) (tgt := 48) hx hb d_X12_clauseHere_4 (by decide) (by rw [w4_102]; decide) (by decide) ?_
    refine lv_aload_n hx hb d_X12_clauseHere_48 rfl (lv_at hl 0 rfl) ?_
    refine lv_sipush (v := 211) hx hb d_X12_clauseHere_49 (by decide) ?_
    refine va_ldcS (q := sk 0) hx hb hown (N.2.2.1 ("FrostBidsModel", 108, "fern ", 0) (by decide)) d_X12_clauseHere_52 ?_
    obtain ⟨hk54, hf⟩ := fm_some hf
    refine fm_rcv G F hf (fun u ho => fm_runV (k := 2) Z G F N (As := [.int 211, .ref (sk 0)]) (rest := []) (c_X12_tellsHere hE ho _) (by rw [eq_of_beq hk54]; decide) (by rw [eq_of_beq hk54]; rfl) kw_1020 kw_1022 kp_27 kw_6 kw_1023 yd_X12_tellsHere rfl (by decide) (by decide) hl.1 (Nat.le_of_ble_eq_true rfl) d_X12_clauseHere_54 (Nat.le_refl 0) (Nat.le_refl 0)) (fun S54 H locs _ F hf => ?_)
    refine lv_goto (tgt := 100) hx hb d_X12_clauseHere_57 (by decide) ?_
    exact fm_retv Z hr hlk F d_X12_clauseHere_100 (Option.some.inj hf)
  have hf := fm_ig w4_102 hf
  by_cases w4_103 : x1 = 103
  · have hf := fm_ip w4_103 hf
    refine lv_lookup (off := 79) (tgt := 83) hx hb d_X12_clauseHere_4 (by decide) (by rw [w4_103]; decide) (by decide) ?_
    refine lv_aload_n hx hb d_X12_clauseHere_83 rfl (lv_at hl 0 rfl) ?_
    refine lv_sipush (v := (-200)) hx hb d_X12_clauseHere_84 (by decide) ?_
    refine va_ldcS (q := sk 3) hx hb hown (N.2.2.1 ("FrostBidsModel", 121, "glow ", 3) (by decide)) d_X12_clauseHere_87 ?_
    obtain ⟨hk89, hf⟩ := fm_some hf
    refine fm_rcv G F hf (fun u ho => fm_runV (k := 2) Z G F N (As := [.int (-200), .ref (sk 3)]) (rest := []) (c_X12_much hE ho _) (by rw [eq_of_beq hk89]; decide) (by rw [eq_of_beq hk89]; rfl) kw_1040 kw_1042 kp_31 kw_6 kw_1043 yd_X12_much rfl (by decide) (by decide) hl.1 (Nat.le_of_ble_eq_true rfl) d_X12_clauseHere_89 (Nat.le_refl 0) (Nat.le_refl 0)) (fun S89 H locs _ F hf => ?_)
    refine lv_goto (tgt := 100) hx hb d_X12_clauseHere_92 (by decide) ?_
    exact fm_retv Z hr hlk F d_X12_clauseHere_100 (Option.some.inj hf)
  have hf := fm_ig w4_103 hf
  by_cases w4_116 : x1 = 116
  · have hf := fm_ip w4_116 hf
    refine lv_lookup (off := 56) (tgt := 60) hx hb d_X12_clauseHere_4 (by decide) (by rw [w4_116]; decide) (by decide) ?_
    refine lv_aload_n hx hb d_X12_clauseHere_60 rfl (lv_at hl 0 rfl) ?_
    refine lv_sipush (v := 216) hx hb d_X12_clauseHere_61 (by decide) ?_
    refine va_ldcS (q := sk 1) hx hb hown (N.2.2.1 ("FrostBidsModel", 114, "tower ", 1) (by decide)) d_X12_clauseHere_64 ?_
    obtain ⟨hk66, hf⟩ := fm_some hf
    refine fm_rcv G F hf (fun u ho => fm_runV (k := 2) Z G F N (As := [.int 216, .ref (sk 1)]) (rest := []) (c_X12_tellsHere hE ho _) (by rw [eq_of_beq hk66]; decide) (by rw [eq_of_beq hk66]; rfl) kw_1020 kw_1022 kp_27 kw_6 kw_1023 yd_X12_tellsHere rfl (by decide) (by decide) hl.1 (Nat.le_of_ble_eq_true rfl) d_X12_clauseHere_66 (Nat.le_refl 0) (Nat.le_refl 0)) (fun S66 H locs _ F hf => ?_)
    refine lv_goto (tgt := 100) hx hb d_X12_clauseHere_69 (by decide) ?_
    exact fm_retv Z hr hlk F d_X12_clauseHere_100 (Option.some.inj hf)
  have hf := fm_ig w4_116 hf
  refine lv_lookup (off := 91) (tgt := 95) hx hb d_X12_clauseHere_4 (by decide) ((lv_osw w4_99 (by decide)).trans ((lv_osw w4_102 (by decide)).trans ((lv_osw w4_103 (by decide)).trans ((lv_osw w4_116 (by decide)).trans rfl)))) (by decide) ?_
  refine lv_aload_n hx hb d_X12_clauseHere_95 rfl (lv_at hl 0 rfl) ?_
  refine lv_iconst (v := 1) hx hb d_X12_clauseHere_96 (by decide) ?_
  refine fm_rpz Z G F hf fs_X12_54 d_X12_clauseHere_97 (fun c h => by have h := eq_of_beq (show (c == 12) = true from h); subst h; rfl) (fun S97 H locs _ F hf => ?_)
  exact fm_retv Z hr hlk F d_X12_clauseHere_100 (Option.some.inj hf)
theorem d_X12_town_0 : decode prog_14_method_21_code 0 = .ok (.aload_n 0, 1) := by decide +kernel
theorem d_X12_town_1 : decode prog_14_method_21_code 1 = .ok (.getfield 9, 3) := by decide +kernel
theorem d_X12_town_4 : decode prog_14_method_21_code 4 = .ok (.bipush 22, 2) := by decide +kernel
theorem d_X12_town_6 : decode prog_14_method_21_code 6 = .ok (.iaload, 1) := by decide +kernel
theorem d_X12_town_7 : decode prog_14_method_21_code 7 = .ok (.iconst 5, 1) := by decide +kernel
theorem d_X12_town_8 : decode prog_14_method_21_code 8 = .ok (.if_icmp .ne 6, 3) := by decide +kernel
theorem d_X12_town_11 : decode prog_14_method_21_code 11 = .ok (.bipush (-4), 2) := by decide +kernel
theorem d_X12_town_13 : decode prog_14_method_21_code 13 = .ok (.ireturn, 1) := by decide +kernel
theorem d_X12_town_14 : decode prog_14_method_21_code 14 = .ok (.aload_n 0, 1) := by decide +kernel
theorem d_X12_town_15 : decode prog_14_method_21_code 15 = .ok (.aload_n 0, 1) := by decide +kernel
theorem d_X12_town_16 : decode prog_14_method_21_code 16 = .ok (.getfield 9, 3) := by decide +kernel
theorem d_X12_town_19 : decode prog_14_method_21_code 19 = .ok (.bipush 22, 2) := by decide +kernel
theorem d_X12_town_21 : decode prog_14_method_21_code 21 = .ok (.iaload, 1) := by decide +kernel
theorem d_X12_town_22 : decode prog_14_method_21_code 22 = .ok (.putfield 75, 3) := by decide +kernel
theorem d_X12_town_25 : decode prog_14_method_21_code 25 = .ok (.aload_n 0, 1) := by decide +kernel
theorem d_X12_town_26 : decode prog_14_method_21_code 26 = .ok (.aload_n 0, 1) := by decide +kernel
theorem d_X12_town_27 : decode prog_14_method_21_code 27 = .ok (.getfield 9, 3) := by decide +kernel
theorem d_X12_town_30 : decode prog_14_method_21_code 30 = .ok (.bipush 26, 2) := by decide +kernel
theorem d_X12_town_32 : decode prog_14_method_21_code 32 = .ok (.iaload, 1) := by decide +kernel
theorem d_X12_town_33 : decode prog_14_method_21_code 33 = .ok (.putfield 51, 3) := by decide +kernel
theorem d_X12_town_36 : decode prog_14_method_21_code 36 = .ok (.aload_n 0, 1) := by decide +kernel
theorem d_X12_town_37 : decode prog_14_method_21_code 37 = .ok (.getfield 9, 3) := by decide +kernel
theorem d_X12_town_40 : decode prog_14_method_21_code 40 = .ok (.bipush 26, 2) := by decide +kernel
theorem d_X12_town_42 : decode prog_14_method_21_code 42 = .ok (.iconst 0, 1) := by decide +kernel
theorem d_X12_town_43 : decode prog_14_method_21_code 43 = .ok (.iastore, 1) := by decide +kernel
theorem d_X12_town_44 : decode prog_14_method_21_code 44 = .ok (.aload_n 0, 1) := by decide +kernel
theorem d_X12_town_45 : decode prog_14_method_21_code 45 = .ok (.getfield 9, 3) := by decide +kernel
theorem d_X12_town_48 : decode prog_14_method_21_code 48 = .ok (.sipush 211, 3) := by decide +kernel
theorem d_X12_town_51 : decode prog_14_method_21_code 51 = .ok (.aload_n 0, 1) := by decide +kernel
theorem d_X12_town_52 : decode prog_14_method_21_code 52 = .ok (.getfield 75, 3) := by decide +kernel
theorem d_X12_town_55 : decode prog_14_method_21_code 55 = .ok (.iadd, 1) := by decide +kernel
theorem d_X12_town_56 : decode prog_14_method_21_code 56 = .ok (.iconst 3, 1) := by decide +kernel
theorem d_X12_town_57 : decode prog_14_method_21_code 57 = .ok (.iastore, 1) := by decide +kernel
theorem d_X12_town_58 : decode prog_14_method_21_code 58 = .ok (.aload_n 0, 1) := by decide +kernel
theorem d_X12_town_59 : decode prog_14_method_21_code 59 = .ok (.getfield 9, 3) := by decide +kernel
theorem d_X12_town_62 : decode prog_14_method_21_code 62 = .ok (.sipush 216, 3) := by decide +kernel
theorem d_X12_town_65 : decode prog_14_method_21_code 65 = .ok (.aload_n 0, 1) := by decide +kernel
theorem d_X12_town_66 : decode prog_14_method_21_code 66 = .ok (.getfield 75, 3) := by decide +kernel
theorem d_X12_town_69 : decode prog_14_method_21_code 69 = .ok (.iadd, 1) := by decide +kernel
theorem d_X12_town_70 : decode prog_14_method_21_code 70 = .ok (.iconst 2, 1) := by decide +kernel
theorem d_X12_town_71 : decode prog_14_method_21_code 71 = .ok (.iastore, 1) := by decide +kernel
theorem d_X12_town_72 : decode prog_14_method_21_code 72 = .ok (.aload_n 0, 1) := by decide +kernel
theorem d_X12_town_73 : decode prog_14_method_21_code 73 = .ok (.getfield 9, 3) := by decide +kernel
theorem d_X12_town_76 : decode prog_14_method_21_code 76 = .ok (.sipush 221, 3) := by decide +kernel
theorem d_X12_town_79 : decode prog_14_method_21_code 79 = .ok (.aload_n 0, 1) := by decide +kernel
theorem d_X12_town_80 : decode prog_14_method_21_code 80 = .ok (.getfield 75, 3) := by decide +kernel
theorem d_X12_town_83 : decode prog_14_method_21_code 83 = .ok (.iadd, 1) := by decide +kernel
theorem d_X12_town_84 : decode prog_14_method_21_code 84 = .ok (.iconst 0, 1) := by decide +kernel
theorem d_X12_town_85 : decode prog_14_method_21_code 85 = .ok (.iastore, 1) := by decide +kernel
theorem d_X12_town_86 : decode prog_14_method_21_code 86 = .ok (.aload_n 0, 1) := by decide +kernel
theorem d_X12_town_87 : decode prog_14_method_21_code 87 = .ok (.iconst 0, 1) := by decide +kernel
theorem d_X12_town_88 : decode prog_14_method_21_code 88 = .ok (.putfield 48, 3) := by decide +kernel
theorem d_X12_town_91 : decode prog_14_method_21_code 91 = .ok (.aload_n 0, 1) := by decide +kernel
theorem d_X12_town_92 : decode prog_14_method_21_code 92 = .ok (.iconst 0, 1) := by decide +kernel
theorem d_X12_town_93 : decode prog_14_method_21_code 93 = .ok (.putfield 54, 3) := by decide +kernel
theorem d_X12_town_96 : decode prog_14_method_21_code 96 = .ok (.aload_n 0, 1) := by decide +kernel
theorem d_X12_town_97 : decode prog_14_method_21_code 97 = .ok (.iconst 0, 1) := by decide +kernel
theorem d_X12_town_98 : decode prog_14_method_21_code 98 = .ok (.putfield 78, 3) := by decide +kernel
theorem d_X12_town_101 : decode prog_14_method_21_code 101 = .ok (.iconst 1, 1) := by decide +kernel
theorem d_X12_town_102 : decode prog_14_method_21_code 102 = .ok (.istore_n 1, 1) := by decide +kernel
theorem d_X12_town_103 : decode prog_14_method_21_code 103 = .ok (.aload_n 0, 1) := by decide +kernel
theorem d_X12_town_104 : decode prog_14_method_21_code 104 = .ok (.invokevirtual 123, 3) := by decide +kernel
theorem d_X12_town_107 : decode prog_14_method_21_code 107 = .ok (.aload_n 0, 1) := by decide +kernel
theorem d_X12_town_108 : decode prog_14_method_21_code 108 = .ok (.getfield 54, 3) := by decide +kernel
theorem d_X12_town_111 : decode prog_14_method_21_code 111 = .ok (.ifCond .ne 38, 3) := by decide +kernel
theorem d_X12_town_114 : decode prog_14_method_21_code 114 = .ok (.iload_n 1, 1) := by decide +kernel
theorem d_X12_town_115 : decode prog_14_method_21_code 115 = .ok (.bipush 10, 2) := by decide +kernel
theorem d_X12_town_117 : decode prog_14_method_21_code 117 = .ok (.if_icmp .ge 32, 3) := by decide +kernel
theorem d_X12_town_120 : decode prog_14_method_21_code 120 = .ok (.aload_n 0, 1) := by decide +kernel
theorem d_X12_town_121 : decode prog_14_method_21_code 121 = .ok (.invokevirtual 58, 3) := by decide +kernel
theorem d_X12_town_124 : decode prog_14_method_21_code 124 = .ok (.bipush 59, 2) := by decide +kernel
theorem d_X12_town_126 : decode prog_14_method_21_code 126 = .ok (.if_icmp .ne 23, 3) := by decide +kernel
theorem d_X12_town_129 : decode prog_14_method_21_code 129 = .ok (.aload_n 0, 1) := by decide +kernel
theorem d_X12_town_130 : decode prog_14_method_21_code 130 = .ok (.dup, 1) := by decide +kernel
theorem d_X12_town_131 : decode prog_14_method_21_code 131 = .ok (.getfield 48, 3) := by decide +kernel
theorem d_X12_town_134 : decode prog_14_method_21_code 134 = .ok (.iconst 1, 1) := by decide +kernel
theorem d_X12_town_135 : decode prog_14_method_21_code 135 = .ok (.iadd, 1) := by decide +kernel
theorem d_X12_town_136 : decode prog_14_method_21_code 136 = .ok (.putfield 48, 3) := by decide +kernel
theorem d_X12_town_139 : decode prog_14_method_21_code 139 = .ok (.aload_n 0, 1) := by decide +kernel
theorem d_X12_town_140 : decode prog_14_method_21_code 140 = .ok (.invokevirtual 123, 3) := by decide +kernel
theorem d_X12_town_143 : decode prog_14_method_21_code 143 = .ok (.iinc 1 1, 3) := by decide +kernel
theorem d_X12_town_146 : decode prog_14_method_21_code 146 = .ok (.goto (-39), 3) := by decide +kernel
theorem d_X12_town_149 : decode prog_14_method_21_code 149 = .ok (.aload_n 0, 1) := by decide +kernel
theorem d_X12_town_150 : decode prog_14_method_21_code 150 = .ok (.getfield 54, 3) := by decide +kernel
theorem d_X12_town_153 : decode prog_14_method_21_code 153 = .ok (.ifCond .ne 14, 3) := by decide +kernel
theorem d_X12_town_156 : decode prog_14_method_21_code 156 = .ok (.aload_n 0, 1) := by decide +kernel
theorem d_X12_town_157 : decode prog_14_method_21_code 157 = .ok (.getfield 48, 3) := by decide +kernel
theorem d_X12_town_160 : decode prog_14_method_21_code 160 = .ok (.aload_n 0, 1) := by decide +kernel
theorem d_X12_town_161 : decode prog_14_method_21_code 161 = .ok (.getfield 51, 3) := by decide +kernel
theorem d_X12_town_164 : decode prog_14_method_21_code 164 = .ok (.if_icmp .eq 11, 3) := by decide +kernel
theorem d_X12_town_167 : decode prog_14_method_21_code 167 = .ok (.bipush (-10), 2) := by decide +kernel
theorem d_X12_town_169 : decode prog_14_method_21_code 169 = .ok (.aload_n 0, 1) := by decide +kernel
theorem d_X12_town_170 : decode prog_14_method_21_code 170 = .ok (.getfield 48, 3) := by decide +kernel
theorem d_X12_town_173 : decode prog_14_method_21_code 173 = .ok (.isub, 1) := by decide +kernel
theorem d_X12_town_174 : decode prog_14_method_21_code 174 = .ok (.ireturn, 1) := by decide +kernel
theorem d_X12_town_175 : decode prog_14_method_21_code 175 = .ok (.aload_n 0, 1) := by decide +kernel
theorem d_X12_town_176 : decode prog_14_method_21_code 176 = .ok (.getfield 9, 3) := by decide +kernel
theorem d_X12_town_179 : decode prog_14_method_21_code 179 = .ok (.bipush 22, 2) := by decide +kernel
theorem d_X12_town_181 : decode prog_14_method_21_code 181 = .ok (.dup2, 1) := by decide +kernel
theorem d_X12_town_182 : decode prog_14_method_21_code 182 = .ok (.iaload, 1) := by decide +kernel
theorem d_X12_town_183 : decode prog_14_method_21_code 183 = .ok (.iconst 1, 1) := by decide +kernel
theorem d_X12_town_184 : decode prog_14_method_21_code 184 = .ok (.iadd, 1) := by decide +kernel
theorem d_X12_town_185 : decode prog_14_method_21_code 185 = .ok (.iastore, 1) := by decide +kernel
theorem d_X12_town_186 : decode prog_14_method_21_code 186 = .ok (.aload_n 0, 1) := by decide +kernel
theorem d_X12_town_187 : decode prog_14_method_21_code 187 = .ok (.getfield 9, 3) := by decide +kernel
theorem d_X12_town_190 : decode prog_14_method_21_code 190 = .ok (.bipush 27, 2) := by decide +kernel
theorem d_X12_town_192 : decode prog_14_method_21_code 192 = .ok (.aload_n 0, 1) := by decide +kernel
theorem d_X12_town_193 : decode prog_14_method_21_code 193 = .ok (.getfield 75, 3) := by decide +kernel
theorem d_X12_town_196 : decode prog_14_method_21_code 196 = .ok (.iastore, 1) := by decide +kernel
theorem d_X12_town_197 : decode prog_14_method_21_code 197 = .ok (.aload_n 0, 1) := by decide +kernel
theorem d_X12_town_198 : decode prog_14_method_21_code 198 = .ok (.getfield 75, 3) := by decide +kernel
theorem d_X12_town_201 : decode prog_14_method_21_code 201 = .ok (.ireturn, 1) := by decide +kernel
def k_X12_town_107 (kap lam : Nat → Nat) (go107 : Nat → Int32 → fm_M → Option (Int32 × fm_M)) (go149 : Nat → fm_M → Option (Int32 × fm_M)) (r0 : Nat) (a1 : Int32)  (S : fm_M) : Option (Int32 × fm_M) :=
  fm_gi kap 12 r0 8 S fun x108 =>
  if x108 = 0 then (
   if 10 ≤ a1 then (
    go149 r0 S
   ) else (
    fm_ck (kap r0 == 12) <|
    fm_b1 (m_X12_here kap lam r0 S) fun x121 =>
    if x121 = 59 then (
     fm_gi kap 12 r0 6 S fun x131 =>
     fm_pi kap 12 r0 6 S (x131 + 1) fun S136 =>
     fm_ck (kap r0 == 12) <|
     fm_b1 (m_X12_clauseHere kap lam r0 S136) fun S140 =>
     fm_let (a1 + 1 : Int32) fun x143 =>
     go107 r0 x143 S140
    ) else (
     go149 r0 S
    )
   )
  ) else (
   go149 r0 S
  )
def k_X12_town_149 (kap lam : Nat → Nat) (go107 : Nat → Int32 → fm_M → Option (Int32 × fm_M)) (go149 : Nat → fm_M → Option (Int32 × fm_M)) (r0 : Nat)  (S : fm_M) : Option (Int32 × fm_M) :=
  fm_gi kap 12 r0 8 S fun x150 =>
  if x150 = 0 then (
   fm_gi kap 12 r0 6 S fun x157 =>
   fm_gi kap 12 r0 7 S fun x161 =>
   if x157 = x161 then (
    fm_gr kap 12 r0 1 S fun q176 =>
    fm_ld kap lam 13 q176 22 S fun x182 =>
    fm_st kap lam q176 22 (x182 + 1) S fun S185 =>
    fm_gr kap 12 r0 1 S185 fun q187 =>
    fm_gi kap 12 r0 5 S185 fun x193 =>
    fm_st kap lam q187 27 x193 S185 fun S196 =>
    fm_gi kap 12 r0 5 S196 fun x198 =>
    some (x198, S196)
   ) else (
    fm_gi kap 12 r0 6 S fun x170 =>
    some ((-10) - x170, S)
   )
  ) else (
   fm_gi kap 12 r0 6 S fun x170 =>
   some ((-10) - x170, S)
  )
def bs_X12_town (kap lam : Nat → Nat) : Nat → (Nat → Int32 → fm_M → Option (Int32 × fm_M)) × (Nat → fm_M → Option (Int32 × fm_M))
  | 0 => ((fun _ _ _ => none), (fun _ _ => none))
  | n + 1 => (k_X12_town_107 kap lam (bs_X12_town kap lam n).1 (bs_X12_town kap lam n).2, k_X12_town_149 kap lam (bs_X12_town kap lam n).1 (bs_X12_town kap lam n).2)
def b_X12_town_107 (kap lam : Nat → Nat) (n : Nat) : Nat → Int32 → fm_M → Option (Int32 × fm_M) := (bs_X12_town kap lam n).1
def b_X12_town_149 (kap lam : Nat → Nat) (n : Nat) : Nat → fm_M → Option (Int32 × fm_M) := (bs_X12_town kap lam n).2
def m_X12_town (kap lam : Nat → Nat) (r0 : Nat) (S : fm_M) : Option (Int32 × fm_M) :=
  fm_gr kap 12 r0 1 S fun q1 =>
  fm_ld kap lam 13 q1 22 S fun x6 =>
  if x6 = 5 then (
   some ((-4), S)
  ) else (
   fm_gr kap 12 r0 1 S fun q16 =>
   fm_ld kap lam 13 q16 22 S fun x21 =>
   fm_pi kap 12 r0 5 S x21 fun S22 =>
   fm_gr kap 12 r0 1 S22 fun q27 =>
   fm_ld kap lam 13 q27 26 S22 fun x32 =>
   fm_pi kap 12 r0 7 S22 x32 fun S33 =>
   fm_gr kap 12 r0 1 S33 fun q37 =>
   fm_st kap lam q37 26 0 S33 fun S43 =>
   fm_gr kap 12 r0 1 S43 fun q45 =>
   fm_gi kap 12 r0 5 S43 fun x52 =>
   fm_st kap lam q45 (211 + x52) 3 S43 fun S57 =>
   fm_gr kap 12 r0 1 S57 fun q59 =>
   fm_gi kap 12 r0 5 S57 fun x66 =>
   fm_st kap lam q59 (216 + x66) 2 S57 fun S71 =>
   fm_gr kap 12 r0 1 S71 fun q73 =>
   fm_gi kap 12 r0 5 S71 fun x80 =>
   fm_st kap lam q73 (221 + x80) 0 S71 fun S85 =>
   fm_pi kap 12 r0 6 S85 0 fun S88 =>
   fm_pz kap 12 r0 8 S88 0 fun S93 =>
   fm_pi kap 12 r0 9 S93 0 fun S98 =>
   fm_let (1 : Int32) fun x102 =>
   fm_ck (kap r0 == 12) <|
   fm_b1 (m_X12_clauseHere kap lam r0 S98) fun S104 =>
   b_X12_town_107 kap lam fm_LF r0 x102 S104
  )
set_option maxHeartbeats 4000000 in
set_option maxRecDepth 100000 in
theorem c_X12_town {l : Launch} {D : va_G} {ids kap lam : Nat → Nat} {RL : List Nat} {ad sk sv : Nat → Nat} {S : fm_M} {r0 : Nat} {r : Int32} {u : fm_M} (hE : fm_E kap RL ad) (hf : m_X12_town kap lam r0 S = some (r, u)) (sz : Nat) : fm_MI l y_X12_town prog_14_method_21_code 2 (Option.some Jvm.ClassFile.FieldType.int) 70 D ids kap lam RL ad sk sv S [.ref (ad r0)] sz r u := by
  refine fm_open rfl hE (Nat.le_of_ble_eq_true rfl) (fun p e s m args below meth c ls Z hr hlk G F N hl hsz => ?_)
  subst hsz
  obtain ⟨hx, hb, hml, hown, hts⟩ := id Z
  have hl : lv_has ls 2 [(0, .ref (ad r0))] := hl
  generalize hQ : MQ below _ args s 0 0 (fm_A RL ad s.heap.size) = Qf
  have hL : ∀ n : Nat, (∀ (r0 : Nat) (a1 : Int32)  (S : fm_M) (H : Heap) (locs : List Loc) (ls : Array Slot), fm_F D ids kap lam RL ad S (fm_A RL ad s.heap.size) s.heap H locs → lv_has ls 2 [(0, .ref (ad r0)), (1, .int a1)] → b_X12_town_107 kap lam n r0 a1 S = some (r, u) → W p l e (fm_rm 70) s m args below meth c H locs 0 0 Qf (F0 m 107 ls [])) ∧ (∀ (r0 : Nat)  (S : fm_M) (H : Heap) (locs : List Loc) (ls : Array Slot), fm_F D ids kap lam RL ad S (fm_A RL ad s.heap.size) s.heap H locs → lv_has ls 2 [(0, .ref (ad r0))] → b_X12_town_149 kap lam n r0 S = some (r, u) → W p l e (fm_rm 70) s m args below meth c H locs 0 0 Qf (F0 m 149 ls [])) := by
    intro n
    induction n with
    | zero => exact ⟨fun _ _ _ _ _ _ _ _ hf => absurd hf (by intro h; cases h), fun _ _ _ _ _ _ _ hf => absurd hf (by intro h; cases h)⟩
    | succ n ih =>
      refine ⟨?_, ?_⟩
      · intro r0 a1 S H locs ls F hl hf
        have hf : k_X12_town_107 kap lam (b_X12_town_107 kap lam n) (b_X12_town_149 kap lam n) r0 a1 S = some (r, u) := hf
        unfold k_X12_town_107 at hf
        refine lv_aload_n hx hb d_X12_town_107 rfl (lv_at hl 0 rfl) ?_
        refine fm_rgi Z G F hf fr_X12_54 d_X12_town_108 (fun x108 _ hf => ?_)
        refine lv_if_ne (tgt := 149) hx hb d_X12_town_111 (by decide) (fun c111 => ?_) (fun c111 => ?_)
        · have hf := fm_ig c111 hf
          exact (ih).2 r0 S _ _ _ F (lv_sub hl [0] rfl) hf
        · have hf := fm_ip c111 hf
          refine lv_iload_n hx hb d_X12_town_114 rfl (lv_at hl 1 rfl) ?_
          refine lv_bipush (v := 10) hx hb d_X12_town_115 (by decide) ?_
          refine lv_icmp_ge (tgt := 149) hx hb d_X12_town_117 (by decide) (fun c117 => ?_) (fun c117 => ?_)
          · have hf := fm_ip c117 hf
            exact (ih).2 r0 S _ _ _ F (lv_sub hl [0] rfl) hf
          · have hf := fm_ig c117 hf
            refine lv_aload_n hx hb d_X12_town_120 rfl (lv_at hl 0 rfl) ?_
            obtain ⟨hk121, hf⟩ := fm_some hf
            refine fm_rcr G F hf (fun r ho => fm_runV (k := 0) Z G F N (As := []) (rest := []) (c_X12_here hE ho _) (by rw [eq_of_beq hk121]; decide) (by rw [eq_of_beq hk121]; rfl) kw_1015 kw_1017 kp_26 kw_6 kw_1018 yd_X12_here rfl (by decide) (by decide) hl.1 (Nat.le_of_ble_eq_true rfl) d_X12_town_121 (Nat.le_refl 0) (Nat.le_refl 0)) (fun x121 H locs _ F hf => ?_)
            refine lv_bipush (v := 59) hx hb d_X12_town_124 (by decide) ?_
            refine lv_icmp_ne (tgt := 149) hx hb d_X12_town_126 (by decide) (fun c126 => ?_) (fun c126 => ?_)
            · have hf := fm_ig c126 hf
              exact (ih).2 r0 S _ _ _ F (lv_sub hl [0] rfl) hf
            · have hf := fm_ip c126 hf
              refine lv_aload_n hx hb d_X12_town_129 rfl (lv_at hl 0 rfl) ?_
              refine lv_dup hx hb d_X12_town_130 rfl ?_
              refine fm_rgi Z G F hf fr_X12_48 d_X12_town_131 (fun x131 _ hf => ?_)
              refine lv_iconst (v := 1) hx hb d_X12_town_134 (by decide) ?_
              refine lv_iadd hx hb d_X12_town_135 ?_
              refine fm_rpi Z G F hf fs_X12_48 d_X12_town_136 (fun c h => by have h := eq_of_beq (show (c == 12) = true from h); subst h; rfl) (fun S136 H locs _ F hf => ?_)
              refine lv_aload_n hx hb d_X12_town_139 rfl (lv_at hl 0 rfl) ?_
              obtain ⟨hk140, hf⟩ := fm_some hf
              refine fm_rcv G F hf (fun u ho => fm_runV (k := 0) Z G F N (As := []) (rest := []) (c_X12_clauseHere hE ho _) (by rw [eq_of_beq hk140]; decide) (by rw [eq_of_beq hk140]; rfl) kw_1011 kw_1013 kp_25 kw_6 kw_1014 yd_X12_clauseHere rfl (by decide) (by decide) hl.1 (Nat.le_of_ble_eq_true rfl) d_X12_town_140 (Nat.le_refl 0) (Nat.le_refl 0)) (fun S140 H locs _ F hf => ?_)
              obtain ⟨x143, ex143⟩ : ∃ y : Int32, y = a1 + 1 := ⟨_, rfl⟩
              have hf := fm_let_at ex143 hf
              refine lv_iinc (v := x143) (lv' := [(1, .int x143), (0, .ref (ad r0))]) hx hb d_X12_town_143 hl (k := 1) rfl (by rw [ex143]; rfl) (by decide) rfl (fun ls hl => ?_)
              refine lv_goto (tgt := 107) hx hb d_X12_town_146 (by decide) ?_
              exact (ih).1 r0 x143 S140 _ _ _ F (lv_sub hl [1, 0] rfl) hf
      · intro r0 S H locs ls F hl hf
        have hf : k_X12_town_149 kap lam (b_X12_town_107 kap lam n) (b_X12_town_149 kap lam n) r0 S = some (r, u) := hf
        unfold k_X12_town_149 at hf
        refine lv_aload_n hx hb d_X12_town_149 rfl (lv_at hl 0 rfl) ?_
        refine fm_rgi Z G F hf fr_X12_54 d_X12_town_150 (fun x150 _ hf => ?_)
        refine lv_if_ne (tgt := 167) hx hb d_X12_town_153 (by decide) (fun c153 => ?_) (fun c153 => ?_)
        · have hf := fm_ig c153 hf
          refine lv_bipush (v := (-10)) hx hb d_X12_town_167 (by decide) ?_
          refine lv_aload_n hx hb d_X12_town_169 rfl (lv_at hl 0 rfl) ?_
          refine fm_rgi Z G F hf fr_X12_48 d_X12_town_170 (fun x170 _ hf => ?_)
          refine lv_isub hx hb d_X12_town_173 ?_
          rw [← hQ]; exact fm_reti Z hr hlk F d_X12_town_174 (Prod.mk.inj (Option.some.inj hf)).1 (Prod.mk.inj (Option.some.inj hf)).2
        · have hf := fm_ip c153 hf
          refine lv_aload_n hx hb d_X12_town_156 rfl (lv_at hl 0 rfl) ?_
          refine fm_rgi Z G F hf fr_X12_48 d_X12_town_157 (fun x157 _ hf => ?_)
          refine lv_aload_n hx hb d_X12_town_160 rfl (lv_at hl 0 rfl) ?_
          refine fm_rgi Z G F hf fr_X12_51 d_X12_town_161 (fun x161 _ hf => ?_)
          refine lv_icmp_eq (tgt := 175) hx hb d_X12_town_164 (by decide) (fun c164 => ?_) (fun c164 => ?_)
          · have hf := fm_ip c164 hf
            refine lv_aload_n hx hb d_X12_town_175 rfl (lv_at hl 0 rfl) ?_
            refine fm_rgr Z G F hf fr_X12_9 d_X12_town_176 (fun q176 _ hf => ?_)
            refine lv_bipush (v := 22) hx hb d_X12_town_179 (by decide) ?_
            refine lv_dup2_11 hx hb d_X12_town_181 rfl rfl ?_
            refine fm_rld Z G F hf d_X12_town_182 (fun x182 _ hf => ?_)
            refine lv_iconst (v := 1) hx hb d_X12_town_183 (by decide) ?_
            refine lv_iadd hx hb d_X12_town_184 ?_
            refine fm_rst Z G F hf d_X12_town_185 (fun S185 H locs _ F hf => ?_)
            refine lv_aload_n hx hb d_X12_town_186 rfl (lv_at hl 0 rfl) ?_
            refine fm_rgr Z G F hf fr_X12_9 d_X12_town_187 (fun q187 _ hf => ?_)
            refine lv_bipush (v := 27) hx hb d_X12_town_190 (by decide) ?_
            refine lv_aload_n hx hb d_X12_town_192 rfl (lv_at hl 0 rfl) ?_
            refine fm_rgi Z G F hf fr_X12_75 d_X12_town_193 (fun x193 _ hf => ?_)
            refine fm_rst Z G F hf d_X12_town_196 (fun S196 H locs _ F hf => ?_)
            refine lv_aload_n hx hb d_X12_town_197 rfl (lv_at hl 0 rfl) ?_
            refine fm_rgi Z G F hf fr_X12_75 d_X12_town_198 (fun x198 _ hf => ?_)
            rw [← hQ]; exact fm_reti Z hr hlk F d_X12_town_201 (Prod.mk.inj (Option.some.inj hf)).1 (Prod.mk.inj (Option.some.inj hf)).2
          · have hf := fm_ig c164 hf
            refine lv_bipush (v := (-10)) hx hb d_X12_town_167 (by decide) ?_
            refine lv_aload_n hx hb d_X12_town_169 rfl (lv_at hl 0 rfl) ?_
            refine fm_rgi Z G F hf fr_X12_48 d_X12_town_170 (fun x170 _ hf => ?_)
            refine lv_isub hx hb d_X12_town_173 ?_
            rw [← hQ]; exact fm_reti Z hr hlk F d_X12_town_174 (Prod.mk.inj (Option.some.inj hf)).1 (Prod.mk.inj (Option.some.inj hf)).2
  unfold m_X12_town at hf
  refine lv_aload_n hx hb d_X12_town_0 rfl (lv_at hl 0 rfl) ?_
  refine fm_rgr Z G F hf fr_X12_9 d_X12_town_1 (fun q1 _ hf => ?_)
  refine lv_bipush (v := 22) hx hb d_X12_town_4 (by decide) ?_
  refine fm_rld Z G F hf d_X12_town_6 (fun x6 _ hf => ?_)
  refine lv_iconst (v := 5) hx hb d_X12_town_7 (by decide) ?_
  refine lv_icmp_ne (tgt := 14) hx hb d_X12_town_8 (by decide) (fun c8 => ?_) (fun c8 => ?_)
  · have hf := fm_ig c8 hf
    refine lv_aload_n hx hb d_X12_town_14 rfl (lv_at hl 0 rfl) ?_
    refine lv_aload_n hx hb d_X12_town_15 rfl (lv_at hl 0 rfl) ?_
    refine fm_rgr Z G F hf fr_X12_9 d_X12_town_16 (fun q16 _ hf => ?_)
    refine lv_bipush (v := 22) hx hb d_X12_town_19 (by decide) ?_
    refine fm_rld Z G F hf d_X12_town_21 (fun x21 _ hf => ?_)
    refine fm_rpi Z G F hf fs_X12_75 d_X12_town_22 (fun c h => by have h := eq_of_beq (show (c == 12) = true from h); subst h; rfl) (fun S22 H locs _ F hf => ?_)
    refine lv_aload_n hx hb d_X12_town_25 rfl (lv_at hl 0 rfl) ?_
    refine lv_aload_n hx hb d_X12_town_26 rfl (lv_at hl 0 rfl) ?_
    refine fm_rgr Z G F hf fr_X12_9 d_X12_town_27 (fun q27 _ hf => ?_)
    refine lv_bipush (v := 26) hx hb d_X12_town_30 (by decide) ?_
    refine fm_rld Z G F hf d_X12_town_32 (fun x32 _ hf => ?_)
    refine fm_rpi Z G F hf fs_X12_51 d_X12_town_33 (fun c h => by have h := eq_of_beq (show (c == 12) = true from h); subst h; rfl) (fun S33 H locs _ F hf => ?_)
    refine lv_aload_n hx hb d_X12_town_36 rfl (lv_at hl 0 rfl) ?_
    refine fm_rgr Z G F hf fr_X12_9 d_X12_town_37 (fun q37 _ hf => ?_)
    refine lv_bipush (v := 26) hx hb d_X12_town_40 (by decide) ?_
    refine lv_iconst (v := 0) hx hb d_X12_town_42 (by decide) ?_
    refine fm_rst Z G F hf d_X12_town_43 (fun S43 H locs _ F hf => ?_)
    refine lv_aload_n hx hb d_X12_town_44 rfl (lv_at hl 0 rfl) ?_
    refine fm_rgr Z G F hf fr_X12_9 d_X12_town_45 (fun q45 _ hf => ?_)
    refine lv_sipush (v := 211) hx hb d_X12_town_48 (by decide) ?_
    refine lv_aload_n hx hb d_X12_town_51 rfl (lv_at hl 0 rfl) ?_
    refine fm_rgi Z G F hf fr_X12_75 d_X12_town_52 (fun x52 _ hf => ?_)
    refine lv_iadd hx hb d_X12_town_55 ?_
    refine lv_iconst (v := 3) hx hb d_X12_town_56 (by decide) ?_
    refine fm_rst Z G F hf d_X12_town_57 (fun S57 H locs _ F hf => ?_)
    refine lv_aload_n hx hb d_X12_town_58 rfl (lv_at hl 0 rfl) ?_
    refine fm_rgr Z G F hf fr_X12_9 d_X12_town_59 (fun q59 _ hf => ?_)
    refine lv_sipush (v := 216) hx hb d_X12_town_62 (by decide) ?_
    refine lv_aload_n hx hb d_X12_town_65 rfl (lv_at hl 0 rfl) ?_
    refine fm_rgi Z G F hf fr_X12_75 d_X12_town_66 (fun x66 _ hf => ?_)
    refine lv_iadd hx hb d_X12_town_69 ?_
    refine lv_iconst (v := 2) hx hb d_X12_town_70 (by decide) ?_
    refine fm_rst Z G F hf d_X12_town_71 (fun S71 H locs _ F hf => ?_)
    refine lv_aload_n hx hb d_X12_town_72 rfl (lv_at hl 0 rfl) ?_
    refine fm_rgr Z G F hf fr_X12_9 d_X12_town_73 (fun q73 _ hf => ?_)
    refine lv_sipush (v := 221) hx hb d_X12_town_76 (by decide) ?_
    refine lv_aload_n hx hb d_X12_town_79 rfl (lv_at hl 0 rfl) ?_
    refine fm_rgi Z G F hf fr_X12_75 d_X12_town_80 (fun x80 _ hf => ?_)
    refine lv_iadd hx hb d_X12_town_83 ?_
    refine lv_iconst (v := 0) hx hb d_X12_town_84 (by decide) ?_
    refine fm_rst Z G F hf d_X12_town_85 (fun S85 H locs _ F hf => ?_)
    refine lv_aload_n hx hb d_X12_town_86 rfl (lv_at hl 0 rfl) ?_
    refine lv_iconst (v := 0) hx hb d_X12_town_87 (by decide) ?_
    refine fm_rpi Z G F hf fs_X12_48 d_X12_town_88 (fun c h => by have h := eq_of_beq (show (c == 12) = true from h); subst h; rfl) (fun S88 H locs _ F hf => ?_)
    refine lv_aload_n hx hb d_X12_town_91 rfl (lv_at hl 0 rfl) ?_
    refine lv_iconst (v := 0) hx hb d_X12_town_92 (by decide) ?_
    refine fm_rpz Z G F hf fs_X12_54 d_X12_town_93 (fun c h => by have h := eq_of_beq (show (c == 12) = true from h); subst h; rfl) (fun S93 H locs _ F hf => ?_)
    refine lv_aload_n hx hb d_X12_town_96 rfl (lv_at hl 0 rfl) ?_
    refine lv_iconst (v := 0) hx hb d_X12_town_97 (by decide) ?_
    refine fm_rpi Z G F hf fs_X12_78 d_X12_town_98 (fun c h => by have h := eq_of_beq (show (c == 12) = true from h); subst h; rfl) (fun S98 H locs _ F hf => ?_)
    refine lv_iconst (v := 1) hx hb d_X12_town_101 (by decide) ?_
    refine lv_topi (fun x102 ex102 => ?_)
    have hf := fm_let_at ex102 hf
    refine lv_istore_n (lv' := [(1, .int x102), (0, .ref (ad r0))]) hx hb d_X12_town_102 rfl hl (by decide) rfl (fun ls hl => ?_)
    refine lv_aload_n hx hb d_X12_town_103 rfl (lv_at hl 1 rfl) ?_
    obtain ⟨hk104, hf⟩ := fm_some hf
    refine fm_rcv G F hf (fun u ho => fm_runV (k := 0) Z G F N (As := []) (rest := []) (c_X12_clauseHere hE ho _) (by rw [eq_of_beq hk104]; decide) (by rw [eq_of_beq hk104]; rfl) kw_1011 kw_1013 kp_25 kw_6 kw_1014 yd_X12_clauseHere rfl (by decide) (by decide) hl.1 (Nat.le_of_ble_eq_true rfl) d_X12_town_104 (Nat.le_refl 0) (Nat.le_refl 0)) (fun S104 H locs _ F hf => ?_)
    exact (hL fm_LF).1 r0 x102 S104 _ _ _ F (lv_sub hl [1, 0] rfl) hf
  · have hf := fm_ip c8 hf
    refine lv_bipush (v := (-4)) hx hb d_X12_town_11 (by decide) ?_
    rw [← hQ]; exact fm_reti Z hr hlk F d_X12_town_13 (Prod.mk.inj (Option.some.inj hf)).1 (Prod.mk.inj (Option.some.inj hf)).2
