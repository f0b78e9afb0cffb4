/-! models and contracts (tool/gen.py prints them) -/
theorem d_X12_in_0 : decode prog_14_method_3_code 0 = .ok (.iload_n 0, 1) := by decide +kernel
theorem d_X12_in_1 : decode prog_14_method_3_code 1 = .ok (.iload_n 1, 1) := by decide +kernel
theorem d_X12_in_2 : decode prog_14_method_3_code 2 = .ok (.if_icmp .lt 12, 3) := by decide +kernel
theorem d_X12_in_5 : decode prog_14_method_3_code 5 = .ok (.iload_n 0, 1) := by decide +kernel
theorem d_X12_in_6 : decode prog_14_method_3_code 6 = .ok (.iload_n 2, 1) := by decide +kernel
theorem d_X12_in_7 : decode prog_14_method_3_code 7 = .ok (.if_icmp .gt 7, 3) := by decide +kernel
theorem d_X12_in_10 : decode prog_14_method_3_code 10 = .ok (.iconst 1, 1) := by decide +kernel
theorem d_X12_in_11 : decode prog_14_method_3_code 11 = .ok (.goto 4, 3) := by decide +kernel
theorem d_X12_in_14 : decode prog_14_method_3_code 14 = .ok (.iconst 0, 1) := by decide +kernel
theorem d_X12_in_15 : decode prog_14_method_3_code 15 = .ok (.ireturn, 1) := by decide +kernel
def m_X12_in (kap lam : Nat → Nat) (a0 : Int32) (a1 : Int32) (a2 : Int32) (S : fm_M) : Option Int32 :=
  if a0 < a1 then (
   fm_z 0 (some 0)
  ) else (
   if a2 < a0 then (
    fm_z 0 (some 0)
   ) else (
    fm_z 1 (some 1)
   )
  )
set_option maxHeartbeats 4000000 in
set_option maxRecDepth 100000 in
theorem c_X12_in {l : Launch} {D : va_G} {ids kap lam : Nat → Nat} {RL : List Nat} {ad sk sv : Nat → Nat} {S : fm_M} {a0 : Int32} {a1 : Int32} {a2 : Int32} {r : Int32} (hE : fm_E kap RL ad) (hf : m_X12_in kap lam a0 a1 a2 S = some r) (sz : Nat) : fm_MI l y_X12_in prog_14_method_3_code 3 (Option.some Jvm.ClassFile.FieldType.boolean) 0 D ids kap lam RL ad sk sv S [.int a0, .int a1, .int a2] sz r S := by
  refine fm_open rfl hE (Nat.le_of_ble_eq_true rfl) (fun p e s m args below meth c ls Z hr hlk G F N hl hsz => ?_)
  subst hsz
  obtain ⟨hx, hb, hml, hown, hts⟩ := id Z
  have hl : lv_has ls 3 [(0, .int a0), (1, .int a1), (2, .int a2)] := hl
  unfold m_X12_in at hf
  refine lv_iload_n hx hb d_X12_in_0 rfl (lv_at hl 0 rfl) ?_
  refine lv_iload_n hx hb d_X12_in_1 rfl (lv_at hl 1 rfl) ?_
  refine lv_icmp_lt (tgt := 14) hx hb d_X12_in_2 (by decide) (fun c2 => ?_) (fun c2 => ?_)
  · have hf := fm_ip c2 hf
    refine lv_iconst (v := 0) hx hb d_X12_in_14 (by decide) ?_
    obtain ⟨hz, hf⟩ := fm_some hf
    exact fm_retz Z hr hlk F d_X12_in_15 hz (Option.some.inj hf) rfl
  · have hf := fm_ig c2 hf
    refine lv_iload_n hx hb d_X12_in_5 rfl (lv_at hl 0 rfl) ?_
    refine lv_iload_n hx hb d_X12_in_6 rfl (lv_at hl 2 rfl) ?_
    refine lv_icmp_gt (tgt := 14) hx hb d_X12_in_7 (by decide) (fun c7 => ?_) (fun c7 => ?_)
    · have hf := fm_ip c7 hf
      refine lv_iconst (v := 0) hx hb d_X12_in_14 (by decide) ?_
      obtain ⟨hz, hf⟩ := fm_some hf
      exact fm_retz Z hr hlk F d_X12_in_15 hz (Option.some.inj hf) rfl
    · have hf := fm_ig c7 hf
      refine lv_iconst (v := 1) hx hb d_X12_in_10 (by decide) ?_
      refine lv_goto (tgt := 15) hx hb d_X12_in_11 (by decide) ?_
      obtain ⟨hz, hf⟩ := fm_some hf
      exact fm_retz Z hr hlk F d_X12_in_15 hz (Option.some.inj hf) rfl
theorem d_X12_isPane_0 : decode prog_14_method_4_code 0 = .ok (.iload_n 1, 1) := by decide +kernel
theorem d_X12_isPane_1 : decode prog_14_method_4_code 1 = .ok (.iconst 0, 1) := by decide +kernel
theorem d_X12_isPane_2 : decode prog_14_method_4_code 2 = .ok (.aload_n 0, 1) := by decide +kernel
theorem d_X12_isPane_3 : decode prog_14_method_4_code 3 = .ok (.getfield 9, 3) := by decide +kernel
theorem d_X12_isPane_6 : decode prog_14_method_4_code 6 = .ok (.bipush 21, 2) := by decide +kernel
theorem d_X12_isPane_8 : decode prog_14_method_4_code 8 = .ok (.iaload, 1) := by decide +kernel
theorem d_X12_isPane_9 : decode prog_14_method_4_code 9 = .ok (.iconst 1, 1) := by decide +kernel
theorem d_X12_isPane_10 : decode prog_14_method_4_code 10 = .ok (.isub, 1) := by decide +kernel
theorem d_X12_isPane_11 : decode prog_14_method_4_code 11 = .ok (.invokestatic 44, 3) := by decide +kernel
theorem d_X12_isPane_14 : decode prog_14_method_4_code 14 = .ok (.ireturn, 1) := by decide +kernel
def m_X12_isPane (kap lam : Nat → Nat) (r0 : Nat) (a1 : Int32) (S : fm_M) : Option Int32 :=
  fm_gr kap 12 r0 1 S fun q3 =>
  fm_ld kap lam 13 q3 21 S fun x8 =>
  fm_b1 (m_X12_in kap lam a1 0 (x8 - 1) S) fun x11 =>
  fm_z x11 (some x11)
set_option maxHeartbeats 4000000 in
set_option maxRecDepth 100000 in
theorem c_X12_isPane {l : Launch} {D : va_G} {ids kap lam : Nat → Nat} {RL : List Nat} {ad sk sv : Nat → Nat} {S : fm_M} {r0 : Nat} {a1 : Int32} {r : Int32} (hE : fm_E kap RL ad) (hf : m_X12_isPane kap lam r0 a1 S = some r) (sz : Nat) : fm_MI l y_X12_isPane prog_14_method_4_code 2 (Option.some Jvm.ClassFile.FieldType.boolean) 1 D ids kap lam RL ad sk sv S [.ref (ad r0), .int a1] sz r S := by
  refine fm_open rfl hE (Nat.le_of_ble_eq_true rfl) (fun p e s m args below meth c ls Z hr hlk G F N hl hsz => ?_)
  subst hsz
  obtain ⟨hx, hb, hml, hown, hts⟩ := id Z
  have hl : lv_has ls 2 [(0, .ref (ad r0)), (1, .int a1)] := hl
  unfold m_X12_isPane at hf
  refine lv_iload_n hx hb d_X12_isPane_0 rfl (lv_at hl 1 rfl) ?_
  refine lv_iconst (v := 0) hx hb d_X12_isPane_1 (by decide) ?_
  refine lv_aload_n hx hb d_X12_isPane_2 rfl (lv_at hl 0 rfl) ?_
  refine fm_rgr Z G F hf fr_X12_9 d_X12_isPane_3 (fun q3 _ hf => ?_)
  refine lv_bipush (v := 21) hx hb d_X12_isPane_6 (by decide) ?_
  refine fm_rld Z G F hf d_X12_isPane_8 (fun x8 _ hf => ?_)
  refine lv_iconst (v := 1) hx hb d_X12_isPane_9 (by decide) ?_
  refine lv_isub hx hb d_X12_isPane_10 ?_
  refine fm_rcr G F hf (fun r ho => fm_runS (k := 3) Z G F N (As := [.int a1, .int 0, .int (x8 - 1)]) (rest := []) (c_X12_in hE ho _) kw_1004 kw_1005 kw_6 kw_1006 yd_X12_in rfl (by decide) (by decide) hl.1 (Nat.le_of_ble_eq_true rfl) d_X12_isPane_11 (Nat.le_refl 0) (Nat.le_refl 0)) (fun x11 H locs _ F hf => ?_)
  obtain ⟨hz, hf⟩ := fm_some hf
  exact fm_retz Z hr hlk F d_X12_isPane_14 hz (Option.some.inj hf) rfl
theorem d_X12_isIce_0 : decode prog_14_method_5_code 0 = .ok (.iload_n 0, 1) := by decide +kernel
theorem d_X12_isIce_1 : decode prog_14_method_5_code 1 = .ok (.iconst 0, 1) := by decide +kernel
theorem d_X12_isIce_2 : decode prog_14_method_5_code 2 = .ok (.sipush 4095, 3) := by decide +kernel
theorem d_X12_isIce_5 : decode prog_14_method_5_code 5 = .ok (.invokestatic 44, 3) := by decide +kernel
theorem d_X12_isIce_8 : decode prog_14_method_5_code 8 = .ok (.ireturn, 1) := by decide +kernel
def m_X12_isIce (kap lam : Nat → Nat) (a0 : Int32) (S : fm_M) : Option Int32 :=
  fm_b1 (m_X12_in kap lam a0 0 4095 S) fun x5 =>
  fm_z x5 (some x5)
set_option maxHeartbeats 4000000 in
set_option maxRecDepth 100000 in
theorem c_X12_isIce {l : Launch} {D : va_G} {ids kap lam : Nat → Nat} {RL : List Nat} {ad sk sv : Nat → Nat} {S : fm_M} {a0 : Int32} {r : Int32} (hE : fm_E kap RL ad) (hf : m_X12_isIce kap lam a0 S = some r) (sz : Nat) : fm_MI l y_X12_isIce prog_14_method_5_code 1 (Option.some Jvm.ClassFile.FieldType.boolean) 1 D ids kap lam RL ad sk sv S [.int a0] sz r S := by
  refine fm_open rfl hE (Nat.le_of_ble_eq_true rfl) (fun p e s m args below meth c ls Z hr hlk G F N hl hsz => ?_)
  subst hsz
  obtain ⟨hx, hb, hml, hown, hts⟩ := id Z
  have hl : lv_has ls 1 [(0, .int a0)] := hl
  unfold m_X12_isIce at hf
  refine lv_iload_n hx hb d_X12_isIce_0 rfl (lv_at hl 0 rfl) ?_
  refine lv_iconst (v := 0) hx hb d_X12_isIce_1 (by decide) ?_
  refine lv_sipush (v := 4095) hx hb d_X12_isIce_2 (by decide) ?_
  refine fm_rcr G F hf (fun r ho => fm_runS (k := 3) Z G F N (As := [.int a0, .int 0, .int 4095]) (rest := []) (c_X12_in hE ho _) kw_1004 kw_1005 kw_6 kw_1006 yd_X12_in rfl (by decide) (by decide) hl.1 (Nat.le_of_ble_eq_true rfl) d_X12_isIce_5 (Nat.le_refl 0) (Nat.le_refl 0)) (fun x5 H locs _ F hf => ?_)
  obtain ⟨hz, hf⟩ := fm_some hf
  exact fm_retz Z hr hlk F d_X12_isIce_8 hz (Option.some.inj hf) rfl
theorem d_X12_keeps_0 : decode prog_14_method_6_code 0 = .ok (.iconst 0, 1) := by decide +kernel
theorem d_X12_keeps_1 : decode prog_14_method_6_code 1 = .ok (.istore_n 1, 1) := by decide +kernel
theorem d_X12_keeps_2 : decode prog_14_method_6_code 2 = .ok (.iload_n 1, 1) := by decide +kernel
theorem d_X12_keeps_3 : decode prog_14_method_6_code 3 = .ok (.bipush 21, 2) := by decide +kernel
theorem d_X12_keeps_5 : decode prog_14_method_6_code 5 = .ok (.if_icmp .ge 21, 3) := by decide +kernel
theorem d_X12_keeps_8 : decode prog_14_method_6_code 8 = .ok (.aload_n 0, 1) := by decide +kernel
theorem d_X12_keeps_9 : decode prog_14_method_6_code 9 = .ok (.getfield 18, 3) := by decide +kernel
theorem d_X12_keeps_12 : decode prog_14_method_6_code 12 = .ok (.iload_n 1, 1) := by decide +kernel
theorem d_X12_keeps_13 : decode prog_14_method_6_code 13 = .ok (.aload_n 0, 1) := by decide +kernel
theorem d_X12_keeps_14 : decode prog_14_method_6_code 14 = .ok (.getfield 9, 3) := by decide +kernel
theorem d_X12_keeps_17 : decode prog_14_method_6_code 17 = .ok (.iload_n 1, 1) := by decide +kernel
theorem d_X12_keeps_18 : decode prog_14_method_6_code 18 = .ok (.iaload, 1) := by decide +kernel
theorem d_X12_keeps_19 : decode prog_14_method_6_code 19 = .ok (.iastore, 1) := by decide +kernel
theorem d_X12_keeps_20 : decode prog_14_method_6_code 20 = .ok (.iinc 1 1, 3) := by decide +kernel
theorem d_X12_keeps_23 : decode prog_14_method_6_code 23 = .ok (.goto (-21), 3) := by decide +kernel
theorem d_X12_keeps_26 : decode prog_14_method_6_code 26 = .ok (.return_, 1) := by decide +kernel
def k_X12_keeps_2 (kap lam : Nat → Nat) (go2 : Nat → Int32 → fm_M → Option fm_M) (r0 : Nat) (a1 : Int32)  (S : fm_M) : Option fm_M :=
  if 21 ≤ a1 then (
   some S
  ) else (
   fm_gr kap 12 r0 3 S fun q9 =>
   fm_gr kap 12 r0 1 S fun q14 =>
   fm_ld kap lam 13 q14 a1 S fun x18 =>
   fm_st kap lam q9 a1 x18 S fun S19 =>
   fm_let (a1 + 1 : Int32) fun x20 =>
   go2 r0 x20 S19
  )
def b_X12_keeps_2 (kap lam : Nat → Nat) : Nat → Nat → Int32 → fm_M → Option fm_M
  | 0 => fun _ _ _ => none
  | n + 1 => k_X12_keeps_2 kap lam (b_X12_keeps_2 kap lam n)
def m_X12_keeps (kap lam : Nat → Nat) (r0 : Nat) (S : fm_M) : Option fm_M :=
  fm_let (0 : Int32) fun x1 =>
  b_X12_keeps_2 kap lam fm_LF r0 x1 S
set_option maxHeartbeats 4000000 in
set_option maxRecDepth 100000 in
theorem c_X12_keeps {l : Launch} {D : va_G} {ids kap lam : Nat → Nat} {RL : List Nat} {ad sk sv : Nat → Nat} {S : fm_M} {r0 : Nat} {u : fm_M} (hE : fm_E kap RL ad) (hf : m_X12_keeps kap lam r0 S = some u) (sz : Nat) : fm_MV l y_X12_keeps prog_14_method_6_code 2 (Option.none : Option Jvm.ClassFile.FieldType) 0 D ids kap lam RL ad sk sv S [.ref (ad r0)] sz u := by
  refine fm_open rfl hE (Nat.le_of_ble_eq_true rfl) (fun p e s m args below meth c ls Z hr hlk G F N hl hsz => ?_)
  subst hsz
  obtain ⟨hx, hb, hml, hown, hts⟩ := id Z
  have hl : lv_has ls 2 [(0, .ref (ad r0))] := hl
  generalize hQ : MQ below _ args s 0 0 (fm_A RL ad s.heap.size) = Qf
  have hL : ∀ n : Nat, (∀ (r0 : Nat) (a1 : Int32)  (S : fm_M) (H : Heap) (locs : List Loc) (ls : Array Slot), fm_F D ids kap lam RL ad S (fm_A RL ad s.heap.size) s.heap H locs → lv_has ls 2 [(0, .ref (ad r0)), (1, .int a1)] → b_X12_keeps_2 kap lam n r0 a1 S = some u → W p l e (fm_rm 0) s m args below meth c H locs 0 0 Qf (F0 m 2 ls [])) := by
    intro n
    induction n with
    | zero => exact fun _ _ _ _ _ _ _ _ hf => absurd hf (by intro h; cases h)
    | succ n ih =>
      intro r0 a1 S H locs ls F hl hf
      have hf : k_X12_keeps_2 kap lam (b_X12_keeps_2 kap lam n) r0 a1 S = some u := hf
      unfold k_X12_keeps_2 at hf
      refine lv_iload_n hx hb d_X12_keeps_2 rfl (lv_at hl 1 rfl) ?_
      refine lv_bipush (v := 21) hx hb d_X12_keeps_3 (by decide) ?_
      refine lv_icmp_ge (tgt := 26) hx hb d_X12_keeps_5 (by decide) (fun c5 => ?_) (fun c5 => ?_)
      · have hf := fm_ip c5 hf
        rw [← hQ]; exact fm_retv Z hr hlk F d_X12_keeps_26 (Option.some.inj hf)
      · have hf := fm_ig c5 hf
        refine lv_aload_n hx hb d_X12_keeps_8 rfl (lv_at hl 0 rfl) ?_
        refine fm_rgr Z G F hf fr_X12_18 d_X12_keeps_9 (fun q9 _ hf => ?_)
        refine lv_iload_n hx hb d_X12_keeps_12 rfl (lv_at hl 1 rfl) ?_
        refine lv_aload_n hx hb d_X12_keeps_13 rfl (lv_at hl 0 rfl) ?_
        refine fm_rgr Z G F hf fr_X12_9 d_X12_keeps_14 (fun q14 _ hf => ?_)
        refine lv_iload_n hx hb d_X12_keeps_17 rfl (lv_at hl 1 rfl) ?_
        refine fm_rld Z G F hf d_X12_keeps_18 (fun x18 _ hf => ?_)
        refine fm_rst Z G F hf d_X12_keeps_19 (fun S19 H locs _ F hf => ?_)
        obtain ⟨x20, ex20⟩ : ∃ y : Int32, y = a1 + 1 := ⟨_, rfl⟩
        have hf := fm_let_at ex20 hf
        refine lv_iinc (v := x20) (lv' := [(1, .int x20), (0, .ref (ad r0))]) hx hb d_X12_keeps_20 hl (k := 1) rfl (by rw [ex20]; rfl) (by decide) rfl (fun ls hl => ?_)
        refine lv_goto (tgt := 2) hx hb d_X12_keeps_23 (by decide) ?_
        exact ih r0 x20 S19 _ _ _ F (lv_sub hl [1, 0] rfl) hf
  unfold m_X12_keeps at hf
  refine lv_iconst (v := 0) hx hb d_X12_keeps_0 (by decide) ?_
  refine lv_topi (fun x1 ex1 => ?_)
  have hf := fm_let_at ex1 hf
  refine lv_istore_n (lv' := [(1, .int x1), (0, .ref (ad r0))]) hx hb d_X12_keeps_1 rfl hl (by decide) rfl (fun ls hl => ?_)
  exact (hL fm_LF) r0 x1 S _ _ _ F (lv_sub hl [1, 0] rfl) hf
theorem d_X12_goesBack_0 : decode prog_14_method_7_code 0 = .ok (.iconst 0, 1) := by decide +kernel
theorem d_X12_goesBack_1 : decode prog_14_method_7_code 1 = .ok (.istore_n 1, 1) := by decide +kernel
theorem d_X12_goesBack_2 : decode prog_14_method_7_code 2 = .ok (.iload_n 1, 1) := by decide +kernel
theorem d_X12_goesBack_3 : decode prog_14_method_7_code 3 = .ok (.bipush 21, 2) := by decide +kernel
theorem d_X12_goesBack_5 : decode prog_14_method_7_code 5 = .ok (.if_icmp .ge 21, 3) := by decide +kernel
theorem d_X12_goesBack_8 : decode prog_14_method_7_code 8 = .ok (.aload_n 0, 1) := by decide +kernel
theorem d_X12_goesBack_9 : decode prog_14_method_7_code 9 = .ok (.getfield 9, 3) := by decide +kernel
theorem d_X12_goesBack_12 : decode prog_14_method_7_code 12 = .ok (.iload_n 1, 1) := by decide +kernel
theorem d_X12_goesBack_13 : decode prog_14_method_7_code 13 = .ok (.aload_n 0, 1) := by decide +kernel
theorem d_X12_goesBack_14 : decode prog_14_method_7_code 14 = .ok (.getfield 18, 3) := by decide +kernel
theorem d_X12_goesBack_17 : decode prog_14_method_7_code 17 = .ok (.iload_n 1, 1) := by decide +kernel
theorem d_X12_goesBack_18 : decode prog_14_method_7_code 18 = .ok (.iaload, 1) := by decide +kernel
theorem d_X12_goesBack_19 : decode prog_14_method_7_code 19 = .ok (.iastore, 1) := by decide +kernel
theorem d_X12_goesBack_20 : decode prog_14_method_7_code 20 = .ok (.iinc 1 1, 3) := by decide +kernel
theorem d_X12_goesBack_23 : decode prog_14_method_7_code 23 = .ok (.goto (-21), 3) := by decide +kernel
theorem d_X12_goesBack_26 : decode prog_14_method_7_code 26 = .ok (.return_, 1) := by decide +kernel
def k_X12_goesBack_2 (kap lam : Nat → Nat) (go2 : Nat → Int32 → fm_M → Option fm_M) (r0 : Nat) (a1 : Int32)  (S : fm_M) : Option fm_M :=
  if 21 ≤ a1 then (
   some S
  ) else (
   fm_gr kap 12 r0 1 S fun q9 =>
   fm_gr kap 12 r0 3 S fun q14 =>
   fm_ld kap lam 13 q14 a1 S fun x18 =>
   fm_st kap lam q9 a1 x18 S fun S19 =>
   fm_let (a1 + 1 : Int32) fun x20 =>
   go2 r0 x20 S19
  )
def b_X12_goesBack_2 (kap lam : Nat → Nat) : Nat → Nat → Int32 → fm_M → Option fm_M
  | 0 => fun _ _ _ => none
  | n + 1 => k_X12_goesBack_2 kap lam (b_X12_goesBack_2 kap lam n)
def m_X12_goesBack (kap lam : Nat → Nat) (r0 : Nat) (S : fm_M) : Option fm_M :=
  fm_let (0 : Int32) fun x1 =>
  b_X12_goesBack_2 kap lam fm_LF r0 x1 S
set_option maxHeartbeats 4000000 in
set_option maxRecDepth 100000 in
theorem c_X12_goesBack {l : Launch} {D : va_G} {ids kap lam : Nat → Nat} {RL : List Nat} {ad sk sv : Nat → Nat} {S : fm_M} {r0 : Nat} {u : fm_M} (hE : fm_E kap RL ad) (hf : m_X12_goesBack kap lam r0 S = some u) (sz : Nat) : fm_MV l y_X12_goesBack prog_14_method_7_code 2 (Option.none : Option Jvm.ClassFile.FieldType) 0 D ids kap lam RL ad sk sv S [.ref (ad r0)] sz u := by
  refine fm_open rfl hE (Nat.le_of_ble_eq_true rfl) (fun p e s m args below meth c ls Z hr hlk G F N hl hsz => ?_)
  subst hsz
  obtain ⟨hx, hb, hml, hown, hts⟩ := id Z
  have hl : lv_has ls 2 [(0, .ref (ad r0))] := hl
  generalize hQ : MQ below _ args s 0 0 (fm_A RL ad s.heap.size) = Qf
  have hL : ∀ n : Nat, (∀ (r0 : Nat) (a1 : Int32)  (S : fm_M) (H : Heap) (locs : List Loc) (ls : Array Slot), fm_F D ids kap lam RL ad S (fm_A RL ad s.heap.size) s.heap H locs → lv_has ls 2 [(0, .ref (ad r0)), (1, .int a1)] → b_X12_goesBack_2 kap lam n r0 a1 S = some u → W p l e (fm_rm 0) s m args below meth c H locs 0 0 Qf (F0 m 2 ls [])) := by
    intro n
    induction n with
    | zero => exact fun _ _ _ _ _ _ _ _ hf => absurd hf (by intro h; cases h)
    | succ n ih =>
      intro r0 a1 S H locs ls F hl hf
      have hf : k_X12_goesBack_2 kap lam (b_X12_goesBack_2 kap lam n) r0 a1 S = some u := hf
      unfold k_X12_goesBack_2 at hf
      refine lv_iload_n hx hb d_X12_goesBack_2 rfl (lv_at hl 1 rfl) ?_
      refine lv_bipush (v := 21) hx hb d_X12_goesBack_3 (by decide) ?_
      refine lv_icmp_ge (tgt := 26) hx hb d_X12_goesBack_5 (by decide) (fun c5 => ?_) (fun c5 => ?_)
      · have hf := fm_ip c5 hf
        rw [← hQ]; exact fm_retv Z hr hlk F d_X12_goesBack_26 (Option.some.inj hf)
      · have hf := fm_ig c5 hf
        refine lv_aload_n hx hb d_X12_goesBack_8 rfl (lv_at hl 0 rfl) ?_
        refine fm_rgr Z G F hf fr_X12_9 d_X12_goesBack_9 (fun q9 _ hf => ?_)
        refine lv_iload_n hx hb d_X12_goesBack_12 rfl (lv_at hl 1 rfl) ?_
        refine lv_aload_n hx hb d_X12_goesBack_13 rfl (lv_at hl 0 rfl) ?_
        refine fm_rgr Z G F hf fr_X12_18 d_X12_goesBack_14 (fun q14 _ hf => ?_)
        refine lv_iload_n hx hb d_X12_goesBack_17 rfl (lv_at hl 1 rfl) ?_
        refine fm_rld Z G F hf d_X12_goesBack_18 (fun x18 _ hf => ?_)
        refine fm_rst Z G F hf d_X12_goesBack_19 (fun S19 H locs _ F hf => ?_)
        obtain ⟨x20, ex20⟩ : ∃ y : Int32, y = a1 + 1 := ⟨_, rfl⟩
        have hf := fm_let_at ex20 hf
        refine lv_iinc (v := x20) (lv' := [(1, .int x20), (0, .ref (ad r0))]) hx hb d_X12_goesBack_20 hl (k := 1) rfl (by rw [ex20]; rfl) (by decide) rfl (fun ls hl => ?_)
        refine lv_goto (tgt := 2) hx hb d_X12_goesBack_23 (by decide) ?_
        exact ih r0 x20 S19 _ _ _ F (lv_sub hl [1, 0] rfl) hf
  unfold m_X12_goesBack at hf
  refine lv_iconst (v := 0) hx hb d_X12_goesBack_0 (by decide) ?_
  refine lv_topi (fun x1 ex1 => ?_)
  have hf := fm_let_at ex1 hf
  refine lv_istore_n (lv' := [(1, .int x1), (0, .ref (ad r0))]) hx hb d_X12_goesBack_1 rfl hl (by decide) rfl (fun ls hl => ?_)
  exact (hL fm_LF) r0 x1 S _ _ _ F (lv_sub hl [1, 0] rfl) hf
theorem d_X12_feed_0 : decode prog_14_method_8_code 0 = .ok (.iload_n 1, 1) := by decide +kernel
theorem d_X12_feed_1 : decode prog_14_method_8_code 1 = .ok (.iconst 0, 1) := by decide +kernel
theorem d_X12_feed_2 : decode prog_14_method_8_code 2 = .ok (.bipush 127, 2) := by decide +kernel
theorem d_X12_feed_4 : decode prog_14_method_8_code 4 = .ok (.invokestatic 44, 3) := by decide +kernel
theorem d_X12_feed_7 : decode prog_14_method_8_code 7 = .ok (.ifCond .ne 6, 3) := by decide +kernel
theorem d_X12_feed_10 : decode prog_14_method_8_code 10 = .ok (.bipush (-2), 2) := by decide +kernel
theorem d_X12_feed_12 : decode prog_14_method_8_code 12 = .ok (.ireturn, 1) := by decide +kernel
theorem d_X12_feed_13 : decode prog_14_method_8_code 13 = .ok (.aload_n 0, 1) := by decide +kernel
theorem d_X12_feed_14 : decode prog_14_method_8_code 14 = .ok (.getfield 9, 3) := by decide +kernel
theorem d_X12_feed_17 : decode prog_14_method_8_code 17 = .ok (.bipush 26, 2) := by decide +kernel
theorem d_X12_feed_19 : decode prog_14_method_8_code 19 = .ok (.iaload, 1) := by decide +kernel
theorem d_X12_feed_20 : decode prog_14_method_8_code 20 = .ok (.bipush 100, 2) := by decide +kernel
theorem d_X12_feed_22 : decode prog_14_method_8_code 22 = .ok (.if_icmp .ne 6, 3) := by decide +kernel
theorem d_X12_feed_25 : decode prog_14_method_8_code 25 = .ok (.bipush (-4), 2) := by decide +kernel
theorem d_X12_feed_27 : decode prog_14_method_8_code 27 = .ok (.ireturn, 1) := by decide +kernel
theorem d_X12_feed_28 : decode prog_14_method_8_code 28 = .ok (.aload_n 0, 1) := by decide +kernel
theorem d_X12_feed_29 : decode prog_14_method_8_code 29 = .ok (.getfield 9, 3) := by decide +kernel
theorem d_X12_feed_32 : decode prog_14_method_8_code 32 = .ok (.bipush 111, 2) := by decide +kernel
theorem d_X12_feed_34 : decode prog_14_method_8_code 34 = .ok (.aload_n 0, 1) := by decide +kernel
theorem d_X12_feed_35 : decode prog_14_method_8_code 35 = .ok (.getfield 9, 3) := by decide +kernel
theorem d_X12_feed_38 : decode prog_14_method_8_code 38 = .ok (.bipush 26, 2) := by decide +kernel
theorem d_X12_feed_40 : decode prog_14_method_8_code 40 = .ok (.iaload, 1) := by decide +kernel
theorem d_X12_feed_41 : decode prog_14_method_8_code 41 = .ok (.iadd, 1) := by decide +kernel
theorem d_X12_feed_42 : decode prog_14_method_8_code 42 = .ok (.iload_n 1, 1) := by decide +kernel
theorem d_X12_feed_43 : decode prog_14_method_8_code 43 = .ok (.iastore, 1) := by decide +kernel
theorem d_X12_feed_44 : decode prog_14_method_8_code 44 = .ok (.aload_n 0, 1) := by decide +kernel
theorem d_X12_feed_45 : decode prog_14_method_8_code 45 = .ok (.getfield 9, 3) := by decide +kernel
theorem d_X12_feed_48 : decode prog_14_method_8_code 48 = .ok (.bipush 26, 2) := by decide +kernel
theorem d_X12_feed_50 : decode prog_14_method_8_code 50 = .ok (.dup2, 1) := by decide +kernel
theorem d_X12_feed_51 : decode prog_14_method_8_code 51 = .ok (.iaload, 1) := by decide +kernel
theorem d_X12_feed_52 : decode prog_14_method_8_code 52 = .ok (.iconst 1, 1) := by decide +kernel
theorem d_X12_feed_53 : decode prog_14_method_8_code 53 = .ok (.iadd, 1) := by decide +kernel
theorem d_X12_feed_54 : decode prog_14_method_8_code 54 = .ok (.iastore, 1) := by decide +kernel
theorem d_X12_feed_55 : decode prog_14_method_8_code 55 = .ok (.aload_n 0, 1) := by decide +kernel
theorem d_X12_feed_56 : decode prog_14_method_8_code 56 = .ok (.getfield 9, 3) := by decide +kernel
theorem d_X12_feed_59 : decode prog_14_method_8_code 59 = .ok (.bipush 26, 2) := by decide +kernel
theorem d_X12_feed_61 : decode prog_14_method_8_code 61 = .ok (.iaload, 1) := by decide +kernel
theorem d_X12_feed_62 : decode prog_14_method_8_code 62 = .ok (.ireturn, 1) := by decide +kernel
def m_X12_feed (kap lam : Nat → Nat) (r0 : Nat) (a1 : Int32) (S : fm_M) : Option (Int32 × fm_M) :=
  fm_b1 (m_X12_in kap lam a1 0 127 S) fun x4 =>
  if x4 = 0 then (
   some ((-2), S)
  ) else (
   fm_gr kap 12 r0 1 S fun q14 =>
   fm_ld kap lam 13 q14 26 S fun x19 =>
   if x19 = 100 then (
    some ((-4), S)
   ) else (
    fm_gr kap 12 r0 1 S fun q29 =>
    fm_gr kap 12 r0 1 S fun q35 =>
    fm_ld kap lam 13 q35 26 S fun x40 =>
    fm_st kap lam q29 (111 + x40) a1 S fun S43 =>
    fm_gr kap 12 r0 1 S43 fun q45 =>
    fm_ld kap lam 13 q45 26 S43 fun x51 =>
    fm_st kap lam q45 26 (x51 + 1) S43 fun S54 =>
    fm_gr kap 12 r0 1 S54 fun q56 =>
    fm_ld kap lam 13 q56 26 S54 fun x61 =>
    some (x61, S54)
   )
  )
set_option maxHeartbeats 4000000 in
set_option maxRecDepth 100000 in
theorem c_X12_feed {l : Launch} {D : va_G} {ids kap lam : Nat → Nat} {RL : List Nat} {ad sk sv : Nat → Nat} {S : fm_M} {r0 : Nat} {a1 : Int32} {r : Int32} {u : fm_M} (hE : fm_E kap RL ad) (hf : m_X12_feed kap lam r0 a1 S = some (r, u)) (sz : Nat) : fm_MI l y_X12_feed prog_14_method_8_code 2 (Option.some Jvm.ClassFile.FieldType.int) 1 D ids kap lam RL ad sk sv S [.ref (ad r0), .int a1] sz r u := by
  refine fm_open rfl hE (Nat.le_of_ble_eq_true rfl) (fun p e s m args below meth c ls Z hr hlk G F N hl hsz => ?_)
  subst hsz
  obtain ⟨hx, hb, hml, hown, hts⟩ := id Z
  have hl : lv_has ls 2 [(0, .ref (ad r0)), (1, .int a1)] := hl
  unfold m_X12_feed at hf
  refine lv_iload_n hx hb d_X12_feed_0 rfl (lv_at hl 1 rfl) ?_
  refine lv_iconst (v := 0) hx hb d_X12_feed_1 (by decide) ?_
  refine lv_bipush (v := 127) hx hb d_X12_feed_2 (by decide) ?_
  refine fm_rcr G F hf (fun r ho => fm_runS (k := 3) Z G F N (As := [.int a1, .int 0, .int 127]) (rest := []) (c_X12_in hE ho _) kw_1004 kw_1005 kw_6 kw_1006 yd_X12_in rfl (by decide) (by decide) hl.1 (Nat.le_of_ble_eq_true rfl) d_X12_feed_4 (Nat.le_refl 0) (Nat.le_refl 0)) (fun x4 H locs _ F hf => ?_)
  refine lv_if_ne (tgt := 13) hx hb d_X12_feed_7 (by decide) (fun c7 => ?_) (fun c7 => ?_)
  · have hf := fm_ig c7 hf
    refine lv_aload_n hx hb d_X12_feed_13 rfl (lv_at hl 0 rfl) ?_
    refine fm_rgr Z G F hf fr_X12_9 d_X12_feed_14 (fun q14 _ hf => ?_)
    refine lv_bipush (v := 26) hx hb d_X12_feed_17 (by decide) ?_
    refine fm_rld Z G F hf d_X12_feed_19 (fun x19 _ hf => ?_)
    refine lv_bipush (v := 100) hx hb d_X12_feed_20 (by decide) ?_
    refine lv_icmp_ne (tgt := 28) hx hb d_X12_feed_22 (by decide) (fun c22 => ?_) (fun c22 => ?_)
    · have hf := fm_ig c22 hf
      refine lv_aload_n hx hb d_X12_feed_28 rfl (lv_at hl 0 rfl) ?_
      refine fm_rgr Z G F hf fr_X12_9 d_X12_feed_29 (fun q29 _ hf => ?_)
      refine lv_bipush (v := 111) hx hb d_X12_feed_32 (by decide) ?_
      refine lv_aload_n hx hb d_X12_feed_34 rfl (lv_at hl 0 rfl) ?_
      refine fm_rgr Z G F hf fr_X12_9 d_X12_feed_35 (fun q35 _ hf => ?_)
      refine lv_bipush (v := 26) hx hb d_X12_feed_38 (by decide) ?_
      refine fm_rld Z G F hf d_X12_feed_40 (fun x40 _ hf => ?_)
      refine lv_iadd hx hb d_X12_feed_41 ?_
      refine lv_iload_n hx hb d_X12_feed_42 rfl (lv_at hl 1 rfl) ?_
      refine fm_rst Z G F hf d_X12_feed_43 (fun S43 H locs _ F hf => ?_)
      refine lv_aload_n hx hb d_X12_feed_44 rfl (lv_at hl 0 rfl) ?_
      refine fm_rgr Z G F hf fr_X12_9 d_X12_feed_45 (fun q45 _ hf => ?_)
      refine lv_bipush (v := 26) hx hb d_X12_feed_48 (by decide) ?_
      refine lv_dup2_11 hx hb d_X12_feed_50 rfl rfl ?_
      refine fm_rld Z G F hf d_X12_feed_51 (fun x51 _ hf => ?_)
      refine lv_iconst (v := 1) hx hb d_X12_feed_52 (by decide) ?_
      refine lv_iadd hx hb d_X12_feed_53 ?_
      refine fm_rst Z G F hf d_X12_feed_54 (fun S54 H locs _ F hf => ?_)
      refine lv_aload_n hx hb d_X12_feed_55 rfl (lv_at hl 0 rfl) ?_
      refine fm_rgr Z G F hf fr_X12_9 d_X12_feed_56 (fun q56 _ hf => ?_)
      refine lv_bipush (v := 26) hx hb d_X12_feed_59 (by decide) ?_
      refine fm_rld Z G F hf d_X12_feed_61 (fun x61 _ hf => ?_)
      exact fm_reti Z hr hlk F d_X12_feed_62 (Prod.mk.inj (Option.some.inj hf)).1 (Prod.mk.inj (Option.some.inj hf)).2
    · have hf := fm_ip c22 hf
      refine lv_bipush (v := (-4)) hx hb d_X12_feed_25 (by decide) ?_
      exact fm_reti Z hr hlk F d_X12_feed_27 (Prod.mk.inj (Option.some.inj hf)).1 (Prod.mk.inj (Option.some.inj hf)).2
  · have hf := fm_ip c7 hf
    refine lv_bipush (v := (-2)) hx hb d_X12_feed_10 (by decide) ?_
    exact fm_reti Z hr hlk F d_X12_feed_12 (Prod.mk.inj (Option.some.inj hf)).1 (Prod.mk.inj (Option.some.inj hf)).2
theorem d_X12_here_0 : decode prog_14_method_9_code 0 = .ok (.aload_n 0, 1) := by decide +kernel
theorem d_X12_here_1 : decode prog_14_method_9_code 1 = .ok (.getfield 48, 3) := by decide +kernel
theorem d_X12_here_4 : decode prog_14_method_9_code 4 = .ok (.aload_n 0, 1) := by decide +kernel
theorem d_X12_here_5 : decode prog_14_method_9_code 5 = .ok (.getfield 51, 3) := by decide +kernel
theorem d_X12_here_8 : decode prog_14_method_9_code 8 = .ok (.if_icmp .ge 18, 3) := by decide +kernel
theorem d_X12_here_11 : decode prog_14_method_9_code 11 = .ok (.aload_n 0, 1) := by decide +kernel
theorem d_X12_here_12 : decode prog_14_method_9_code 12 = .ok (.getfield 9, 3) := by decide +kernel
theorem d_X12_here_15 : decode prog_14_method_9_code 15 = .ok (.bipush 111, 2) := by decide +kernel
theorem d_X12_here_17 : decode prog_14_method_9_code 17 = .ok (.aload_n 0, 1) := by decide +kernel
theorem d_X12_here_18 : decode prog_14_method_9_code 18 = .ok (.getfield 48, 3) := by decide +kernel
theorem d_X12_here_21 : decode prog_14_method_9_code 21 = .ok (.iadd, 1) := by decide +kernel
theorem d_X12_here_22 : decode prog_14_method_9_code 22 = .ok (.iaload, 1) := by decide +kernel
theorem d_X12_here_23 : decode prog_14_method_9_code 23 = .ok (.goto 4, 3) := by decide +kernel
theorem d_X12_here_26 : decode prog_14_method_9_code 26 = .ok (.iconst (-1), 1) := by decide +kernel
theorem d_X12_here_27 : decode prog_14_method_9_code 27 = .ok (.ireturn, 1) := by decide +kernel
def m_X12_here (kap lam : Nat → Nat) (r0 : Nat) (S : fm_M) : Option Int32 :=
  fm_gi kap 12 r0 6 S fun x1 =>
  fm_gi kap 12 r0 7 S fun x5 =>
  if x5 ≤ x1 then (
   some (-1)
  ) else (
   fm_gr kap 12 r0 1 S fun q12 =>
   fm_gi kap 12 r0 6 S fun x18 =>
   fm_ld kap lam 13 q12 (111 + x18) S fun x22 =>
   some x22
  )
set_option maxHeartbeats 4000000 in
set_option maxRecDepth 100000 in
theorem c_X12_here {l : Launch} {D : va_G} {ids kap lam : Nat → Nat} {RL : List Nat} {ad sk sv : Nat → Nat} {S : fm_M} {r0 : Nat} {r : Int32} (hE : fm_E kap RL ad) (hf : m_X12_here kap lam r0 S = some r) (sz : Nat) : fm_MI l y_X12_here prog_14_method_9_code 1 (Option.some Jvm.ClassFile.FieldType.int) 0 D ids kap lam RL ad sk sv S [.ref (ad r0)] sz r S := by
  refine fm_open rfl hE (Nat.le_of_ble_eq_true rfl) (fun p e s m args below meth c ls Z hr hlk G F N hl hsz => ?_)
  subst hsz
  obtain ⟨hx, hb, hml, hown, hts⟩ := id Z
  have hl : lv_has ls 1 [(0, .ref (ad r0))] := hl
  unfold m_X12_here at hf
  refine lv_aload_n hx hb d_X12_here_0 rfl (lv_at hl 0 rfl) ?_
  refine fm_rgi Z G F hf fr_X12_48 d_X12_here_1 (fun x1 _ hf => ?_)
  refine lv_aload_n hx hb d_X12_here_4 rfl (lv_at hl 0 rfl) ?_
  refine fm_rgi Z G F hf fr_X12_51 d_X12_here_5 (fun x5 _ hf => ?_)
  refine lv_icmp_ge (tgt := 26) hx hb d_X12_here_8 (by decide) (fun c8 => ?_) (fun c8 => ?_)
  · have hf := fm_ip c8 hf
    refine lv_iconst (v := (-1)) hx hb d_X12_here_26 (by decide) ?_
    exact fm_reti Z hr hlk F d_X12_here_27 (Option.some.inj hf) rfl
  · have hf := fm_ig c8 hf
    refine lv_aload_n hx hb d_X12_here_11 rfl (lv_at hl 0 rfl) ?_
    refine fm_rgr Z G F hf fr_X12_9 d_X12_here_12 (fun q12 _ hf => ?_)
    refine lv_bipush (v := 111) hx hb d_X12_here_15 (by decide) ?_
    refine lv_aload_n hx hb d_X12_here_17 rfl (lv_at hl 0 rfl) ?_
    refine fm_rgi Z G F hf fr_X12_48 d_X12_here_18 (fun x18 _ hf => ?_)
    refine lv_iadd hx hb d_X12_here_21 ?_
    refine fm_rld Z G F hf d_X12_here_22 (fun x22 _ hf => ?_)
    refine lv_goto (tgt := 27) hx hb d_X12_here_23 (by decide) ?_
    exact fm_reti Z hr hlk F d_X12_here_27 (Option.some.inj hf) rfl
theorem d_X12_must_0 : decode prog_14_method_10_code 0 = .ok (.aload_n 0, 1) := by decide +kernel
theorem d_X12_must_1 : decode prog_14_method_10_code 1 = .ok (.aload_n 0, 1) := by decide +kernel
theorem d_X12_must_2 : decode prog_14_method_10_code 2 = .ok (.getfield 54, 3) := by decide +kernel
theorem d_X12_must_5 : decode prog_14_method_10_code 5 = .ok (.ifCond .ne 11, 3) := by decide +kernel
theorem d_X12_must_8 : decode prog_14_method_10_code 8 = .ok (.aload_n 0, 1) := by decide +kernel
theorem d_X12_must_9 : decode prog_14_method_10_code 9 = .ok (.invokevirtual 58, 3) := by decide +kernel
theorem d_X12_must_12 : decode prog_14_method_10_code 12 = .ok (.iload_n 1, 1) := by decide +kernel
theorem d_X12_must_13 : decode prog_14_method_10_code 13 = .ok (.if_icmp .eq 7, 3) := by decide +kernel
theorem d_X12_must_16 : decode prog_14_method_10_code 16 = .ok (.iconst 1, 1) := by decide +kernel
theorem d_X12_must_17 : decode prog_14_method_10_code 17 = .ok (.goto 4, 3) := by decide +kernel
theorem d_X12_must_20 : decode prog_14_method_10_code 20 = .ok (.iconst 0, 1) := by decide +kernel
theorem d_X12_must_21 : decode prog_14_method_10_code 21 = .ok (.putfield 54, 3) := by decide +kernel
theorem d_X12_must_24 : decode prog_14_method_10_code 24 = .ok (.aload_n 0, 1) := by decide +kernel
theorem d_X12_must_25 : decode prog_14_method_10_code 25 = .ok (.dup, 1) := by decide +kernel
theorem d_X12_must_26 : decode prog_14_method_10_code 26 = .ok (.getfield 48, 3) := by decide +kernel
theorem d_X12_must_29 : decode prog_14_method_10_code 29 = .ok (.aload_n 0, 1) := by decide +kernel
theorem d_X12_must_30 : decode prog_14_method_10_code 30 = .ok (.getfield 54, 3) := by decide +kernel
theorem d_X12_must_33 : decode prog_14_method_10_code 33 = .ok (.ifCond .eq 7, 3) := by decide +kernel
theorem d_X12_must_36 : decode prog_14_method_10_code 36 = .ok (.iconst 0, 1) := by decide +kernel
theorem d_X12_must_37 : decode prog_14_method_10_code 37 = .ok (.goto 4, 3) := by decide +kernel
theorem d_X12_must_40 : decode prog_14_method_10_code 40 = .ok (.iconst 1, 1) := by decide +kernel
theorem d_X12_must_41 : decode prog_14_method_10_code 41 = .ok (.iadd, 1) := by decide +kernel
theorem d_X12_must_42 : decode prog_14_method_10_code 42 = .ok (.putfield 48, 3) := by decide +kernel
theorem d_X12_must_45 : decode prog_14_method_10_code 45 = .ok (.return_, 1) := by decide +kernel
def m_X12_must (kap lam : Nat → Nat) (r0 : Nat) (a1 : Int32) (S : fm_M) : Option fm_M :=
  fm_gi kap 12 r0 8 S fun x2 =>
  if x2 = 0 then (
   fm_ck (kap r0 == 12) <|
   fm_b1 (m_X12_here kap lam r0 S) fun x9 =>
   if x9 = a1 then (
    fm_pz kap 12 r0 8 S 0 fun S21 =>
    fm_gi kap 12 r0 6 S21 fun x26 =>
    fm_gi kap 12 r0 8 S21 fun x30 =>
    if x30 = 0 then (
     fm_pi kap 12 r0 6 S21 (x26 + 1) fun S42 =>
     some S42
    ) else (
     fm_pi kap 12 r0 6 S21 (x26 + 0) fun S42 =>
     some S42
    )
   ) else (
    fm_pz kap 12 r0 8 S 1 fun S21 =>
    fm_gi kap 12 r0 6 S21 fun x26 =>
    fm_gi kap 12 r0 8 S21 fun x30 =>
    if x30 = 0 then (
     fm_pi kap 12 r0 6 S21 (x26 + 1) fun S42 =>
     some S42
    ) else (
     fm_pi kap 12 r0 6 S21 (x26 + 0) fun S42 =>
     some S42
    )
   )
  ) else (
   fm_pz kap 12 r0 8 S 1 fun S21 =>
   fm_gi kap 12 r0 6 S21 fun x26 =>
   fm_gi kap 12 r0 8 S21 fun x30 =>
   if x30 = 0 then (
    fm_pi kap 12 r0 6 S21 (x26 + 1) fun S42 =>
    some S42
   ) else (
    fm_pi kap 12 r0 6 S21 (x26 + 0) fun S42 =>
    some S42
   )
  )
set_option maxHeartbeats 4000000 in
set_option maxRecDepth 100000 in
theorem c_X12_must {l : Launch} {D : va_G} {ids kap lam : Nat → Nat} {RL : List Nat} {ad sk sv : Nat → Nat} {S : fm_M} {r0 : Nat} {a1 : Int32} {u : fm_M} (hE : fm_E kap RL ad) (hf : m_X12_must kap lam r0 a1 S = some u) (sz : Nat) : fm_MV l y_X12_must prog_14_method_10_code 2 (Option.none : Option Jvm.ClassFile.FieldType) 1 D ids kap lam RL ad sk sv S [.ref (ad r0), .int a1] sz u := by
  refine fm_open rfl hE (Nat.le_of_ble_eq_true rfl) (fun p e s m args below meth c ls Z hr hlk G F N hl hsz => ?_)
  subst hsz
  obtain ⟨hx, hb, hml, hown, hts⟩ := id Z
  have hl : lv_has ls 2 [(0, .ref (ad r0)), (1, .int a1)] := hl
  unfold m_X12_must at hf
  refine lv_aload_n hx hb d_X12_must_0 rfl (lv_at hl 0 rfl) ?_
  refine lv_aload_n hx hb d_X12_must_1 rfl (lv_at hl 0 rfl) ?_
  refine fm_rgi Z G F hf fr_X12_54 d_X12_must_2 (fun x2 _ hf => ?_)
  refine lv_if_ne (tgt := 16) hx hb d_X12_must_5 (by decide) (fun c5 => ?_) (fun c5 => ?_)
  · have hf := fm_ig c5 hf
    refine lv_iconst (v := 1) hx hb d_X12_must_16 (by decide) ?_
    refine lv_goto (tgt := 21) hx hb d_X12_must_17 (by decide) ?_
    refine fm_rpz Z G F hf fs_X12_54 d_X12_must_21 (fun c h => by have h := eq_of_beq (show (c == 12) = true from h); subst h; rfl) (fun S21 H locs _ F hf => ?_)
    refine lv_aload_n hx hb d_X12_must_24 rfl (lv_at hl 0 rfl) ?_
    refine lv_dup hx hb d_X12_must_25 rfl ?_
    refine fm_rgi Z G F hf fr_X12_48 d_X12_must_26 (fun x26 _ hf => ?_)
    refine lv_aload_n hx hb d_X12_must_29 rfl (lv_at hl 0 rfl) ?_
    refine fm_rgi Z G F hf fr_X12_54 d_X12_must_30 (fun x30 _ hf => ?_)
    refine lv_if_eq (tgt := 40) hx hb d_X12_must_33 (by decide) (fun c33 => ?_) (fun c33 => ?_)
    · have hf := fm_ip c33 hf
      refine lv_iconst (v := 1) hx hb d_X12_must_40 (by decide) ?_
      refine lv_iadd hx hb d_X12_must_41 ?_
      refine fm_rpi Z G F hf fs_X12_48 d_X12_must_42 (fun c h => by have h := eq_of_beq (show (c == 12) = true from h); subst h; rfl) (fun S42 H locs _ F hf => ?_)
      exact fm_retv Z hr hlk F d_X12_must_45 (Option.some.inj hf)
    · have hf := fm_ig c33 hf
      refine lv_iconst (v := 0) hx hb d_X12_must_36 (by decide) ?_
      refine lv_goto (tgt := 41) hx hb d_X12_must_37 (by decide) ?_
      refine lv_iadd hx hb d_X12_must_41 ?_
      refine fm_rpi Z G F hf fs_X12_48 d_X12_must_42 (fun c h => by have h := eq_of_beq (show (c == 12) = true from h); subst h; rfl) (fun S42 H locs _ F hf => ?_)
      exact fm_retv Z hr hlk F d_X12_must_45 (Option.some.inj hf)
  · have hf := fm_ip c5 hf
    refine lv_aload_n hx hb d_X12_must_8 rfl (lv_at hl 0 rfl) ?_
    obtain ⟨hk9, hf⟩ := fm_some hf
    refine fm_rcr G F hf (fun r ho => fm_runV (k := 0) Z G F N (As := []) (rest := [.ref (ad r0)]) (c_X12_here hE ho _) (by rw [eq_of_beq hk9]; decide) (by rw [eq_of_beq hk9]; rfl) kw_1015 kw_1017 kp_26 kw_6 kw_1018 yd_X12_here rfl (by decide) (by decide) hl.1 (Nat.le_of_ble_eq_true rfl) d_X12_must_9 (Nat.le_refl 0) (Nat.le_refl 0)) (fun x9 H locs _ F hf => ?_)
    refine lv_iload_n hx hb d_X12_must_12 rfl (lv_at hl 1 rfl) ?_
    refine lv_icmp_eq (tgt := 20) hx hb d_X12_must_13 (by decide) (fun c13 => ?_) (fun c13 => ?_)
    · have hf := fm_ip c13 hf
      refine lv_iconst (v := 0) hx hb d_X12_must_20 (by decide) ?_
      refine fm_rpz Z G F hf fs_X12_54 d_X12_must_21 (fun c h => by have h := eq_of_beq (show (c == 12) = true from h); subst h; rfl) (fun S21 H locs _ F hf => ?_)
      refine lv_aload_n hx hb d_X12_must_24 rfl (lv_at hl 0 rfl) ?_
      refine lv_dup hx hb d_X12_must_25 rfl ?_
      refine fm_rgi Z G F hf fr_X12_48 d_X12_must_26 (fun x26 _ hf => ?_)
      refine lv_aload_n hx hb d_X12_must_29 rfl (lv_at hl 0 rfl) ?_
      refine fm_rgi Z G F hf fr_X12_54 d_X12_must_30 (fun x30 _ hf => ?_)
      refine lv_if_eq (tgt := 40) hx hb d_X12_must_33 (by decide) (fun c33 => ?_) (fun c33 => ?_)
      · have hf := fm_ip c33 hf
        refine lv_iconst (v := 1) hx hb d_X12_must_40 (by decide) ?_
        refine lv_iadd hx hb d_X12_must_41 ?_
        refine fm_rpi Z G F hf fs_X12_48 d_X12_must_42 (fun c h => by have h := eq_of_beq (show (c == 12) = true from h); subst h; rfl) (fun S42 H locs _ F hf => ?_)
        exact fm_retv Z hr hlk F d_X12_must_45 (Option.some.inj hf)
      · have hf := fm_ig c33 hf
        refine lv_iconst (v := 0) hx hb d_X12_must_36 (by decide) ?_
        refine lv_goto (tgt := 41) hx hb d_X12_must_37 (by decide) ?_
        refine lv_iadd hx hb d_X12_must_41 ?_
        refine fm_rpi Z G F hf fs_X12_48 d_X12_must_42 (fun c h => by have h := eq_of_beq (show (c == 12) = true from h); subst h; rfl) (fun S42 H locs _ F hf => ?_)
        exact fm_retv Z hr hlk F d_X12_must_45 (Option.some.inj hf)
    · have hf := fm_ig c13 hf
      refine lv_iconst (v := 1) hx hb d_X12_must_16 (by decide) ?_
      refine lv_goto (tgt := 21) hx hb d_X12_must_17 (by decide) ?_
      refine fm_rpz Z G F hf fs_X12_54 d_X12_must_21 (fun c h => by have h := eq_of_beq (show (c == 12) = true from h); subst h; rfl) (fun S21 H locs _ F hf => ?_)
      refine lv_aload_n hx hb d_X12_must_24 rfl (lv_at hl 0 rfl) ?_
      refine lv_dup hx hb d_X12_must_25 rfl ?_
      refine fm_rgi Z G F hf fr_X12_48 d_X12_must_26 (fun x26 _ hf => ?_)
      refine lv_aload_n hx hb d_X12_must_29 rfl (lv_at hl 0 rfl) ?_
      refine fm_rgi Z G F hf fr_X12_54 d_X12_must_30 (fun x30 _ hf => ?_)
      refine lv_if_eq (tgt := 40) hx hb d_X12_must_33 (by decide) (fun c33 => ?_) (fun c33 => ?_)
      · have hf := fm_ip c33 hf
        refine lv_iconst (v := 1) hx hb d_X12_must_40 (by decide) ?_
        refine lv_iadd hx hb d_X12_must_41 ?_
        refine fm_rpi Z G F hf fs_X12_48 d_X12_must_42 (fun c h => by have h := eq_of_beq (show (c == 12) = true from h); subst h; rfl) (fun S42 H locs _ F hf => ?_)
        exact fm_retv Z hr hlk F d_X12_must_45 (Option.some.inj hf)
      · have hf := fm_ig c33 hf
        refine lv_iconst (v := 0) hx hb d_X12_must_36 (by decide) ?_
        refine lv_goto (tgt := 41) hx hb d_X12_must_37 (by decide) ?_
        refine lv_iadd hx hb d_X12_must_41 ?_
        refine fm_rpi Z G F hf fs_X12_48 d_X12_must_42 (fun c h => by have h := eq_of_beq (show (c == 12) = true from h); subst h; rfl) (fun S42 H locs _ F hf => ?_)
        exact fm_retv Z hr hlk F d_X12_must_45 (Option.some.inj hf)
theorem d_X12_figures_0 : decode prog_14_method_12_code 0 = .ok (.aload_n 0, 1) := by decide +kernel
theorem d_X12_figures_1 : decode prog_14_method_12_code 1 = .ok (.aload_n 0, 1) := by decide +kernel
theorem d_X12_figures_2 : decode prog_14_method_12_code 2 = .ok (.getfield 54, 3) := by decide +kernel
theorem d_X12_figures_5 : decode prog_14_method_12_code 5 = .ok (.ifCond .ne 17, 3) := by decide +kernel
theorem d_X12_figures_8 : decode prog_14_method_12_code 8 = .ok (.aload_n 0, 1) := by decide +kernel
theorem d_X12_figures_9 : decode prog_14_method_12_code 9 = .ok (.invokevirtual 58, 3) := by decide +kernel
theorem d_X12_figures_12 : decode prog_14_method_12_code 12 = .ok (.bipush 48, 2) := by decide +kernel
theorem d_X12_figures_14 : decode prog_14_method_12_code 14 = .ok (.bipush 57, 2) := by decide +kernel
theorem d_X12_figures_16 : decode prog_14_method_12_code 16 = .ok (.invokestatic 44, 3) := by decide +kernel
theorem d_X12_figures_19 : decode prog_14_method_12_code 19 = .ok (.ifCond .ne 7, 3) := by decide +kernel
theorem d_X12_figures_22 : decode prog_14_method_12_code 22 = .ok (.iconst 1, 1) := by decide +kernel
theorem d_X12_figures_23 : decode prog_14_method_12_code 23 = .ok (.goto 4, 3) := by decide +kernel
theorem d_X12_figures_26 : decode prog_14_method_12_code 26 = .ok (.iconst 0, 1) := by decide +kernel
theorem d_X12_figures_27 : decode prog_14_method_12_code 27 = .ok (.putfield 54, 3) := by decide +kernel
theorem d_X12_figures_30 : decode prog_14_method_12_code 30 = .ok (.iconst 0, 1) := by decide +kernel
theorem d_X12_figures_31 : decode prog_14_method_12_code 31 = .ok (.istore_n 1, 1) := by decide +kernel
theorem d_X12_figures_32 : decode prog_14_method_12_code 32 = .ok (.iconst 0, 1) := by decide +kernel
theorem d_X12_figures_33 : decode prog_14_method_12_code 33 = .ok (.istore_n 2, 1) := by decide +kernel
theorem d_X12_figures_34 : decode prog_14_method_12_code 34 = .ok (.iload_n 2, 1) := by decide +kernel
theorem d_X12_figures_35 : decode prog_14_method_12_code 35 = .ok (.iconst 2, 1) := by decide +kernel
theorem d_X12_figures_36 : decode prog_14_method_12_code 36 = .ok (.if_icmp .ge 61, 3) := by decide +kernel
theorem d_X12_figures_39 : decode prog_14_method_12_code 39 = .ok (.aload_n 0, 1) := by decide +kernel
theorem d_X12_figures_40 : decode prog_14_method_12_code 40 = .ok (.getfield 54, 3) := by decide +kernel
theorem d_X12_figures_43 : decode prog_14_method_12_code 43 = .ok (.ifCond .ne 54, 3) := by decide +kernel
theorem d_X12_figures_46 : decode prog_14_method_12_code 46 = .ok (.aload_n 0, 1) := by decide +kernel
theorem d_X12_figures_47 : decode prog_14_method_12_code 47 = .ok (.invokevirtual 58, 3) := by decide +kernel
theorem d_X12_figures_50 : decode prog_14_method_12_code 50 = .ok (.bipush 48, 2) := by decide +kernel
theorem d_X12_figures_52 : decode prog_14_method_12_code 52 = .ok (.bipush 57, 2) := by decide +kernel
theorem d_X12_figures_54 : decode prog_14_method_12_code 54 = .ok (.invokestatic 44, 3) := by decide +kernel
theorem d_X12_figures_57 : decode prog_14_method_12_code 57 = .ok (.ifCond .eq 40, 3) := by decide +kernel
theorem d_X12_figures_60 : decode prog_14_method_12_code 60 = .ok (.iload_n 2, 1) := by decide +kernel
theorem d_X12_figures_61 : decode prog_14_method_12_code 61 = .ok (.ifCond .eq 7, 3) := by decide +kernel
theorem d_X12_figures_64 : decode prog_14_method_12_code 64 = .ok (.iload_n 1, 1) := by decide +kernel
theorem d_X12_figures_65 : decode prog_14_method_12_code 65 = .ok (.ifCond .le 32, 3) := by decide +kernel
theorem d_X12_figures_68 : decode prog_14_method_12_code 68 = .ok (.bipush 10, 2) := by decide +kernel
theorem d_X12_figures_70 : decode prog_14_method_12_code 70 = .ok (.iload_n 1, 1) := by decide +kernel
theorem d_X12_figures_71 : decode prog_14_method_12_code 71 = .ok (.imul, 1) := by decide +kernel
theorem d_X12_figures_72 : decode prog_14_method_12_code 72 = .ok (.aload_n 0, 1) := by decide +kernel
theorem d_X12_figures_73 : decode prog_14_method_12_code 73 = .ok (.invokevirtual 58, 3) := by decide +kernel
theorem d_X12_figures_76 : decode prog_14_method_12_code 76 = .ok (.iadd, 1) := by decide +kernel
theorem d_X12_figures_77 : decode prog_14_method_12_code 77 = .ok (.bipush 48, 2) := by decide +kernel
theorem d_X12_figures_79 : decode prog_14_method_12_code 79 = .ok (.isub, 1) := by decide +kernel
theorem d_X12_figures_80 : decode prog_14_method_12_code 80 = .ok (.istore_n 1, 1) := by decide +kernel
theorem d_X12_figures_81 : decode prog_14_method_12_code 81 = .ok (.aload_n 0, 1) := by decide +kernel
theorem d_X12_figures_82 : decode prog_14_method_12_code 82 = .ok (.dup, 1) := by decide +kernel
theorem d_X12_figures_83 : decode prog_14_method_12_code 83 = .ok (.getfield 48, 3) := by decide +kernel
theorem d_X12_figures_86 : decode prog_14_method_12_code 86 = .ok (.iconst 1, 1) := by decide +kernel
theorem d_X12_figures_87 : decode prog_14_method_12_code 87 = .ok (.iadd, 1) := by decide +kernel
theorem d_X12_figures_88 : decode prog_14_method_12_code 88 = .ok (.putfield 48, 3) := by decide +kernel
theorem d_X12_figures_91 : decode prog_14_method_12_code 91 = .ok (.iinc 2 1, 3) := by decide +kernel
theorem d_X12_figures_94 : decode prog_14_method_12_code 94 = .ok (.goto (-60), 3) := by decide +kernel
theorem d_X12_figures_97 : decode prog_14_method_12_code 97 = .ok (.iload_n 1, 1) := by decide +kernel
theorem d_X12_figures_98 : decode prog_14_method_12_code 98 = .ok (.ireturn, 1) := by decide +kernel
def k_X12_figures_34 (kap lam : Nat → Nat) (go34 : Nat → Int32 → Int32 → fm_M → Option (Int32 × fm_M)) (r0 : Nat) (a1 : Int32) (a2 : Int32)  (S : fm_M) : Option (Int32 × fm_M) :=
  if 2 ≤ a2 then (
   some (a1, S)
  ) else (
   fm_gi kap 12 r0 8 S fun x40 =>
   if x40 = 0 then (
    fm_ck (kap r0 == 12) <|
    fm_b1 (m_X12_here kap lam r0 S) fun x47 =>
    fm_b1 (m_X12_in kap lam x47 48 57 S) fun x54 =>
    if x54 = 0 then (
     some (a1, S)
    ) else (
     if a2 = 0 then (
      fm_ck (kap r0 == 12) <|
      fm_b1 (m_X12_here kap lam r0 S) fun x73 =>
      fm_let (((10 * a1) + x73) - 48 : Int32) fun x80 =>
      fm_gi kap 12 r0 6 S fun x83 =>
      fm_pi kap 12 r0 6 S (x83 + 1) fun S88 =>
      fm_let (a2 + 1 : Int32) fun x91 =>
      go34 r0 x80 x91 S88
     ) else (
      if a1 ≤ 0 then (
       some (a1, S)
      ) else (
       fm_ck (kap r0 == 12) <|
       fm_b1 (m_X12_here kap lam r0 S) fun x73 =>
       fm_let (((10 * a1) + x73) - 48 : Int32) fun x80 =>
       fm_gi kap 12 r0 6 S fun x83 =>
       fm_pi kap 12 r0 6 S (x83 + 1) fun S88 =>
       fm_let (a2 + 1 : Int32) fun x91 =>
       go34 r0 x80 x91 S88
      )
     )
    )
   ) else (
    some (a1, S)
   )
  )
def b_X12_figures_34 (kap lam : Nat → Nat) : Nat → Nat → Int32 → Int32 → fm_M → Option (Int32 × fm_M)
  | 0 => fun _ _ _ _ => none
  | n + 1 => k_X12_figures_34 kap lam (b_X12_figures_34 kap lam n)
def m_X12_figures (kap lam : Nat → Nat) (r0 : Nat) (S : fm_M) : Option (Int32 × fm_M) :=
  fm_gi kap 12 r0 8 S fun x2 =>
  if x2 = 0 then (
   fm_ck (kap r0 == 12) <|
   fm_b1 (m_X12_here kap lam r0 S) fun x9 =>
   fm_b1 (m_X12_in kap lam x9 48 57 S) fun x16 =>
   if x16 = 0 then (
    fm_pz kap 12 r0 8 S 1 fun S27 =>
    fm_let (0 : Int32) fun x31 =>
    fm_let (0 : Int32) fun x33 =>
    b_X12_figures_34 kap lam fm_LF r0 x31 x33 S27
   ) else (
    fm_pz kap 12 r0 8 S 0 fun S27 =>
    fm_let (0 : Int32) fun x31 =>
    fm_let (0 : Int32) fun x33 =>
    b_X12_figures_34 kap lam fm_LF r0 x31 x33 S27
   )
  ) else (
   fm_pz kap 12 r0 8 S 1 fun S27 =>
   fm_let (0 : Int32) fun x31 =>
   fm_let (0 : Int32) fun x33 =>
   b_X12_figures_34 kap lam fm_LF r0 x31 x33 S27
  )
set_option maxHeartbeats 4000000 in
set_option maxRecDepth 100000 in
theorem c_X12_figures {l : Launch} {D : va_G} {ids kap lam : Nat → Nat} {RL : List Nat} {ad sk sv : Nat → Nat} {S : fm_M} {r0 : Nat} {r : Int32} {u : fm_M} (hE : fm_E kap RL ad) (hf : m_X12_figures kap lam r0 S = some (r, u)) (sz : Nat) : fm_MI l y_X12_figures prog_14_method_12_code 3 (Option.some Jvm.ClassFile.FieldType.int) 1 D ids kap lam RL ad sk sv S [.ref (ad r0)] sz r u := by
  refine fm_open rfl hE (Nat.le_of_ble_eq_true rfl) (fun p e s m args below meth c ls Z hr hlk G F N hl hsz => ?_)
  subst hsz
  obtain ⟨hx, hb, hml, hown, hts⟩ := id Z
  have hl : lv_has ls 3 [(0, .ref (ad r0))] := hl
  generalize hQ : MQ below _ args s 0 0 (fm_A RL ad s.heap.size) = Qf
  have hL : ∀ n : Nat, (∀ (r0 : Nat) (a1 : Int32) (a2 : Int32)  (S : fm_M) (H : Heap) (locs : List Loc) (ls : Array Slot), fm_F D ids kap lam RL ad S (fm_A RL ad s.heap.size) s.heap H locs → lv_has ls 3 [(0, .ref (ad r0)), (1, .int a1), (2, .int a2)] → b_X12_figures_34 kap lam n r0 a1 a2 S = some (r, u) → W p l e (fm_rm 1) s m args below meth c H locs 0 0 Qf (F0 m 34 ls [])) := by
    intro n
    induction n with
    | zero => exact fun _ _ _ _ _ _ _ _ _ hf => absurd hf (by intro h; cases h)
    | succ n ih =>
      intro r0 a1 a2 S H locs ls F hl hf
      have hf : k_X12_figures_34 kap lam (b_X12_figures_34 kap lam n) r0 a1 a2 S = some (r, u) := hf
      unfold k_X12_figures_34 at hf
      refine lv_iload_n hx hb d_X12_figures_34 rfl (lv_at hl 2 rfl) ?_
      refine lv_iconst (v := 2) hx hb d_X12_figures_35 (by decide) ?_
      refine lv_icmp_ge (tgt := 97) hx hb d_X12_figures_36 (by decide) (fun c36 => ?_) (fun c36 => ?_)
      · have hf := fm_ip c36 hf
        refine lv_iload_n hx hb d_X12_figures_97 rfl (lv_at hl 1 rfl) ?_
        rw [← hQ]; exact fm_reti Z hr hlk F d_X12_figures_98 (Prod.mk.inj (Option.some.inj hf)).1 (Prod.mk.inj (Option.some.inj hf)).2
      · have hf := fm_ig c36 hf
        refine lv_aload_n hx hb d_X12_figures_39 rfl (lv_at hl 0 rfl) ?_
        refine fm_rgi Z G F hf fr_X12_54 d_X12_figures_40 (fun x40 _ hf => ?_)
        refine lv_if_ne (tgt := 97) hx hb d_X12_figures_43 (by decide) (fun c43 => ?_) (fun c43 => ?_)
        · have hf := fm_ig c43 hf
          refine lv_iload_n hx hb d_X12_figures_97 rfl (lv_at hl 1 rfl) ?_
          rw [← hQ]; exact fm_reti Z hr hlk F d_X12_figures_98 (Prod.mk.inj (Option.some.inj hf)).1 (Prod.mk.inj (Option.some.inj hf)).2
        · have hf := fm_ip c43 hf
          refine lv_aload_n hx hb d_X12_figures_46 rfl (lv_at hl 0 rfl) ?_
          obtain ⟨hk47, hf⟩ := fm_some hf
          refine fm_rcr G F hf (fun r ho => fm_runV (k := 0) Z G F N (As := []) (rest := []) (c_X12_here hE ho _) (by rw [eq_of_beq hk47]; decide) (by rw [eq_of_beq hk47]; rfl) kw_1015 kw_1017 kp_26 kw_6 kw_1018 yd_X12_here rfl (by decide) (by decide) hl.1 (Nat.le_of_ble_eq_true rfl) d_X12_figures_47 (Nat.le_refl 0) (Nat.le_refl 0)) (fun x47 H locs _ F hf => ?_)
          refine lv_bipush (v := 48) hx hb d_X12_figures_50 (by decide) ?_
          refine lv_bipush (v := 57) hx hb d_X12_figures_52 (by decide) ?_
          refine fm_rcr G F hf (fun r ho => fm_runS (k := 3) Z G F N (As := [.int x47, .int 48, .int 57]) (rest := []) (c_X12_in hE ho _) kw_1004 kw_1005 kw_6 kw_1006 yd_X12_in rfl (by decide) (by decide) hl.1 (Nat.le_of_ble_eq_true rfl) d_X12_figures_54 (Nat.le_refl 0) (Nat.le_refl 0)) (fun x54 H locs _ F hf => ?_)
          refine lv_if_eq (tgt := 97) hx hb d_X12_figures_57 (by decide) (fun c57 => ?_) (fun c57 => ?_)
          · have hf := fm_ip c57 hf
            refine lv_iload_n hx hb d_X12_figures_97 rfl (lv_at hl 1 rfl) ?_
            rw [← hQ]; exact fm_reti Z hr hlk F d_X12_figures_98 (Prod.mk.inj (Option.some.inj hf)).1 (Prod.mk.inj (Option.some.inj hf)).2
          · have hf := fm_ig c57 hf
            refine lv_iload_n hx hb d_X12_figures_60 rfl (lv_at hl 2 rfl) ?_
            refine lv_if_eq (tgt := 68) hx hb d_X12_figures_61 (by decide) (fun c61 => ?_) (fun c61 => ?_)
            · have hf := fm_ip c61 hf
              refine lv_bipush (v := 10) hx hb d_X12_figures_68 (by decide) ?_
              refine lv_iload_n hx hb d_X12_figures_70 rfl (lv_at hl 1 rfl) ?_
              refine lv_imul hx hb d_X12_figures_71 ?_
              refine lv_aload_n hx hb d_X12_figures_72 rfl (lv_at hl 0 rfl) ?_
              obtain ⟨hk73, hf⟩ := fm_some hf
              refine fm_rcr G F hf (fun r ho => fm_runV (k := 0) Z G F N (As := []) (rest := [.int (10 * a1)]) (c_X12_here hE ho _) (by rw [eq_of_beq hk73]; decide) (by rw [eq_of_beq hk73]; rfl) kw_1015 kw_1017 kp_26 kw_6 kw_1018 yd_X12_here rfl (by decide) (by decide) hl.1 (Nat.le_of_ble_eq_true rfl) d_X12_figures_73 (Nat.le_refl 0) (Nat.le_refl 0)) (fun x73 H locs _ F hf => ?_)
              refine lv_iadd hx hb d_X12_figures_76 ?_
              refine lv_bipush (v := 48) hx hb d_X12_figures_77 (by decide) ?_
              refine lv_isub hx hb d_X12_figures_79 ?_
              refine lv_topi (fun x80 ex80 => ?_)
              have hf := fm_let_at ex80 hf
              refine lv_istore_n (lv' := [(1, .int x80), (0, .ref (ad r0)), (2, .int a2)]) hx hb d_X12_figures_80 rfl hl (by decide) rfl (fun ls hl => ?_)
              refine lv_aload_n hx hb d_X12_figures_81 rfl (lv_at hl 1 rfl) ?_
              refine lv_dup hx hb d_X12_figures_82 rfl ?_
              refine fm_rgi Z G F hf fr_X12_48 d_X12_figures_83 (fun x83 _ hf => ?_)
              refine lv_iconst (v := 1) hx hb d_X12_figures_86 (by decide) ?_
              refine lv_iadd hx hb d_X12_figures_87 ?_
              refine fm_rpi Z G F hf fs_X12_48 d_X12_figures_88 (fun c h => by have h := eq_of_beq (show (c == 12) = true from h); subst h; rfl) (fun S88 H locs _ F hf => ?_)
              obtain ⟨x91, ex91⟩ : ∃ y : Int32, y = a2 + 1 := ⟨_, rfl⟩
              have hf := fm_let_at ex91 hf
              refine lv_iinc (v := x91) (lv' := [(2, .int x91), (1, .int x80), (0, .ref (ad r0))]) hx hb d_X12_figures_91 hl (k := 2) rfl (by rw [ex91]; rfl) (by decide) rfl (fun ls hl => ?_)
              refine lv_goto (tgt := 34) hx hb d_X12_figures_94 (by decide) ?_
              exact ih r0 x80 x91 S88 _ _ _ F (lv_sub hl [2, 1, 0] rfl) hf
            · have hf := fm_ig c61 hf
              refine lv_iload_n hx hb d_X12_figures_64 rfl (lv_at hl 1 rfl) ?_
              refine lv_if_le (tgt := 97) hx hb d_X12_figures_65 (by decide) (fun c65 => ?_) (fun c65 => ?_)
              · have hf := fm_ip c65 hf
                refine lv_iload_n hx hb d_X12_figures_97 rfl (lv_at hl 1 rfl) ?_
                rw [← hQ]; exact fm_reti Z hr hlk F d_X12_figures_98 (Prod.mk.inj (Option.some.inj hf)).1 (Prod.mk.inj (Option.some.inj hf)).2
              · have hf := fm_ig c65 hf
                refine lv_bipush (v := 10) hx hb d_X12_figures_68 (by decide) ?_
                refine lv_iload_n hx hb d_X12_figures_70 rfl (lv_at hl 1 rfl) ?_
                refine lv_imul hx hb d_X12_figures_71 ?_
                refine lv_aload_n hx hb d_X12_figures_72 rfl (lv_at hl 0 rfl) ?_
                obtain ⟨hk73, hf⟩ := fm_some hf
                refine fm_rcr G F hf (fun r ho => fm_runV (k := 0) Z G F N (As := []) (rest := [.int (10 * a1)]) (c_X12_here hE ho _) (by rw [eq_of_beq hk73]; decide) (by rw [eq_of_beq hk73]; rfl) kw_1015 kw_1017 kp_26 kw_6 kw_1018 yd_X12_here rfl (by decide) (by decide) hl.1 (Nat.le_of_ble_eq_true rfl) d_X12_figures_73 (Nat.le_refl 0) (Nat.le_refl 0)) (fun x73 H locs _ F hf => ?_)
                refine lv_iadd hx hb d_X12_figures_76 ?_
                refine lv_bipush (v := 48) hx hb d_X12_figures_77 (by decide) ?_
                refine lv_isub hx hb d_X12_figures_79 ?_
                refine lv_topi (fun x80 ex80 => ?_)
                have hf := fm_let_at ex80 hf
                refine lv_istore_n (lv' := [(1, .int x80), (0, .ref (ad r0)), (2, .int a2)]) hx hb d_X12_figures_80 rfl hl (by decide) rfl (fun ls hl => ?_)
                refine lv_aload_n hx hb d_X12_figures_81 rfl (lv_at hl 1 rfl) ?_
                refine lv_dup hx hb d_X12_figures_82 rfl ?_
                refine fm_rgi Z G F hf fr_X12_48 d_X12_figures_83 (fun x83 _ hf => ?_)
                refine lv_iconst (v := 1) hx hb d_X12_figures_86 (by decide) ?_
                refine lv_iadd hx hb d_X12_figures_87 ?_
                refine fm_rpi Z G F hf fs_X12_48 d_X12_figures_88 (fun c h => by have h := eq_of_beq (show (c == 12) = true from h); subst h; rfl) (fun S88 H locs _ F hf => ?_)
                obtain ⟨x91, ex91⟩ : ∃ y : Int32, y = a2 + 1 := ⟨_, rfl⟩
                have hf := fm_let_at ex91 hf
                refine lv_iinc (v := x91) (lv' := [(2, .int x91), (1, .int x80), (0, .ref (ad r0))]) hx hb d_X12_figures_91 hl (k := 2) rfl (by rw [ex91]; rfl) (by decide) rfl (fun ls hl => ?_)
                refine lv_goto (tgt := 34) hx hb d_X12_figures_94 (by decide) ?_
                exact ih r0 x80 x91 S88 _ _ _ F (lv_sub hl [2, 1, 0] rfl) hf
  unfold m_X12_figures at hf
  refine lv_aload_n hx hb d_X12_figures_0 rfl (lv_at hl 0 rfl) ?_
  refine lv_aload_n hx hb d_X12_figures_1 rfl (lv_at hl 0 rfl) ?_
  refine fm_rgi Z G F hf fr_X12_54 d_X12_figures_2 (fun x2 _ hf => ?_)
  refine lv_if_ne (tgt := 22) hx hb d_X12_figures_5 (by decide) (fun c5 => ?_) (fun c5 => ?_)
  · have hf := fm_ig c5 hf
    refine lv_iconst (v := 1) hx hb d_X12_figures_22 (by decide) ?_
    refine lv_goto (tgt := 27) hx hb d_X12_figures_23 (by decide) ?_
    refine fm_rpz Z G F hf fs_X12_54 d_X12_figures_27 (fun c h => by have h := eq_of_beq (show (c == 12) = true from h); subst h; rfl) (fun S27 H locs _ F hf => ?_)
    refine lv_iconst (v := 0) hx hb d_X12_figures_30 (by decide) ?_
    refine lv_topi (fun x31 ex31 => ?_)
    have hf := fm_let_at ex31 hf
    refine lv_istore_n (lv' := [(1, .int x31), (0, .ref (ad r0))]) hx hb d_X12_figures_31 rfl hl (by decide) rfl (fun ls hl => ?_)
    refine lv_iconst (v := 0) hx hb d_X12_figures_32 (by decide) ?_
    refine lv_topi (fun x33 ex33 => ?_)
    have hf := fm_let_at ex33 hf
    refine lv_istore_n (lv' := [(2, .int x33), (1, .int x31), (0, .ref (ad r0))]) hx hb d_X12_figures_33 rfl hl (by decide) rfl (fun ls hl => ?_)
    exact (hL fm_LF) r0 x31 x33 S27 _ _ _ F (lv_sub hl [2, 1, 0] rfl) hf
  · have hf := fm_ip c5 hf
    refine lv_aload_n hx hb d_X12_figures_8 rfl (lv_at hl 0 rfl) ?_
    obtain ⟨hk9, hf⟩ := fm_some hf
    refine fm_rcr G F hf (fun r ho => fm_runV (k := 0) Z G F N (As := []) (rest := [.ref (ad r0)]) (c_X12_here hE ho _) (by rw [eq_of_beq hk9]; decide) (by rw [eq_of_beq hk9]; rfl) kw_1015 kw_1017 kp_26 kw_6 kw_1018 yd_X12_here rfl (by decide) (by decide) hl.1 (Nat.le_of_ble_eq_true rfl) d_X12_figures_9 (Nat.le_refl 0) (Nat.le_refl 0)) (fun x9 H locs _ F hf => ?_)
    refine lv_bipush (v := 48) hx hb d_X12_figures_12 (by decide) ?_
    refine lv_bipush (v := 57) hx hb d_X12_figures_14 (by decide) ?_
    refine fm_rcr G F hf (fun r ho => fm_runS (k := 3) Z G F N (As := [.int x9, .int 48, .int 57]) (rest := [.ref (ad r0)]) (c_X12_in hE ho _) kw_1004 kw_1005 kw_6 kw_1006 yd_X12_in rfl (by decide) (by decide) hl.1 (Nat.le_of_ble_eq_true rfl) d_X12_figures_16 (Nat.le_refl 0) (Nat.le_refl 0)) (fun x16 H locs _ F hf => ?_)
    refine lv_if_ne (tgt := 26) hx hb d_X12_figures_19 (by decide) (fun c19 => ?_) (fun c19 => ?_)
    · have hf := fm_ig c19 hf
      refine lv_iconst (v := 0) hx hb d_X12_figures_26 (by decide) ?_
      refine fm_rpz Z G F hf fs_X12_54 d_X12_figures_27 (fun c h => by have h := eq_of_beq (show (c == 12) = true from h); subst h; rfl) (fun S27 H locs _ F hf => ?_)
      refine lv_iconst (v := 0) hx hb d_X12_figures_30 (by decide) ?_
      refine lv_topi (fun x31 ex31 => ?_)
      have hf := fm_let_at ex31 hf
      refine lv_istore_n (lv' := [(1, .int x31), (0, .ref (ad r0))]) hx hb d_X12_figures_31 rfl hl (by decide) rfl (fun ls hl => ?_)
      refine lv_iconst (v := 0) hx hb d_X12_figures_32 (by decide) ?_
      refine lv_topi (fun x33 ex33 => ?_)
      have hf := fm_let_at ex33 hf
      refine lv_istore_n (lv' := [(2, .int x33), (1, .int x31), (0, .ref (ad r0))]) hx hb d_X12_figures_33 rfl hl (by decide) rfl (fun ls hl => ?_)
      exact (hL fm_LF) r0 x31 x33 S27 _ _ _ F (lv_sub hl [2, 1, 0] rfl) hf
    · have hf := fm_ip c19 hf
      refine lv_iconst (v := 1) hx hb d_X12_figures_22 (by decide) ?_
      refine lv_goto (tgt := 27) hx hb d_X12_figures_23 (by decide) ?_
      refine fm_rpz Z G F hf fs_X12_54 d_X12_figures_27 (fun c h => by have h := eq_of_beq (show (c == 12) = true from h); subst h; rfl) (fun S27 H locs _ F hf => ?_)
      refine lv_iconst (v := 0) hx hb d_X12_figures_30 (by decide) ?_
      refine lv_topi (fun x31 ex31 => ?_)
      have hf := fm_let_at ex31 hf
      refine lv_istore_n (lv' := [(1, .int x31), (0, .ref (ad r0))]) hx hb d_X12_figures_31 rfl hl (by decide) rfl (fun ls hl => ?_)
      refine lv_iconst (v := 0) hx hb d_X12_figures_32 (by decide) ?_
      refine lv_topi (fun x33 ex33 => ?_)
      have hf := fm_let_at ex33 hf
      refine lv_istore_n (lv' := [(2, .int x33), (1, .int x31), (0, .ref (ad r0))]) hx hb d_X12_figures_33 rfl hl (by decide) rfl (fun ls hl => ?_)
      exact (hL fm_LF) r0 x31 x33 S27 _ _ _ F (lv_sub hl [2, 1, 0] rfl) hf
theorem d_X12_emits_0 : decode prog_14_method_14_code 0 = .ok (.aload_n 0, 1) := by decide +kernel
theorem d_X12_emits_1 : decode prog_14_method_14_code 1 = .ok (.getfield 54, 3) := by decide +kernel
theorem d_X12_emits_4 : decode prog_14_method_14_code 4 = .ok (.ifCond .ne 52, 3) := by decide +kernel
theorem d_X12_emits_7 : decode prog_14_method_14_code 7 = .ok (.aload_n 0, 1) := by decide +kernel
theorem d_X12_emits_8 : decode prog_14_method_14_code 8 = .ok (.getfield 9, 3) := by decide +kernel
theorem d_X12_emits_11 : decode prog_14_method_14_code 11 = .ok (.sipush 226, 3) := by decide +kernel
theorem d_X12_emits_14 : decode prog_14_method_14_code 14 = .ok (.sipush 140, 3) := by decide +kernel
theorem d_X12_emits_17 : decode prog_14_method_14_code 17 = .ok (.aload_n 0, 1) := by decide +kernel
theorem d_X12_emits_18 : decode prog_14_method_14_code 18 = .ok (.getfield 75, 3) := by decide +kernel
theorem d_X12_emits_21 : decode prog_14_method_14_code 21 = .ok (.imul, 1) := by decide +kernel
theorem d_X12_emits_22 : decode prog_14_method_14_code 22 = .ok (.iadd, 1) := by decide +kernel
theorem d_X12_emits_23 : decode prog_14_method_14_code 23 = .ok (.aload_n 0, 1) := by decide +kernel
theorem d_X12_emits_24 : decode prog_14_method_14_code 24 = .ok (.getfield 9, 3) := by decide +kernel
theorem d_X12_emits_27 : decode prog_14_method_14_code 27 = .ok (.sipush 221, 3) := by decide +kernel
theorem d_X12_emits_30 : decode prog_14_method_14_code 30 = .ok (.aload_n 0, 1) := by decide +kernel
theorem d_X12_emits_31 : decode prog_14_method_14_code 31 = .ok (.getfield 75, 3) := by decide +kernel
theorem d_X12_emits_34 : decode prog_14_method_14_code 34 = .ok (.iadd, 1) := by decide +kernel
theorem d_X12_emits_35 : decode prog_14_method_14_code 35 = .ok (.iaload, 1) := by decide +kernel
theorem d_X12_emits_36 : decode prog_14_method_14_code 36 = .ok (.iadd, 1) := by decide +kernel
theorem d_X12_emits_37 : decode prog_14_method_14_code 37 = .ok (.iload_n 1, 1) := by decide +kernel
theorem d_X12_emits_38 : decode prog_14_method_14_code 38 = .ok (.iastore, 1) := by decide +kernel
theorem d_X12_emits_39 : decode prog_14_method_14_code 39 = .ok (.aload_n 0, 1) := by decide +kernel
theorem d_X12_emits_40 : decode prog_14_method_14_code 40 = .ok (.getfield 9, 3) := by decide +kernel
theorem d_X12_emits_43 : decode prog_14_method_14_code 43 = .ok (.sipush 221, 3) := by decide +kernel
theorem d_X12_emits_46 : decode prog_14_method_14_code 46 = .ok (.aload_n 0, 1) := by decide +kernel
theorem d_X12_emits_47 : decode prog_14_method_14_code 47 = .ok (.getfield 75, 3) := by decide +kernel
theorem d_X12_emits_50 : decode prog_14_method_14_code 50 = .ok (.iadd, 1) := by decide +kernel
theorem d_X12_emits_51 : decode prog_14_method_14_code 51 = .ok (.dup2, 1) := by decide +kernel
theorem d_X12_emits_52 : decode prog_14_method_14_code 52 = .ok (.iaload, 1) := by decide +kernel
theorem d_X12_emits_53 : decode prog_14_method_14_code 53 = .ok (.iconst 1, 1) := by decide +kernel
theorem d_X12_emits_54 : decode prog_14_method_14_code 54 = .ok (.iadd, 1) := by decide +kernel
theorem d_X12_emits_55 : decode prog_14_method_14_code 55 = .ok (.iastore, 1) := by decide +kernel
theorem d_X12_emits_56 : decode prog_14_method_14_code 56 = .ok (.return_, 1) := by decide +kernel
def m_X12_emits (kap lam : Nat → Nat) (r0 : Nat) (a1 : Int32) (S : fm_M) : Option fm_M :=
  fm_gi kap 12 r0 8 S fun x1 =>
  if x1 = 0 then (
   fm_gr kap 12 r0 1 S fun q8 =>
   fm_gi kap 12 r0 5 S fun x18 =>
   fm_gr kap 12 r0 1 S fun q24 =>
   fm_gi kap 12 r0 5 S fun x31 =>
   fm_ld kap lam 13 q24 (221 + x31) S fun x35 =>
   fm_st kap lam q8 ((226 + (140 * x18)) + x35) a1 S fun S38 =>
   fm_gr kap 12 r0 1 S38 fun q40 =>
   fm_gi kap 12 r0 5 S38 fun x47 =>
   fm_ld kap lam 13 q40 (221 + x47) S38 fun x52 =>
   fm_st kap lam q40 (221 + x47) (x52 + 1) S38 fun S55 =>
   some S55
  ) else (
   some S
  )
set_option maxHeartbeats 4000000 in
set_option maxRecDepth 100000 in
theorem c_X12_emits {l : Launch} {D : va_G} {ids kap lam : Nat → Nat} {RL : List Nat} {ad sk sv : Nat → Nat} {S : fm_M} {r0 : Nat} {a1 : Int32} {u : fm_M} (hE : fm_E kap RL ad) (hf : m_X12_emits kap lam r0 a1 S = some u) (sz : Nat) : fm_MV l y_X12_emits prog_14_method_14_code 2 (Option.none : Option Jvm.ClassFile.FieldType) 0 D ids kap lam RL ad sk sv S [.ref (ad r0), .int a1] sz u := by
  refine fm_open rfl hE (Nat.le_of_ble_eq_true rfl) (fun p e s m args below meth c ls Z hr hlk G F N hl hsz => ?_)
  subst hsz
  obtain ⟨hx, hb, hml, hown, hts⟩ := id Z
  have hl : lv_has ls 2 [(0, .ref (ad r0)), (1, .int a1)] := hl
  unfold m_X12_emits at hf
  refine lv_aload_n hx hb d_X12_emits_0 rfl (lv_at hl 0 rfl) ?_
  refine fm_rgi Z G F hf fr_X12_54 d_X12_emits_1 (fun x1 _ hf => ?_)
  refine lv_if_ne (tgt := 56) hx hb d_X12_emits_4 (by decide) (fun c4 => ?_) (fun c4 => ?_)
  · have hf := fm_ig c4 hf
    exact fm_retv Z hr hlk F d_X12_emits_56 (Option.some.inj hf)
  · have hf := fm_ip c4 hf
    refine lv_aload_n hx hb d_X12_emits_7 rfl (lv_at hl 0 rfl) ?_
    refine fm_rgr Z G F hf fr_X12_9 d_X12_emits_8 (fun q8 _ hf => ?_)
    refine lv_sipush (v := 226) hx hb d_X12_emits_11 (by decide) ?_
    refine lv_sipush (v := 140) hx hb d_X12_emits_14 (by decide) ?_
    refine lv_aload_n hx hb d_X12_emits_17 rfl (lv_at hl 0 rfl) ?_
    refine fm_rgi Z G F hf fr_X12_75 d_X12_emits_18 (fun x18 _ hf => ?_)
    refine lv_imul hx hb d_X12_emits_21 ?_
    refine lv_iadd hx hb d_X12_emits_22 ?_
    refine lv_aload_n hx hb d_X12_emits_23 rfl (lv_at hl 0 rfl) ?_
    refine fm_rgr Z G F hf fr_X12_9 d_X12_emits_24 (fun q24 _ hf => ?_)
    refine lv_sipush (v := 221) hx hb d_X12_emits_27 (by decide) ?_
    refine lv_aload_n hx hb d_X12_emits_30 rfl (lv_at hl 0 rfl) ?_
    refine fm_rgi Z G F hf fr_X12_75 d_X12_emits_31 (fun x31 _ hf => ?_)
    refine lv_iadd hx hb d_X12_emits_34 ?_
    refine fm_rld Z G F hf d_X12_emits_35 (fun x35 _ hf => ?_)
    refine lv_iadd hx hb d_X12_emits_36 ?_
    refine lv_iload_n hx hb d_X12_emits_37 rfl (lv_at hl 1 rfl) ?_
    refine fm_rst Z G F hf d_X12_emits_38 (fun S38 H locs _ F hf => ?_)
    refine lv_aload_n hx hb d_X12_emits_39 rfl (lv_at hl 0 rfl) ?_
    refine fm_rgr Z G F hf fr_X12_9 d_X12_emits_40 (fun q40 _ hf => ?_)
    refine lv_sipush (v := 221) hx hb d_X12_emits_43 (by decide) ?_
    refine lv_aload_n hx hb d_X12_emits_46 rfl (lv_at hl 0 rfl) ?_
    refine fm_rgi Z G F hf fr_X12_75 d_X12_emits_47 (fun x47 _ hf => ?_)
    refine lv_iadd hx hb d_X12_emits_50 ?_
    refine lv_dup2_11 hx hb d_X12_emits_51 rfl rfl ?_
    refine fm_rld Z G F hf d_X12_emits_52 (fun x52 _ hf => ?_)
    refine lv_iconst (v := 1) hx hb d_X12_emits_53 (by decide) ?_
    refine lv_iadd hx hb d_X12_emits_54 ?_
    refine fm_rst Z G F hf d_X12_emits_55 (fun S55 H locs _ F hf => ?_)
    exact fm_retv Z hr hlk F d_X12_emits_56 (Option.some.inj hf)
theorem d_X12_tellsOf_0 : decode prog_14_method_22_code 0 = .ok (.aload_n 0, 1) := by decide +kernel
theorem d_X12_tellsOf_1 : decode prog_14_method_22_code 1 = .ok (.getfield 9, 3) := by decide +kernel
theorem d_X12_tellsOf_4 : decode prog_14_method_22_code 4 = .ok (.bipush 27, 2) := by decide +kernel
theorem d_X12_tellsOf_6 : decode prog_14_method_22_code 6 = .ok (.iaload, 1) := by decide +kernel
theorem d_X12_tellsOf_7 : decode prog_14_method_22_code 7 = .ok (.iconst (-1), 1) := by decide +kernel
theorem d_X12_tellsOf_8 : decode prog_14_method_22_code 8 = .ok (.if_icmp .ne 7, 3) := by decide +kernel
theorem d_X12_tellsOf_11 : decode prog_14_method_22_code 11 = .ok (.iload_n 2, 1) := by decide +kernel
theorem d_X12_tellsOf_12 : decode prog_14_method_22_code 12 = .ok (.goto 17, 3) := by decide +kernel
theorem d_X12_tellsOf_15 : decode prog_14_method_22_code 15 = .ok (.aload_n 0, 1) := by decide +kernel
theorem d_X12_tellsOf_16 : decode prog_14_method_22_code 16 = .ok (.getfield 9, 3) := by decide +kernel
theorem d_X12_tellsOf_19 : decode prog_14_method_22_code 19 = .ok (.iload_n 1, 1) := by decide +kernel
theorem d_X12_tellsOf_20 : decode prog_14_method_22_code 20 = .ok (.aload_n 0, 1) := by decide +kernel
theorem d_X12_tellsOf_21 : decode prog_14_method_22_code 21 = .ok (.getfield 9, 3) := by decide +kernel
theorem d_X12_tellsOf_24 : decode prog_14_method_22_code 24 = .ok (.bipush 27, 2) := by decide +kernel
theorem d_X12_tellsOf_26 : decode prog_14_method_22_code 26 = .ok (.iaload, 1) := by decide +kernel
theorem d_X12_tellsOf_27 : decode prog_14_method_22_code 27 = .ok (.iadd, 1) := by decide +kernel
theorem d_X12_tellsOf_28 : decode prog_14_method_22_code 28 = .ok (.iaload, 1) := by decide +kernel
theorem d_X12_tellsOf_29 : decode prog_14_method_22_code 29 = .ok (.ireturn, 1) := by decide +kernel
def m_X12_tellsOf (kap lam : Nat → Nat) (r0 : Nat) (a1 : Int32) (a2 : Int32) (S : fm_M) : Option Int32 :=
  fm_gr kap 12 r0 1 S fun q1 =>
  fm_ld kap lam 13 q1 27 S fun x6 =>
  if x6 = (-1) then (
   some a2
  ) else (
   fm_gr kap 12 r0 1 S fun q16 =>
   fm_gr kap 12 r0 1 S fun q21 =>
   fm_ld kap lam 13 q21 27 S fun x26 =>
   fm_ld kap lam 13 q16 (a1 + x26) S fun x28 =>
   some x28
  )
set_option maxHeartbeats 4000000 in
set_option maxRecDepth 100000 in
theorem c_X12_tellsOf {l : Launch} {D : va_G} {ids kap lam : Nat → Nat} {RL : List Nat} {ad sk sv : Nat → Nat} {S : fm_M} {r0 : Nat} {a1 : Int32} {a2 : Int32} {r : Int32} (hE : fm_E kap RL ad) (hf : m_X12_tellsOf kap lam r0 a1 a2 S = some r) (sz : Nat) : fm_MI l y_X12_tellsOf prog_14_method_22_code 3 (Option.some Jvm.ClassFile.FieldType.int) 0 D ids kap lam RL ad sk sv S [.ref (ad r0), .int a1, .int a2] sz r S := by
  refine fm_open rfl hE (Nat.le_of_ble_eq_true rfl) (fun p e s m args below meth c ls Z hr hlk G F N hl hsz => ?_)
  subst hsz
  obtain ⟨hx, hb, hml, hown, hts⟩ := id Z
  have hl : lv_has ls 3 [(0, .ref (ad r0)), (1, .int a1), (2, .int a2)] := hl
  unfold m_X12_tellsOf at hf
  refine lv_aload_n hx hb d_X12_tellsOf_0 rfl (lv_at hl 0 rfl) ?_
  refine fm_rgr Z G F hf fr_X12_9 d_X12_tellsOf_1 (fun q1 _ hf => ?_)
  refine lv_bipush (v := 27) hx hb d_X12_tellsOf_4 (by decide) ?_
  refine fm_rld Z G F hf d_X12_tellsOf_6 (fun x6 _ hf => ?_)
  refine lv_iconst (v := (-1)) hx hb d_X12_tellsOf_7 (by decide) ?_
  refine lv_icmp_ne (tgt := 15) hx hb d_X12_tellsOf_8 (by decide) (fun c8 => ?_) (fun c8 => ?_)
  · have hf := fm_ig c8 hf
    refine lv_aload_n hx hb d_X12_tellsOf_15 rfl (lv_at hl 0 rfl) ?_
    refine fm_rgr Z G F hf fr_X12_9 d_X12_tellsOf_16 (fun q16 _ hf => ?_)
    refine lv_iload_n hx hb d_X12_tellsOf_19 rfl (lv_at hl 1 rfl) ?_
    refine lv_aload_n hx hb d_X12_tellsOf_20 rfl (lv_at hl 0 rfl) ?_
    refine fm_rgr Z G F hf fr_X12_9 d_X12_tellsOf_21 (fun q21 _ hf => ?_)
    refine lv_bipush (v := 27) hx hb d_X12_tellsOf_24 (by decide) ?_
    refine fm_rld Z G F hf d_X12_tellsOf_26 (fun x26 _ hf => ?_)
    refine lv_iadd hx hb d_X12_tellsOf_27 ?_
    refine fm_rld Z G F hf d_X12_tellsOf_28 (fun x28 _ hf => ?_)
    exact fm_reti Z hr hlk F d_X12_tellsOf_29 (Option.some.inj hf) rfl
  · have hf := fm_ip c8 hf
    refine lv_iload_n hx hb d_X12_tellsOf_11 rfl (lv_at hl 2 rfl) ?_
    refine lv_goto (tgt := 29) hx hb d_X12_tellsOf_12 (by decide) ?_
    exact fm_reti Z hr hlk F d_X12_tellsOf_29 (Option.some.inj hf) rfl
theorem d_X12_besides_0 : decode prog_14_method_23_code 0 = .ok (.iload_n 2, 1) := by decide +kernel
theorem d_X12_besides_1 : decode prog_14_method_23_code 1 = .ok (.ifCond .le 20, 3) := by decide +kernel
theorem d_X12_besides_4 : decode prog_14_method_23_code 4 = .ok (.aload_n 0, 1) := by decide +kernel
theorem d_X12_besides_5 : decode prog_14_method_23_code 5 = .ok (.getfield 9, 3) := by decide +kernel
theorem d_X12_besides_8 : decode prog_14_method_23_code 8 = .ok (.iconst 3, 1) := by decide +kernel
theorem d_X12_besides_9 : decode prog_14_method_23_code 9 = .ok (.iload_n 1, 1) := by decide +kernel
theorem d_X12_besides_10 : decode prog_14_method_23_code 10 = .ok (.iadd, 1) := by decide +kernel
theorem d_X12_besides_11 : decode prog_14_method_23_code 11 = .ok (.iaload, 1) := by decide +kernel
theorem d_X12_besides_12 : decode prog_14_method_23_code 12 = .ok (.iload_n 2, 1) := by decide +kernel
theorem d_X12_besides_13 : decode prog_14_method_23_code 13 = .ok (.iconst 1, 1) := by decide +kernel
theorem d_X12_besides_14 : decode prog_14_method_23_code 14 = .ok (.isub, 1) := by decide +kernel
theorem d_X12_besides_15 : decode prog_14_method_23_code 15 = .ok (.ishr, 1) := by decide +kernel
theorem d_X12_besides_16 : decode prog_14_method_23_code 16 = .ok (.iconst 1, 1) := by decide +kernel
theorem d_X12_besides_17 : decode prog_14_method_23_code 17 = .ok (.iand, 1) := by decide +kernel
theorem d_X12_besides_18 : decode prog_14_method_23_code 18 = .ok (.goto 4, 3) := by decide +kernel
theorem d_X12_besides_21 : decode prog_14_method_23_code 21 = .ok (.iconst 0, 1) := by decide +kernel
theorem d_X12_besides_22 : decode prog_14_method_23_code 22 = .ok (.istore_n 3, 1) := by decide +kernel
theorem d_X12_besides_23 : decode prog_14_method_23_code 23 = .ok (.iload_n 3, 1) := by decide +kernel
theorem d_X12_besides_24 : decode prog_14_method_23_code 24 = .ok (.iload_n 2, 1) := by decide +kernel
theorem d_X12_besides_25 : decode prog_14_method_23_code 25 = .ok (.bipush 11, 2) := by decide +kernel
theorem d_X12_besides_27 : decode prog_14_method_23_code 27 = .ok (.if_icmp .ge 20, 3) := by decide +kernel
theorem d_X12_besides_30 : decode prog_14_method_23_code 30 = .ok (.aload_n 0, 1) := by decide +kernel
theorem d_X12_besides_31 : decode prog_14_method_23_code 31 = .ok (.getfield 9, 3) := by decide +kernel
theorem d_X12_besides_34 : decode prog_14_method_23_code 34 = .ok (.iconst 3, 1) := by decide +kernel
theorem d_X12_besides_35 : decode prog_14_method_23_code 35 = .ok (.iload_n 1, 1) := by decide +kernel
theorem d_X12_besides_36 : decode prog_14_method_23_code 36 = .ok (.iadd, 1) := by decide +kernel
theorem d_X12_besides_37 : decode prog_14_method_23_code 37 = .ok (.iaload, 1) := by decide +kernel
theorem d_X12_besides_38 : decode prog_14_method_23_code 38 = .ok (.iload_n 2, 1) := by decide +kernel
theorem d_X12_besides_39 : decode prog_14_method_23_code 39 = .ok (.iconst 1, 1) := by decide +kernel
theorem d_X12_besides_40 : decode prog_14_method_23_code 40 = .ok (.iadd, 1) := by decide +kernel
theorem d_X12_besides_41 : decode prog_14_method_23_code 41 = .ok (.ishr, 1) := by decide +kernel
theorem d_X12_besides_42 : decode prog_14_method_23_code 42 = .ok (.iconst 1, 1) := by decide +kernel
theorem d_X12_besides_43 : decode prog_14_method_23_code 43 = .ok (.iand, 1) := by decide +kernel
theorem d_X12_besides_44 : decode prog_14_method_23_code 44 = .ok (.goto 4, 3) := by decide +kernel
theorem d_X12_besides_47 : decode prog_14_method_23_code 47 = .ok (.iconst 0, 1) := by decide +kernel
theorem d_X12_besides_48 : decode prog_14_method_23_code 48 = .ok (.iadd, 1) := by decide +kernel
theorem d_X12_besides_49 : decode prog_14_method_23_code 49 = .ok (.ireturn, 1) := by decide +kernel
def m_X12_besides (kap lam : Nat → Nat) (r0 : Nat) (a1 : Int32) (a2 : Int32) (S : fm_M) : Option Int32 :=
  if a2 ≤ 0 then (
   fm_let (0 : Int32) fun x22 =>
   if 11 ≤ a2 then (
    some (x22 + 0)
   ) else (
    fm_gr kap 12 r0 1 S fun q31 =>
    fm_ld kap lam 13 q31 (3 + a1) S fun x37 =>
    some (x22 + ((x37 >>> ((a2 + 1) &&& 31)) &&& 1))
   )
  ) else (
   fm_gr kap 12 r0 1 S fun q5 =>
   fm_ld kap lam 13 q5 (3 + a1) S fun x11 =>
   fm_let ((x11 >>> ((a2 - 1) &&& 31)) &&& 1 : Int32) fun x22 =>
   if 11 ≤ a2 then (
    some (x22 + 0)
   ) else (
    fm_gr kap 12 r0 1 S fun q31 =>
    fm_ld kap lam 13 q31 (3 + a1) S fun x37 =>
    some (x22 + ((x37 >>> ((a2 + 1) &&& 31)) &&& 1))
   )
  )
set_option maxHeartbeats 4000000 in
set_option maxRecDepth 100000 in
theorem c_X12_besides {l : Launch} {D : va_G} {ids kap lam : Nat → Nat} {RL : List Nat} {ad sk sv : Nat → Nat} {S : fm_M} {r0 : Nat} {a1 : Int32} {a2 : Int32} {r : Int32} (hE : fm_E kap RL ad) (hf : m_X12_besides kap lam r0 a1 a2 S = some r) (sz : Nat) : fm_MI l y_X12_besides prog_14_method_23_code 4 (Option.some Jvm.ClassFile.FieldType.int) 0 D ids kap lam RL ad sk sv S [.ref (ad r0), .int a1, .int a2] sz r S := by
  refine fm_open rfl hE (Nat.le_of_ble_eq_true rfl) (fun p e s m args below meth c ls Z hr hlk G F N hl hsz => ?_)
  subst hsz
  obtain ⟨hx, hb, hml, hown, hts⟩ := id Z
  have hl : lv_has ls 4 [(0, .ref (ad r0)), (1, .int a1), (2, .int a2)] := hl
  unfold m_X12_besides at hf
  refine lv_iload_n hx hb d_X12_besides_0 rfl (lv_at hl 2 rfl) ?_
  refine lv_if_le (tgt := 21) hx hb d_X12_besides_1 (by decide) (fun c1 => ?_) (fun c1 => ?_)
  · have hf := fm_ip c1 hf
    refine lv_iconst (v := 0) hx hb d_X12_besides_21 (by decide) ?_
    refine lv_topi (fun x22 ex22 => ?_)
    have hf := fm_let_at ex22 hf
    refine lv_istore_n (lv' := [(3, .int x22), (0, .ref (ad r0)), (1, .int a1), (2, .int a2)]) hx hb d_X12_besides_22 rfl hl (by decide) rfl (fun ls hl => ?_)
    refine lv_iload_n hx hb d_X12_besides_23 rfl (lv_at hl 0 rfl) ?_
    refine lv_iload_n hx hb d_X12_besides_24 rfl (lv_at hl 3 rfl) ?_
    refine lv_bipush (v := 11) hx hb d_X12_besides_25 (by decide) ?_
    refine lv_icmp_ge (tgt := 47) hx hb d_X12_besides_27 (by decide) (fun c27 => ?_) (fun c27 => ?_)
    · have hf := fm_ip c27 hf
      refine lv_iconst (v := 0) hx hb d_X12_besides_47 (by decide) ?_
      refine lv_iadd hx hb d_X12_besides_48 ?_
      exact fm_reti Z hr hlk F d_X12_besides_49 (Option.some.inj hf) rfl
    · have hf := fm_ig c27 hf
      refine lv_aload_n hx hb d_X12_besides_30 rfl (lv_at hl 1 rfl) ?_
      refine fm_rgr Z G F hf fr_X12_9 d_X12_besides_31 (fun q31 _ hf => ?_)
      refine lv_iconst (v := 3) hx hb d_X12_besides_34 (by decide) ?_
      refine lv_iload_n hx hb d_X12_besides_35 rfl (lv_at hl 2 rfl) ?_
      refine lv_iadd hx hb d_X12_besides_36 ?_
      refine fm_rld Z G F hf d_X12_besides_37 (fun x37 _ hf => ?_)
      refine lv_iload_n hx hb d_X12_besides_38 rfl (lv_at hl 3 rfl) ?_
      refine lv_iconst (v := 1) hx hb d_X12_besides_39 (by decide) ?_
      refine lv_iadd hx hb d_X12_besides_40 ?_
      refine lv_ishr hx hb d_X12_besides_41 ?_
      refine lv_iconst (v := 1) hx hb d_X12_besides_42 (by decide) ?_
      refine lv_iand hx hb d_X12_besides_43 ?_
      refine lv_goto (tgt := 48) hx hb d_X12_besides_44 (by decide) ?_
      refine lv_iadd hx hb d_X12_besides_48 ?_
      exact fm_reti Z hr hlk F d_X12_besides_49 (Option.some.inj hf) rfl
  · have hf := fm_ig c1 hf
    refine lv_aload_n hx hb d_X12_besides_4 rfl (lv_at hl 0 rfl) ?_
    refine fm_rgr Z G F hf fr_X12_9 d_X12_besides_5 (fun q5 _ hf => ?_)
    refine lv_iconst (v := 3) hx hb d_X12_besides_8 (by decide) ?_
    refine lv_iload_n hx hb d_X12_besides_9 rfl (lv_at hl 1 rfl) ?_
    refine lv_iadd hx hb d_X12_besides_10 ?_
    refine fm_rld Z G F hf d_X12_besides_11 (fun x11 _ hf => ?_)
    refine lv_iload_n hx hb d_X12_besides_12 rfl (lv_at hl 2 rfl) ?_
    refine lv_iconst (v := 1) hx hb d_X12_besides_13 (by decide) ?_
    refine lv_isub hx hb d_X12_besides_14 ?_
    refine lv_ishr hx hb d_X12_besides_15 ?_
    refine lv_iconst (v := 1) hx hb d_X12_besides_16 (by decide) ?_
    refine lv_iand hx hb d_X12_besides_17 ?_
    refine lv_goto (tgt := 22) hx hb d_X12_besides_18 (by decide) ?_
    refine lv_topi (fun x22 ex22 => ?_)
    have hf := fm_let_at ex22 hf
    refine lv_istore_n (lv' := [(3, .int x22), (0, .ref (ad r0)), (1, .int a1), (2, .int a2)]) hx hb d_X12_besides_22 rfl hl (by decide) rfl (fun ls hl => ?_)
    refine lv_iload_n hx hb d_X12_besides_23 rfl (lv_at hl 0 rfl) ?_
    refine lv_iload_n hx hb d_X12_besides_24 rfl (lv_at hl 3 rfl) ?_
    refine lv_bipush (v := 11) hx hb d_X12_besides_25 (by decide) ?_
    refine lv_icmp_ge (tgt := 47) hx hb d_X12_besides_27 (by decide) (fun c27 => ?_) (fun c27 => ?_)
    · have hf := fm_ip c27 hf
      refine lv_iconst (v := 0) hx hb d_X12_besides_47 (by decide) ?_
      refine lv_iadd hx hb d_X12_besides_48 ?_
      exact fm_reti Z hr hlk F d_X12_besides_49 (Option.some.inj hf) rfl
    · have hf := fm_ig c27 hf
      refine lv_aload_n hx hb d_X12_besides_30 rfl (lv_at hl 1 rfl) ?_
      refine fm_rgr Z G F hf fr_X12_9 d_X12_besides_31 (fun q31 _ hf => ?_)
      refine lv_iconst (v := 3) hx hb d_X12_besides_34 (by decide) ?_
      refine lv_iload_n hx hb d_X12_besides_35 rfl (lv_at hl 2 rfl) ?_
      refine lv_iadd hx hb d_X12_besides_36 ?_
      refine fm_rld Z G F hf d_X12_besides_37 (fun x37 _ hf => ?_)
      refine lv_iload_n hx hb d_X12_besides_38 rfl (lv_at hl 3 rfl) ?_
      refine lv_iconst (v := 1) hx hb d_X12_besides_39 (by decide) ?_
      refine lv_iadd hx hb d_X12_besides_40 ?_
      refine lv_ishr hx hb d_X12_besides_41 ?_
      refine lv_iconst (v := 1) hx hb d_X12_besides_42 (by decide) ?_
      refine lv_iand hx hb d_X12_besides_43 ?_
      refine lv_goto (tgt := 48) hx hb d_X12_besides_44 (by decide) ?_
      refine lv_iadd hx hb d_X12_besides_48 ?_
      exact fm_reti Z hr hlk F d_X12_besides_49 (Option.some.inj hf) rfl
theorem d_X12_biteOf_0 : decode prog_14_method_24_code 0 = .ok (.aload_n 0, 1) := by decide +kernel
theorem d_X12_biteOf_1 : decode prog_14_method_24_code 1 = .ok (.getfield 21, 3) := by decide +kernel
theorem d_X12_biteOf_4 : decode prog_14_method_24_code 4 = .ok (.iconst 0, 1) := by decide +kernel
theorem d_X12_biteOf_5 : decode prog_14_method_24_code 5 = .ok (.iload_n 1, 1) := by decide +kernel
theorem d_X12_biteOf_6 : decode prog_14_method_24_code 6 = .ok (.iastore, 1) := by decide +kernel
theorem d_X12_biteOf_7 : decode prog_14_method_24_code 7 = .ok (.aload_n 0, 1) := by decide +kernel
theorem d_X12_biteOf_8 : decode prog_14_method_24_code 8 = .ok (.getfield 21, 3) := by decide +kernel
theorem d_X12_biteOf_11 : decode prog_14_method_24_code 11 = .ok (.iconst 1, 1) := by decide +kernel
theorem d_X12_biteOf_12 : decode prog_14_method_24_code 12 = .ok (.aload_n 0, 1) := by decide +kernel
theorem d_X12_biteOf_13 : decode prog_14_method_24_code 13 = .ok (.getfield 9, 3) := by decide +kernel
theorem d_X12_biteOf_16 : decode prog_14_method_24_code 16 = .ok (.bipush 28, 2) := by decide +kernel
theorem d_X12_biteOf_18 : decode prog_14_method_24_code 18 = .ok (.iload_n 1, 1) := by decide +kernel
theorem d_X12_biteOf_19 : decode prog_14_method_24_code 19 = .ok (.iadd, 1) := by decide +kernel
theorem d_X12_biteOf_20 : decode prog_14_method_24_code 20 = .ok (.iaload, 1) := by decide +kernel
theorem d_X12_biteOf_21 : decode prog_14_method_24_code 21 = .ok (.iastore, 1) := by decide +kernel
theorem d_X12_biteOf_22 : decode prog_14_method_24_code 22 = .ok (.aload_n 0, 1) := by decide +kernel
theorem d_X12_biteOf_23 : decode prog_14_method_24_code 23 = .ok (.getfield 21, 3) := by decide +kernel
theorem d_X12_biteOf_26 : decode prog_14_method_24_code 26 = .ok (.iconst 2, 1) := by decide +kernel
theorem d_X12_biteOf_27 : decode prog_14_method_24_code 27 = .ok (.iload_n 2, 1) := by decide +kernel
theorem d_X12_biteOf_28 : decode prog_14_method_24_code 28 = .ok (.iastore, 1) := by decide +kernel
theorem d_X12_biteOf_29 : decode prog_14_method_24_code 29 = .ok (.aload_n 0, 1) := by decide +kernel
theorem d_X12_biteOf_30 : decode prog_14_method_24_code 30 = .ok (.getfield 21, 3) := by decide +kernel
theorem d_X12_biteOf_33 : decode prog_14_method_24_code 33 = .ok (.iconst 3, 1) := by decide +kernel
theorem d_X12_biteOf_34 : decode prog_14_method_24_code 34 = .ok (.aload_n 0, 1) := by decide +kernel
theorem d_X12_biteOf_35 : decode prog_14_method_24_code 35 = .ok (.iload_n 1, 1) := by decide +kernel
theorem d_X12_biteOf_36 : decode prog_14_method_24_code 36 = .ok (.iload_n 2, 1) := by decide +kernel
theorem d_X12_biteOf_37 : decode prog_14_method_24_code 37 = .ok (.invokevirtual 126, 3) := by decide +kernel
theorem d_X12_biteOf_40 : decode prog_14_method_24_code 40 = .ok (.iastore, 1) := by decide +kernel
theorem d_X12_biteOf_41 : decode prog_14_method_24_code 41 = .ok (.aload_n 0, 1) := by decide +kernel
theorem d_X12_biteOf_42 : decode prog_14_method_24_code 42 = .ok (.getfield 21, 3) := by decide +kernel
theorem d_X12_biteOf_45 : decode prog_14_method_24_code 45 = .ok (.iconst 4, 1) := by decide +kernel
theorem d_X12_biteOf_46 : decode prog_14_method_24_code 46 = .ok (.aload_n 0, 1) := by decide +kernel
theorem d_X12_biteOf_47 : decode prog_14_method_24_code 47 = .ok (.getfield 9, 3) := by decide +kernel
theorem d_X12_biteOf_50 : decode prog_14_method_24_code 50 = .ok (.bipush 15, 2) := by decide +kernel
theorem d_X12_biteOf_52 : decode prog_14_method_24_code 52 = .ok (.iload_n 1, 1) := by decide +kernel
theorem d_X12_biteOf_53 : decode prog_14_method_24_code 53 = .ok (.iadd, 1) := by decide +kernel
theorem d_X12_biteOf_54 : decode prog_14_method_24_code 54 = .ok (.iaload, 1) := by decide +kernel
theorem d_X12_biteOf_55 : decode prog_14_method_24_code 55 = .ok (.iastore, 1) := by decide +kernel
theorem d_X12_biteOf_56 : decode prog_14_method_24_code 56 = .ok (.aload_n 0, 1) := by decide +kernel
theorem d_X12_biteOf_57 : decode prog_14_method_24_code 57 = .ok (.getfield 21, 3) := by decide +kernel
theorem d_X12_biteOf_60 : decode prog_14_method_24_code 60 = .ok (.iconst 5, 1) := by decide +kernel
theorem d_X12_biteOf_61 : decode prog_14_method_24_code 61 = .ok (.aload_n 0, 1) := by decide +kernel
theorem d_X12_biteOf_62 : decode prog_14_method_24_code 62 = .ok (.getfield 9, 3) := by decide +kernel
theorem d_X12_biteOf_65 : decode prog_14_method_24_code 65 = .ok (.iconst 0, 1) := by decide +kernel
theorem d_X12_biteOf_66 : decode prog_14_method_24_code 66 = .ok (.iaload, 1) := by decide +kernel
theorem d_X12_biteOf_67 : decode prog_14_method_24_code 67 = .ok (.bipush 10, 2) := by decide +kernel
theorem d_X12_biteOf_69 : decode prog_14_method_24_code 69 = .ok (.irem, 1) := by decide +kernel
theorem d_X12_biteOf_70 : decode prog_14_method_24_code 70 = .ok (.iastore, 1) := by decide +kernel
theorem d_X12_biteOf_71 : decode prog_14_method_24_code 71 = .ok (.aload_n 0, 1) := by decide +kernel
theorem d_X12_biteOf_72 : decode prog_14_method_24_code 72 = .ok (.getfield 9, 3) := by decide +kernel
theorem d_X12_biteOf_75 : decode prog_14_method_24_code 75 = .ok (.iconst 1, 1) := by decide +kernel
theorem d_X12_biteOf_76 : decode prog_14_method_24_code 76 = .ok (.iaload, 1) := by decide +kernel
theorem d_X12_biteOf_77 : decode prog_14_method_24_code 77 = .ok (.aload_n 0, 1) := by decide +kernel
theorem d_X12_biteOf_78 : decode prog_14_method_24_code 78 = .ok (.getfield 9, 3) := by decide +kernel
theorem d_X12_biteOf_81 : decode prog_14_method_24_code 81 = .ok (.bipush 15, 2) := by decide +kernel
theorem d_X12_biteOf_83 : decode prog_14_method_24_code 83 = .ok (.iload_n 1, 1) := by decide +kernel
theorem d_X12_biteOf_84 : decode prog_14_method_24_code 84 = .ok (.iadd, 1) := by decide +kernel
theorem d_X12_biteOf_85 : decode prog_14_method_24_code 85 = .ok (.iaload, 1) := by decide +kernel
theorem d_X12_biteOf_86 : decode prog_14_method_24_code 86 = .ok (.isub, 1) := by decide +kernel
theorem d_X12_biteOf_87 : decode prog_14_method_24_code 87 = .ok (.istore_n 3, 1) := by decide +kernel
theorem d_X12_biteOf_88 : decode prog_14_method_24_code 88 = .ok (.aload_n 0, 1) := by decide +kernel
theorem d_X12_biteOf_89 : decode prog_14_method_24_code 89 = .ok (.sipush 221, 3) := by decide +kernel
theorem d_X12_biteOf_92 : decode prog_14_method_24_code 92 = .ok (.iconst 0, 1) := by decide +kernel
theorem d_X12_biteOf_93 : decode prog_14_method_24_code 93 = .ok (.invokevirtual 130, 3) := by decide +kernel
theorem d_X12_biteOf_96 : decode prog_14_method_24_code 96 = .ok (.istore 4, 2) := by decide +kernel
theorem d_X12_biteOf_98 : decode prog_14_method_24_code 98 = .ok (.sipush 226, 3) := by decide +kernel
theorem d_X12_biteOf_101 : decode prog_14_method_24_code 101 = .ok (.sipush 140, 3) := by decide +kernel
theorem d_X12_biteOf_104 : decode prog_14_method_24_code 104 = .ok (.aload_n 0, 1) := by decide +kernel
theorem d_X12_biteOf_105 : decode prog_14_method_24_code 105 = .ok (.getfield 9, 3) := by decide +kernel
theorem d_X12_biteOf_108 : decode prog_14_method_24_code 108 = .ok (.bipush 27, 2) := by decide +kernel
theorem d_X12_biteOf_110 : decode prog_14_method_24_code 110 = .ok (.iaload, 1) := by decide +kernel
theorem d_X12_biteOf_111 : decode prog_14_method_24_code 111 = .ok (.imul, 1) := by decide +kernel
theorem d_X12_biteOf_112 : decode prog_14_method_24_code 112 = .ok (.iadd, 1) := by decide +kernel
theorem d_X12_biteOf_113 : decode prog_14_method_24_code 113 = .ok (.istore 5, 2) := by decide +kernel
theorem d_X12_biteOf_115 : decode prog_14_method_24_code 115 = .ok (.iconst 0, 1) := by decide +kernel
theorem d_X12_biteOf_116 : decode prog_14_method_24_code 116 = .ok (.istore 6, 2) := by decide +kernel
theorem d_X12_biteOf_118 : decode prog_14_method_24_code 118 = .ok (.iload 5, 2) := by decide +kernel
theorem d_X12_biteOf_120 : decode prog_14_method_24_code 120 = .ok (.istore 7, 2) := by decide +kernel
theorem d_X12_biteOf_122 : decode prog_14_method_24_code 122 = .ok (.iload 7, 2) := by decide +kernel
theorem d_X12_biteOf_124 : decode prog_14_method_24_code 124 = .ok (.iload 5, 2) := by decide +kernel
theorem d_X12_biteOf_126 : decode prog_14_method_24_code 126 = .ok (.iload 4, 2) := by decide +kernel
theorem d_X12_biteOf_128 : decode prog_14_method_24_code 128 = .ok (.iadd, 1) := by decide +kernel
theorem d_X12_biteOf_129 : decode prog_14_method_24_code 129 = .ok (.if_icmp .ge 300, 3) := by decide +kernel
theorem d_X12_biteOf_132 : decode prog_14_method_24_code 132 = .ok (.aload_n 0, 1) := by decide +kernel
theorem d_X12_biteOf_133 : decode prog_14_method_24_code 133 = .ok (.getfield 9, 3) := by decide +kernel
theorem d_X12_biteOf_136 : decode prog_14_method_24_code 136 = .ok (.iload 7, 2) := by decide +kernel
theorem d_X12_biteOf_138 : decode prog_14_method_24_code 138 = .ok (.iaload, 1) := by decide +kernel
theorem d_X12_biteOf_139 : decode prog_14_method_24_code 139 = .ok (.istore 8, 2) := by decide +kernel
theorem d_X12_biteOf_141 : decode prog_14_method_24_code 141 = .ok (.iload 8, 2) := by decide +kernel
theorem d_X12_biteOf_143 : decode prog_14_method_24_code 143 = .ok (.ifCond .lt 97, 3) := by decide +kernel
theorem d_X12_biteOf_146 : decode prog_14_method_24_code 146 = .ok (.aload_n 0, 1) := by decide +kernel
theorem d_X12_biteOf_147 : decode prog_14_method_24_code 147 = .ok (.getfield 21, 3) := by decide +kernel
theorem d_X12_biteOf_150 : decode prog_14_method_24_code 150 = .ok (.iload 8, 2) := by decide +kernel
theorem d_X12_biteOf_152 : decode prog_14_method_24_code 152 = .ok (.bipush 8, 2) := by decide +kernel
theorem d_X12_biteOf_154 : decode prog_14_method_24_code 154 = .ok (.irem, 1) := by decide +kernel
theorem d_X12_biteOf_155 : decode prog_14_method_24_code 155 = .ok (.iaload, 1) := by decide +kernel
theorem d_X12_biteOf_156 : decode prog_14_method_24_code 156 = .ok (.istore 9, 2) := by decide +kernel
theorem d_X12_biteOf_158 : decode prog_14_method_24_code 158 = .ok (.iload 8, 2) := by decide +kernel
theorem d_X12_biteOf_160 : decode prog_14_method_24_code 160 = .ok (.bipush 8, 2) := by decide +kernel
theorem d_X12_biteOf_162 : decode prog_14_method_24_code 162 = .ok (.idiv, 1) := by decide +kernel
theorem d_X12_biteOf_163 : decode prog_14_method_24_code 163 = .ok (.iconst 4, 1) := by decide +kernel
theorem d_X12_biteOf_164 : decode prog_14_method_24_code 164 = .ok (.irem, 1) := by decide +kernel
theorem d_X12_biteOf_165 : decode prog_14_method_24_code 165 = .ok (.istore 10, 2) := by decide +kernel
theorem d_X12_biteOf_167 : decode prog_14_method_24_code 167 = .ok (.iload 8, 2) := by decide +kernel
theorem d_X12_biteOf_169 : decode prog_14_method_24_code 169 = .ok (.bipush 32, 2) := by decide +kernel
theorem d_X12_biteOf_171 : decode prog_14_method_24_code 171 = .ok (.idiv, 1) := by decide +kernel
theorem d_X12_biteOf_172 : decode prog_14_method_24_code 172 = .ok (.istore 11, 2) := by decide +kernel
theorem d_X12_biteOf_174 : decode prog_14_method_24_code 174 = .ok (.aload_n 0, 1) := by decide +kernel
theorem d_X12_biteOf_175 : decode prog_14_method_24_code 175 = .ok (.getfield 24, 3) := by decide +kernel
theorem d_X12_biteOf_178 : decode prog_14_method_24_code 178 = .ok (.iload 6, 2) := by decide +kernel
theorem d_X12_biteOf_180 : decode prog_14_method_24_code 180 = .ok (.iload 10, 2) := by decide +kernel
theorem d_X12_biteOf_182 : decode prog_14_method_24_code 182 = .ok (.ifCond .ne 18, 3) := by decide +kernel
theorem d_X12_biteOf_185 : decode prog_14_method_24_code 185 = .ok (.iload 9, 2) := by decide +kernel
theorem d_X12_biteOf_187 : decode prog_14_method_24_code 187 = .ok (.iload 11, 2) := by decide +kernel
theorem d_X12_biteOf_189 : decode prog_14_method_24_code 189 = .ok (.if_icmp .ge 7, 3) := by decide +kernel
theorem d_X12_biteOf_192 : decode prog_14_method_24_code 192 = .ok (.iconst 1, 1) := by decide +kernel
theorem d_X12_biteOf_193 : decode prog_14_method_24_code 193 = .ok (.goto 40, 3) := by decide +kernel
theorem d_X12_biteOf_196 : decode prog_14_method_24_code 196 = .ok (.iconst 0, 1) := by decide +kernel
theorem d_X12_biteOf_197 : decode prog_14_method_24_code 197 = .ok (.goto 36, 3) := by decide +kernel
theorem d_X12_biteOf_200 : decode prog_14_method_24_code 200 = .ok (.iload 10, 2) := by decide +kernel
theorem d_X12_biteOf_202 : decode prog_14_method_24_code 202 = .ok (.iconst 1, 1) := by decide +kernel
theorem d_X12_biteOf_203 : decode prog_14_method_24_code 203 = .ok (.if_icmp .ne 18, 3) := by decide +kernel
theorem d_X12_biteOf_206 : decode prog_14_method_24_code 206 = .ok (.iload 9, 2) := by decide +kernel
theorem d_X12_biteOf_208 : decode prog_14_method_24_code 208 = .ok (.iload 11, 2) := by decide +kernel
theorem d_X12_biteOf_210 : decode prog_14_method_24_code 210 = .ok (.if_icmp .ne 7, 3) := by decide +kernel
theorem d_X12_biteOf_213 : decode prog_14_method_24_code 213 = .ok (.iconst 1, 1) := by decide +kernel
theorem d_X12_biteOf_214 : decode prog_14_method_24_code 214 = .ok (.goto 19, 3) := by decide +kernel
theorem d_X12_biteOf_217 : decode prog_14_method_24_code 217 = .ok (.iconst 0, 1) := by decide +kernel
theorem d_X12_biteOf_218 : decode prog_14_method_24_code 218 = .ok (.goto 15, 3) := by decide +kernel
theorem d_X12_biteOf_221 : decode prog_14_method_24_code 221 = .ok (.iload 9, 2) := by decide +kernel
theorem d_X12_biteOf_223 : decode prog_14_method_24_code 223 = .ok (.iload 11, 2) := by decide +kernel
theorem d_X12_biteOf_225 : decode prog_14_method_24_code 225 = .ok (.if_icmp .le 7, 3) := by decide +kernel
theorem d_X12_biteOf_228 : decode prog_14_method_24_code 228 = .ok (.iconst 1, 1) := by decide +kernel
theorem d_X12_biteOf_229 : decode prog_14_method_24_code 229 = .ok (.goto 4, 3) := by decide +kernel
theorem d_X12_biteOf_232 : decode prog_14_method_24_code 232 = .ok (.iconst 0, 1) := by decide +kernel
theorem d_X12_biteOf_233 : decode prog_14_method_24_code 233 = .ok (.bastore, 1) := by decide +kernel
theorem d_X12_biteOf_234 : decode prog_14_method_24_code 234 = .ok (.iinc 6 1, 3) := by decide +kernel
theorem d_X12_biteOf_237 : decode prog_14_method_24_code 237 = .ok (.goto 186, 3) := by decide +kernel
theorem d_X12_biteOf_240 : decode prog_14_method_24_code 240 = .ok (.iload 8, 2) := by decide +kernel
theorem d_X12_biteOf_242 : decode prog_14_method_24_code 242 = .ok (.iconst (-1), 1) := by decide +kernel
theorem d_X12_biteOf_243 : decode prog_14_method_24_code 243 = .ok (.if_icmp .ne 32, 3) := by decide +kernel
theorem d_X12_biteOf_246 : decode prog_14_method_24_code 246 = .ok (.aload_n 0, 1) := by decide +kernel
theorem d_X12_biteOf_247 : decode prog_14_method_24_code 247 = .ok (.getfield 24, 3) := by decide +kernel
theorem d_X12_biteOf_250 : decode prog_14_method_24_code 250 = .ok (.iload 6, 2) := by decide +kernel
theorem d_X12_biteOf_252 : decode prog_14_method_24_code 252 = .ok (.iconst 1, 1) := by decide +kernel
theorem d_X12_biteOf_253 : decode prog_14_method_24_code 253 = .ok (.isub, 1) := by decide +kernel
theorem d_X12_biteOf_254 : decode prog_14_method_24_code 254 = .ok (.aload_n 0, 1) := by decide +kernel
theorem d_X12_biteOf_255 : decode prog_14_method_24_code 255 = .ok (.getfield 24, 3) := by decide +kernel
theorem d_X12_biteOf_258 : decode prog_14_method_24_code 258 = .ok (.iload 6, 2) := by decide +kernel
theorem d_X12_biteOf_260 : decode prog_14_method_24_code 260 = .ok (.iconst 1, 1) := by decide +kernel
theorem d_X12_biteOf_261 : decode prog_14_method_24_code 261 = .ok (.isub, 1) := by decide +kernel
theorem d_X12_biteOf_262 : decode prog_14_method_24_code 262 = .ok (.baload, 1) := by decide +kernel
theorem d_X12_biteOf_263 : decode prog_14_method_24_code 263 = .ok (.ifCond .ne 7, 3) := by decide +kernel
theorem d_X12_biteOf_266 : decode prog_14_method_24_code 266 = .ok (.iconst 1, 1) := by decide +kernel
theorem d_X12_biteOf_267 : decode prog_14_method_24_code 267 = .ok (.goto 4, 3) := by decide +kernel
theorem d_X12_biteOf_270 : decode prog_14_method_24_code 270 = .ok (.iconst 0, 1) := by decide +kernel
theorem d_X12_biteOf_271 : decode prog_14_method_24_code 271 = .ok (.bastore, 1) := by decide +kernel
theorem d_X12_biteOf_272 : decode prog_14_method_24_code 272 = .ok (.goto 151, 3) := by decide +kernel
theorem d_X12_biteOf_275 : decode prog_14_method_24_code 275 = .ok (.iload 8, 2) := by decide +kernel
theorem d_X12_biteOf_277 : decode prog_14_method_24_code 277 = .ok (.bipush (-10), 2) := by decide +kernel
theorem d_X12_biteOf_279 : decode prog_14_method_24_code 279 = .ok (.if_icmp .le 82, 3) := by decide +kernel
theorem d_X12_biteOf_282 : decode prog_14_method_24_code 282 = .ok (.iinc 6 (-1), 3) := by decide +kernel
theorem d_X12_biteOf_285 : decode prog_14_method_24_code 285 = .ok (.aload_n 0, 1) := by decide +kernel
theorem d_X12_biteOf_286 : decode prog_14_method_24_code 286 = .ok (.getfield 24, 3) := by decide +kernel
theorem d_X12_biteOf_289 : decode prog_14_method_24_code 289 = .ok (.iload 6, 2) := by decide +kernel
theorem d_X12_biteOf_291 : decode prog_14_method_24_code 291 = .ok (.iconst 1, 1) := by decide +kernel
theorem d_X12_biteOf_292 : decode prog_14_method_24_code 292 = .ok (.isub, 1) := by decide +kernel
theorem d_X12_biteOf_293 : decode prog_14_method_24_code 293 = .ok (.iload 8, 2) := by decide +kernel
theorem d_X12_biteOf_295 : decode prog_14_method_24_code 295 = .ok (.bipush (-2), 2) := by decide +kernel
theorem d_X12_biteOf_297 : decode prog_14_method_24_code 297 = .ok (.if_icmp .ne 33, 3) := by decide +kernel
theorem d_X12_biteOf_300 : decode prog_14_method_24_code 300 = .ok (.aload_n 0, 1) := by decide +kernel
theorem d_X12_biteOf_301 : decode prog_14_method_24_code 301 = .ok (.getfield 24, 3) := by decide +kernel
theorem d_X12_biteOf_304 : decode prog_14_method_24_code 304 = .ok (.iload 6, 2) := by decide +kernel
theorem d_X12_biteOf_306 : decode prog_14_method_24_code 306 = .ok (.iconst 1, 1) := by decide +kernel
theorem d_X12_biteOf_307 : decode prog_14_method_24_code 307 = .ok (.isub, 1) := by decide +kernel
theorem d_X12_biteOf_308 : decode prog_14_method_24_code 308 = .ok (.baload, 1) := by decide +kernel
theorem d_X12_biteOf_309 : decode prog_14_method_24_code 309 = .ok (.ifCond .eq 17, 3) := by decide +kernel
theorem d_X12_biteOf_312 : decode prog_14_method_24_code 312 = .ok (.aload_n 0, 1) := by decide +kernel
theorem d_X12_biteOf_313 : decode prog_14_method_24_code 313 = .ok (.getfield 24, 3) := by decide +kernel
theorem d_X12_biteOf_316 : decode prog_14_method_24_code 316 = .ok (.iload 6, 2) := by decide +kernel
theorem d_X12_biteOf_318 : decode prog_14_method_24_code 318 = .ok (.baload, 1) := by decide +kernel
theorem d_X12_biteOf_319 : decode prog_14_method_24_code 319 = .ok (.ifCond .eq 7, 3) := by decide +kernel
theorem d_X12_biteOf_322 : decode prog_14_method_24_code 322 = .ok (.iconst 1, 1) := by decide +kernel
theorem d_X12_biteOf_323 : decode prog_14_method_24_code 323 = .ok (.goto 34, 3) := by decide +kernel
theorem d_X12_biteOf_326 : decode prog_14_method_24_code 326 = .ok (.iconst 0, 1) := by decide +kernel
theorem d_X12_biteOf_327 : decode prog_14_method_24_code 327 = .ok (.goto 30, 3) := by decide +kernel
theorem d_X12_biteOf_330 : decode prog_14_method_24_code 330 = .ok (.aload_n 0, 1) := by decide +kernel
theorem d_X12_biteOf_331 : decode prog_14_method_24_code 331 = .ok (.getfield 24, 3) := by decide +kernel
theorem d_X12_biteOf_334 : decode prog_14_method_24_code 334 = .ok (.iload 6, 2) := by decide +kernel
theorem d_X12_biteOf_336 : decode prog_14_method_24_code 336 = .ok (.iconst 1, 1) := by decide +kernel
theorem d_X12_biteOf_337 : decode prog_14_method_24_code 337 = .ok (.isub, 1) := by decide +kernel
theorem d_X12_biteOf_338 : decode prog_14_method_24_code 338 = .ok (.baload, 1) := by decide +kernel
theorem d_X12_biteOf_339 : decode prog_14_method_24_code 339 = .ok (.ifCond .ne 13, 3) := by decide +kernel
theorem d_X12_biteOf_342 : decode prog_14_method_24_code 342 = .ok (.aload_n 0, 1) := by decide +kernel
theorem d_X12_biteOf_343 : decode prog_14_method_24_code 343 = .ok (.getfield 24, 3) := by decide +kernel
theorem d_X12_biteOf_346 : decode prog_14_method_24_code 346 = .ok (.iload 6, 2) := by decide +kernel
theorem d_X12_biteOf_348 : decode prog_14_method_24_code 348 = .ok (.baload, 1) := by decide +kernel
theorem d_X12_biteOf_349 : decode prog_14_method_24_code 349 = .ok (.ifCond .eq 7, 3) := by decide +kernel
theorem d_X12_biteOf_352 : decode prog_14_method_24_code 352 = .ok (.iconst 1, 1) := by decide +kernel
theorem d_X12_biteOf_353 : decode prog_14_method_24_code 353 = .ok (.goto 4, 3) := by decide +kernel
theorem d_X12_biteOf_356 : decode prog_14_method_24_code 356 = .ok (.iconst 0, 1) := by decide +kernel
theorem d_X12_biteOf_357 : decode prog_14_method_24_code 357 = .ok (.bastore, 1) := by decide +kernel
theorem d_X12_biteOf_358 : decode prog_14_method_24_code 358 = .ok (.goto 65, 3) := by decide +kernel
theorem d_X12_biteOf_361 : decode prog_14_method_24_code 361 = .ok (.iconst 0, 1) := by decide +kernel
theorem d_X12_biteOf_362 : decode prog_14_method_24_code 362 = .ok (.istore 6, 2) := by decide +kernel
theorem d_X12_biteOf_364 : decode prog_14_method_24_code 364 = .ok (.aload_n 0, 1) := by decide +kernel
theorem d_X12_biteOf_365 : decode prog_14_method_24_code 365 = .ok (.getfield 24, 3) := by decide +kernel
theorem d_X12_biteOf_368 : decode prog_14_method_24_code 368 = .ok (.iconst 0, 1) := by decide +kernel
theorem d_X12_biteOf_369 : decode prog_14_method_24_code 369 = .ok (.baload, 1) := by decide +kernel
theorem d_X12_biteOf_370 : decode prog_14_method_24_code 370 = .ok (.istore 9, 2) := by decide +kernel
theorem d_X12_biteOf_372 : decode prog_14_method_24_code 372 = .ok (.iload_n 3, 1) := by decide +kernel
theorem d_X12_biteOf_373 : decode prog_14_method_24_code 373 = .ok (.iload 9, 2) := by decide +kernel
theorem d_X12_biteOf_375 : decode prog_14_method_24_code 375 = .ok (.ifCond .eq 19, 3) := by decide +kernel
theorem d_X12_biteOf_378 : decode prog_14_method_24_code 378 = .ok (.iload 8, 2) := by decide +kernel
theorem d_X12_biteOf_380 : decode prog_14_method_24_code 380 = .ok (.sipush (-200), 3) := by decide +kernel
theorem d_X12_biteOf_383 : decode prog_14_method_24_code 383 = .ok (.if_icmp .le 11, 3) := by decide +kernel
theorem d_X12_biteOf_386 : decode prog_14_method_24_code 386 = .ok (.bipush (-10), 2) := by decide +kernel
theorem d_X12_biteOf_388 : decode prog_14_method_24_code 388 = .ok (.iload 8, 2) := by decide +kernel
theorem d_X12_biteOf_390 : decode prog_14_method_24_code 390 = .ok (.isub, 1) := by decide +kernel
theorem d_X12_biteOf_391 : decode prog_14_method_24_code 391 = .ok (.goto 4, 3) := by decide +kernel
theorem d_X12_biteOf_394 : decode prog_14_method_24_code 394 = .ok (.iconst 0, 1) := by decide +kernel
theorem d_X12_biteOf_395 : decode prog_14_method_24_code 395 = .ok (.iadd, 1) := by decide +kernel
theorem d_X12_biteOf_396 : decode prog_14_method_24_code 396 = .ok (.istore_n 3, 1) := by decide +kernel
theorem d_X12_biteOf_397 : decode prog_14_method_24_code 397 = .ok (.iload_n 3, 1) := by decide +kernel
theorem d_X12_biteOf_398 : decode prog_14_method_24_code 398 = .ok (.iload 9, 2) := by decide +kernel
theorem d_X12_biteOf_400 : decode prog_14_method_24_code 400 = .ok (.ifCond .eq 20, 3) := by decide +kernel
theorem d_X12_biteOf_403 : decode prog_14_method_24_code 403 = .ok (.iload 8, 2) := by decide +kernel
theorem d_X12_biteOf_405 : decode prog_14_method_24_code 405 = .ok (.sipush (-200), 3) := by decide +kernel
theorem d_X12_biteOf_408 : decode prog_14_method_24_code 408 = .ok (.if_icmp .gt 12, 3) := by decide +kernel
theorem d_X12_biteOf_411 : decode prog_14_method_24_code 411 = .ok (.sipush (-200), 3) := by decide +kernel
theorem d_X12_biteOf_414 : decode prog_14_method_24_code 414 = .ok (.iload 8, 2) := by decide +kernel
theorem d_X12_biteOf_416 : decode prog_14_method_24_code 416 = .ok (.isub, 1) := by decide +kernel
theorem d_X12_biteOf_417 : decode prog_14_method_24_code 417 = .ok (.goto 4, 3) := by decide +kernel
theorem d_X12_biteOf_420 : decode prog_14_method_24_code 420 = .ok (.iconst 0, 1) := by decide +kernel
theorem d_X12_biteOf_421 : decode prog_14_method_24_code 421 = .ok (.isub, 1) := by decide +kernel
theorem d_X12_biteOf_422 : decode prog_14_method_24_code 422 = .ok (.istore_n 3, 1) := by decide +kernel
theorem d_X12_biteOf_423 : decode prog_14_method_24_code 423 = .ok (.iinc 7 1, 3) := by decide +kernel
theorem d_X12_biteOf_426 : decode prog_14_method_24_code 426 = .ok (.goto (-304), 3) := by decide +kernel
theorem d_X12_biteOf_429 : decode prog_14_method_24_code 429 = .ok (.iload_n 3, 1) := by decide +kernel
theorem d_X12_biteOf_430 : decode prog_14_method_24_code 430 = .ok (.ireturn, 1) := by decide +kernel
def k_X12_biteOf_122 (kap lam : Nat → Nat) (go122 : Nat → Int32 → Int32 → Int32 → Int32 → Int32 → fm_M → Option (Int32 × fm_M)) (r0 : Nat) (a3 : Int32) (a4 : Int32) (a5 : Int32) (a6 : Int32) (a7 : Int32)  (S : fm_M) : Option (Int32 × fm_M) :=
  if (a5 + a4) ≤ a7 then (
   some (a3, S)
  ) else (
   fm_gr kap 12 r0 1 S fun q133 =>
   fm_ld kap lam 13 q133 a7 S fun x138 =>
   if x138 < 0 then (
    if x138 = (-1) then (
     fm_gr kap 12 r0 11 S fun q247 =>
     fm_gr kap 12 r0 11 S fun q255 =>
     fm_ld kap lam 14 q255 (a6 - 1) S fun x262 =>
     if x262 = 0 then (
      fm_sz kap lam q247 (a6 - 1) 1 S fun S271 =>
      fm_let (a7 + 1 : Int32) fun x423 =>
      go122 r0 a3 a4 a5 a6 x423 S271
     ) else (
      fm_sz kap lam q247 (a6 - 1) 0 S fun S271 =>
      fm_let (a7 + 1 : Int32) fun x423 =>
      go122 r0 a3 a4 a5 a6 x423 S271
     )
    ) else (
     if x138 ≤ (-10) then (
      fm_let (0 : Int32) fun x362 =>
      fm_gr kap 12 r0 11 S fun q365 =>
      fm_ld kap lam 14 q365 0 S fun x369 =>
      if x369 = 0 then (
       fm_let (a3 + 0 : Int32) fun x396 =>
       if x369 = 0 then (
        fm_let (x396 - 0 : Int32) fun x422 =>
        fm_let (a7 + 1 : Int32) fun x423 =>
        go122 r0 x422 a4 a5 x362 x423 S
       ) else (
        if (-200) < x138 then (
         fm_let (x396 - 0 : Int32) fun x422 =>
         fm_let (a7 + 1 : Int32) fun x423 =>
         go122 r0 x422 a4 a5 x362 x423 S
        ) else (
         fm_let (x396 - ((-200) - x138) : Int32) fun x422 =>
         fm_let (a7 + 1 : Int32) fun x423 =>
         go122 r0 x422 a4 a5 x362 x423 S
        )
       )
      ) else (
       if x138 ≤ (-200) then (
        fm_let (a3 + 0 : Int32) fun x396 =>
        if x369 = 0 then (
         fm_let (x396 - 0 : Int32) fun x422 =>
         fm_let (a7 + 1 : Int32) fun x423 =>
         go122 r0 x422 a4 a5 x362 x423 S
        ) else (
         if (-200) < x138 then (
          fm_let (x396 - 0 : Int32) fun x422 =>
          fm_let (a7 + 1 : Int32) fun x423 =>
          go122 r0 x422 a4 a5 x362 x423 S
         ) else (
          fm_let (x396 - ((-200) - x138) : Int32) fun x422 =>
          fm_let (a7 + 1 : Int32) fun x423 =>
          go122 r0 x422 a4 a5 x362 x423 S
         )
        )
       ) else (
        fm_let (a3 + ((-10) - x138) : Int32) fun x396 =>
        if x369 = 0 then (
         fm_let (x396 - 0 : Int32) fun x422 =>
         fm_let (a7 + 1 : Int32) fun x423 =>
         go122 r0 x422 a4 a5 x362 x423 S
        ) else (
         if (-200) < x138 then (
          fm_let (x396 - 0 : Int32) fun x422 =>
          fm_let (a7 + 1 : Int32) fun x423 =>
          go122 r0 x422 a4 a5 x362 x423 S
         ) else (
          fm_let (x396 - ((-200) - x138) : Int32) fun x422 =>
          fm_let (a7 + 1 : Int32) fun x423 =>
          go122 r0 x422 a4 a5 x362 x423 S
         )
        )
       )
      )
     ) else (
      fm_let (a6 + (-1) : Int32) fun x282 =>
      fm_gr kap 12 r0 11 S fun q286 =>
      if x138 = (-2) then (
       fm_gr kap 12 r0 11 S fun q301 =>
       fm_ld kap lam 14 q301 (x282 - 1) S fun x308 =>
       if x308 = 0 then (
        fm_sz kap lam q286 (x282 - 1) 0 S fun S357 =>
        fm_let (a7 + 1 : Int32) fun x423 =>
        go122 r0 a3 a4 a5 x282 x423 S357
       ) else (
        fm_gr kap 12 r0 11 S fun q313 =>
        fm_ld kap lam 14 q313 x282 S fun x318 =>
        if x318 = 0 then (
         fm_sz kap lam q286 (x282 - 1) 0 S fun S357 =>
         fm_let (a7 + 1 : Int32) fun x423 =>
         go122 r0 a3 a4 a5 x282 x423 S357
        ) else (
         fm_sz kap lam q286 (x282 - 1) 1 S fun S357 =>
         fm_let (a7 + 1 : Int32) fun x423 =>
         go122 r0 a3 a4 a5 x282 x423 S357
        )
       )
      ) else (
       fm_gr kap 12 r0 11 S fun q331 =>
       fm_ld kap lam 14 q331 (x282 - 1) S fun x338 =>
       if x338 = 0 then (
        fm_gr kap 12 r0 11 S fun q343 =>
        fm_ld kap lam 14 q343 x282 S fun x348 =>
        if x348 = 0 then (
         fm_sz kap lam q286 (x282 - 1) 0 S fun S357 =>
         fm_let (a7 + 1 : Int32) fun x423 =>
         go122 r0 a3 a4 a5 x282 x423 S357
        ) else (
         fm_sz kap lam q286 (x282 - 1) 1 S fun S357 =>
         fm_let (a7 + 1 : Int32) fun x423 =>
         go122 r0 a3 a4 a5 x282 x423 S357
        )
       ) else (
        fm_sz kap lam q286 (x282 - 1) 1 S fun S357 =>
        fm_let (a7 + 1 : Int32) fun x423 =>
        go122 r0 a3 a4 a5 x282 x423 S357
       )
      )
     )
    )
   ) else (
    fm_gr kap 12 r0 10 S fun q147 =>
    fm_ld kap lam 13 q147 (x138 - x138 / 8 * 8) S fun x155 =>
    fm_let ((x138 / 8) - (x138 / 8) / 4 * 4 : Int32) fun x165 =>
    fm_let (x138 / 32 : Int32) fun x172 =>
    fm_gr kap 12 r0 11 S fun q175 =>
    if x165 = 0 then (
     if x172 ≤ x155 then (
      fm_sz kap lam q175 a6 0 S fun S233 =>
      fm_let (a6 + 1 : Int32) fun x234 =>
      fm_let (a7 + 1 : Int32) fun x423 =>
      go122 r0 a3 a4 a5 x234 x423 S233
     ) else (
      fm_sz kap lam q175 a6 1 S fun S233 =>
      fm_let (a6 + 1 : Int32) fun x234 =>
      fm_let (a7 + 1 : Int32) fun x423 =>
      go122 r0 a3 a4 a5 x234 x423 S233
     )
    ) else (
     if x165 = 1 then (
      if x155 = x172 then (
       fm_sz kap lam q175 a6 1 S fun S233 =>
       fm_let (a6 + 1 : Int32) fun x234 =>
       fm_let (a7 + 1 : Int32) fun x423 =>
       go122 r0 a3 a4 a5 x234 x423 S233
      ) else (
       fm_sz kap lam q175 a6 0 S fun S233 =>
       fm_let (a6 + 1 : Int32) fun x234 =>
       fm_let (a7 + 1 : Int32) fun x423 =>
       go122 r0 a3 a4 a5 x234 x423 S233
      )
     ) else (
      if x155 ≤ x172 then (
       fm_sz kap lam q175 a6 0 S fun S233 =>
       fm_let (a6 + 1 : Int32) fun x234 =>
       fm_let (a7 + 1 : Int32) fun x423 =>
       go122 r0 a3 a4 a5 x234 x423 S233
      ) else (
       fm_sz kap lam q175 a6 1 S fun S233 =>
       fm_let (a6 + 1 : Int32) fun x234 =>
       fm_let (a7 + 1 : Int32) fun x423 =>
       go122 r0 a3 a4 a5 x234 x423 S233
      )
     )
    )
   )
  )
def b_X12_biteOf_122 (kap lam : Nat → Nat) : Nat → Nat → Int32 → Int32 → Int32 → Int32 → Int32 → fm_M → Option (Int32 × fm_M)
  | 0 => fun _ _ _ _ _ _ _ => none
  | n + 1 => k_X12_biteOf_122 kap lam (b_X12_biteOf_122 kap lam n)
def m_X12_biteOf (kap lam : Nat → Nat) (r0 : Nat) (a1 : Int32) (a2 : Int32) (S : fm_M) : Option (Int32 × fm_M) :=
  fm_gr kap 12 r0 10 S fun q1 =>
  fm_st kap lam q1 0 a1 S fun S6 =>
  fm_gr kap 12 r0 10 S6 fun q8 =>
  fm_gr kap 12 r0 1 S6 fun q13 =>
  fm_ld kap lam 13 q13 (28 + a1) S6 fun x20 =>
  fm_st kap lam q8 1 x20 S6 fun S21 =>
  fm_gr kap 12 r0 10 S21 fun q23 =>
  fm_st kap lam q23 2 a2 S21 fun S28 =>
  fm_gr kap 12 r0 10 S28 fun q30 =>
  fm_ck (kap r0 == 12) <|
  fm_b1 (m_X12_besides kap lam r0 a1 a2 S28) fun x37 =>
  fm_st kap lam q30 3 x37 S28 fun S40 =>
  fm_gr kap 12 r0 10 S40 fun q42 =>
  fm_gr kap 12 r0 1 S40 fun q47 =>
  fm_ld kap lam 13 q47 (15 + a1) S40 fun x54 =>
  fm_st kap lam q42 4 x54 S40 fun S55 =>
  fm_gr kap 12 r0 10 S55 fun q57 =>
  fm_gr kap 12 r0 1 S55 fun q62 =>
  fm_ld kap lam 13 q62 0 S55 fun x66 =>
  fm_st kap lam q57 5 (x66 - x66 / 10 * 10) S55 fun S70 =>
  fm_gr kap 12 r0 1 S70 fun q72 =>
  fm_ld kap lam 13 q72 1 S70 fun x76 =>
  fm_gr kap 12 r0 1 S70 fun q78 =>
  fm_ld kap lam 13 q78 (15 + a1) S70 fun x85 =>
  fm_let (x76 - x85 : Int32) fun x87 =>
  fm_ck (kap r0 == 12) <|
  fm_b1 (m_X12_tellsOf kap lam r0 221 0 S70) fun x93 =>
  fm_gr kap 12 r0 1 S70 fun q105 =>
  fm_ld kap lam 13 q105 27 S70 fun x110 =>
  fm_let (226 + (140 * x110) : Int32) fun x113 =>
  fm_let (0 : Int32) fun x116 =>
  b_X12_biteOf_122 kap lam fm_LF r0 x87 x93 x113 x116 x113 S70
set_option maxHeartbeats 4000000 in
set_option maxRecDepth 100000 in
theorem c_X12_biteOf {l : Launch} {D : va_G} {ids kap lam : Nat → Nat} {RL : List Nat} {ad sk sv : Nat → Nat} {S : fm_M} {r0 : Nat} {a1 : Int32} {a2 : Int32} {r : Int32} {u : fm_M} (hE : fm_E kap RL ad) (hf : m_X12_biteOf kap lam r0 a1 a2 S = some (r, u)) (sz : Nat) : fm_MI l y_X12_biteOf prog_14_method_24_code 12 (Option.some Jvm.ClassFile.FieldType.int) 1 D ids kap lam RL ad sk sv S [.ref (ad r0), .int a1, .int a2] sz r u := by
  refine fm_open rfl hE (Nat.le_of_ble_eq_true rfl) (fun p e s m args below meth c ls Z hr hlk G F N hl hsz => ?_)
  subst hsz
  obtain ⟨hx, hb, hml, hown, hts⟩ := id Z
  have hl : lv_has ls 12 [(0, .ref (ad r0)), (1, .int a1), (2, .int a2)] := hl
  generalize hQ : MQ below _ args s 0 0 (fm_A RL ad s.heap.size) = Qf
  have hL : ∀ n : Nat, (∀ (r0 : Nat) (a3 : Int32) (a4 : Int32) (a5 : Int32) (a6 : Int32) (a7 : Int32)  (S : fm_M) (H : Heap) (locs : List Loc) (ls : Array Slot), fm_F D ids kap lam RL ad S (fm_A RL ad s.heap.size) s.heap H locs → lv_has ls 12 [(0, .ref (ad r0)), (3, .int a3), (4, .int a4), (5, .int a5), (6, .int a6), (7, .int a7)] → b_X12_biteOf_122 kap lam n r0 a3 a4 a5 a6 a7 S = some (r, u) → W p l e (fm_rm 1) s m args below meth c H locs 0 0 Qf (F0 m 122 ls [])) := by
    intro n
    induction n with
    | zero => exact fun _ _ _ _ _ _ _ _ _ _ _ _ hf => absurd hf (by intro h; cases h)
    | succ n ih =>
      intro r0 a3 a4 a5 a6 a7 S H locs ls F hl hf
      have hf : k_X12_biteOf_122 kap lam (b_X12_biteOf_122 kap lam n) r0 a3 a4 a5 a6 a7 S = some (r, u) := hf
      unfold k_X12_biteOf_122 at hf
      refine lv_iload hx hb d_X12_biteOf_122 (lv_at hl 5 rfl) ?_
      refine lv_iload hx hb d_X12_biteOf_124 (lv_at hl 3 rfl) ?_
      refine lv_iload hx hb d_X12_biteOf_126 (lv_at hl 2 rfl) ?_
      refine lv_iadd hx hb d_X12_biteOf_128 ?_
      refine lv_icmp_ge (tgt := 429) hx hb d_X12_biteOf_129 (by decide) (fun c129 => ?_) (fun c129 => ?_)
      · have hf := fm_ip c129 hf
        refine lv_iload_n hx hb d_X12_biteOf_429 rfl (lv_at hl 1 rfl) ?_
        rw [← hQ]; exact fm_reti Z hr hlk F d_X12_biteOf_430 (Prod.mk.inj (Option.some.inj hf)).1 (Prod.mk.inj (Option.some.inj hf)).2
      · have hf := fm_ig c129 hf
        refine lv_aload_n hx hb d_X12_biteOf_132 rfl (lv_at hl 0 rfl) ?_
        refine fm_rgr Z G F hf fr_X12_9 d_X12_biteOf_133 (fun q133 _ hf => ?_)
        refine lv_iload hx hb d_X12_biteOf_136 (lv_at hl 5 rfl) ?_
        refine fm_rld Z G F hf d_X12_biteOf_138 (fun x138 _ hf => ?_)
        refine lv_istore (lv' := [(8, .int x138), (0, .ref (ad r0)), (3, .int a3), (4, .int a4), (5, .int a5), (6, .int a6), (7, .int a7)]) hx hb d_X12_biteOf_139 hl (by decide) rfl (fun ls hl => ?_)
        refine lv_iload hx hb d_X12_biteOf_141 (lv_at hl 0 rfl) ?_
        refine lv_if_lt (tgt := 240) hx hb d_X12_biteOf_143 (by decide) (fun c143 => ?_) (fun c143 => ?_)
        · have hf := fm_ip c143 hf
          refine lv_iload hx hb d_X12_biteOf_240 (lv_at hl 0 rfl) ?_
          refine lv_iconst (v := (-1)) hx hb d_X12_biteOf_242 (by decide) ?_
          refine lv_icmp_ne (tgt := 275) hx hb d_X12_biteOf_243 (by decide) (fun c243 => ?_) (fun c243 => ?_)
          · have hf := fm_ig c243 hf
            refine lv_iload hx hb d_X12_biteOf_275 (lv_at hl 0 rfl) ?_
            refine lv_bipush (v := (-10)) hx hb d_X12_biteOf_277 (by decide) ?_
            refine lv_icmp_le (tgt := 361) hx hb d_X12_biteOf_279 (by decide) (fun c279 => ?_) (fun c279 => ?_)
            · have hf := fm_ip c279 hf
              refine lv_iconst (v := 0) hx hb d_X12_biteOf_361 (by decide) ?_
              refine lv_topi (fun x362 ex362 => ?_)
              have hf := fm_let_at ex362 hf
              refine lv_istore (lv' := [(6, .int x362), (8, .int x138), (0, .ref (ad r0)), (3, .int a3), (4, .int a4), (5, .int a5), (7, .int a7)]) hx hb d_X12_biteOf_362 hl (by decide) rfl (fun ls hl => ?_)
              refine lv_aload_n hx hb d_X12_biteOf_364 rfl (lv_at hl 2 rfl) ?_
              refine fm_rgr Z G F hf fr_X12_24 d_X12_biteOf_365 (fun q365 _ hf => ?_)
              refine lv_iconst (v := 0) hx hb d_X12_biteOf_368 (by decide) ?_
              refine fm_rlz Z G F hf d_X12_biteOf_369 (fun x369 _ hf => ?_)
              refine lv_istore (lv' := [(9, .int x369), (6, .int x362), (8, .int x138), (0, .ref (ad r0)), (3, .int a3), (4, .int a4), (5, .int a5), (7, .int a7)]) hx hb d_X12_biteOf_370 hl (by decide) rfl (fun ls hl => ?_)
              refine lv_iload_n hx hb d_X12_biteOf_372 rfl (lv_at hl 4 rfl) ?_
              refine lv_iload hx hb d_X12_biteOf_373 (lv_at hl 0 rfl) ?_
              refine lv_if_eq (tgt := 394) hx hb d_X12_biteOf_375 (by decide) (fun c375 => ?_) (fun c375 => ?_)
              · have hf := fm_ip c375 hf
                refine lv_iconst (v := 0) hx hb d_X12_biteOf_394 (by decide) ?_
                refine lv_iadd hx hb d_X12_biteOf_395 ?_
                refine lv_topi (fun x396 ex396 => ?_)
                have hf := fm_let_at ex396 hf
                refine lv_istore_n (lv' := [(3, .int x396), (9, .int x369), (6, .int x362), (8, .int x138), (0, .ref (ad r0)), (4, .int a4), (5, .int a5), (7, .int a7)]) hx hb d_X12_biteOf_396 rfl hl (by decide) rfl (fun ls hl => ?_)
                refine lv_iload_n hx hb d_X12_biteOf_397 rfl (lv_at hl 0 rfl) ?_
                refine lv_iload hx hb d_X12_biteOf_398 (lv_at hl 1 rfl) ?_
                refine lv_if_eq (tgt := 420) hx hb d_X12_biteOf_400 (by decide) (fun c400 => ?_) (fun c400 => ?_)
                · have hf := fm_ip c400 hf
                  refine lv_iconst (v := 0) hx hb d_X12_biteOf_420 (by decide) ?_
                  refine lv_isub hx hb d_X12_biteOf_421 ?_
                  refine lv_topi (fun x422 ex422 => ?_)
                  have hf := fm_let_at ex422 hf
                  refine lv_istore_n (lv' := [(3, .int x422), (9, .int x369), (6, .int x362), (8, .int x138), (0, .ref (ad r0)), (4, .int a4), (5, .int a5), (7, .int a7)]) hx hb d_X12_biteOf_422 rfl hl (by decide) rfl (fun ls hl => ?_)
                  obtain ⟨x423, ex423⟩ : ∃ y : Int32, y = a7 + 1 := ⟨_, rfl⟩
                  have hf := fm_let_at ex423 hf
                  refine lv_iinc (v := x423) (lv' := [(7, .int x423), (3, .int x422), (9, .int x369), (6, .int x362), (8, .int x138), (0, .ref (ad r0)), (4, .int a4), (5, .int a5)]) hx hb d_X12_biteOf_423 hl (k := 7) rfl (by rw [ex423]; rfl) (by decide) rfl (fun ls hl => ?_)
                  refine lv_goto (tgt := 122) hx hb d_X12_biteOf_426 (by decide) ?_
                  exact ih r0 x422 a4 a5 x362 x423 S _ _ _ F (lv_sub hl [5, 1, 6, 7, 3, 0] rfl) hf
                · have hf := fm_ig c400 hf
                  refine lv_iload hx hb d_X12_biteOf_403 (lv_at hl 3 rfl) ?_
                  refine lv_sipush (v := (-200)) hx hb d_X12_biteOf_405 (by decide) ?_
                  refine lv_icmp_gt (tgt := 420) hx hb d_X12_biteOf_408 (by decide) (fun c408 => ?_) (fun c408 => ?_)
                  · have hf := fm_ip c408 hf
                    refine lv_iconst (v := 0) hx hb d_X12_biteOf_420 (by decide) ?_
                    refine lv_isub hx hb d_X12_biteOf_421 ?_
                    refine lv_topi (fun x422 ex422 => ?_)
                    have hf := fm_let_at ex422 hf
                    refine lv_istore_n (lv' := [(3, .int x422), (9, .int x369), (6, .int x362), (8, .int x138), (0, .ref (ad r0)), (4, .int a4), (5, .int a5), (7, .int a7)]) hx hb d_X12_biteOf_422 rfl hl (by decide) rfl (fun ls hl => ?_)
                    obtain ⟨x423, ex423⟩ : ∃ y : Int32, y = a7 + 1 := ⟨_, rfl⟩
                    have hf := fm_let_at ex423 hf
                    refine lv_iinc (v := x423) (lv' := [(7, .int x423), (3, .int x422), (9, .int x369), (6, .int x362), (8, .int x138), (0, .ref (ad r0)), (4, .int a4), (5, .int a5)]) hx hb d_X12_biteOf_423 hl (k := 7) rfl (by rw [ex423]; rfl) (by decide) rfl (fun ls hl => ?_)
                    refine lv_goto (tgt := 122) hx hb d_X12_biteOf_426 (by decide) ?_
                    exact ih r0 x422 a4 a5 x362 x423 S _ _ _ F (lv_sub hl [5, 1, 6, 7, 3, 0] rfl) hf
                  · have hf := fm_ig c408 hf
                    refine lv_sipush (v := (-200)) hx hb d_X12_biteOf_411 (by decide) ?_
                    refine lv_iload hx hb d_X12_biteOf_414 (lv_at hl 3 rfl) ?_
                    refine lv_isub hx hb d_X12_biteOf_416 ?_
                    refine lv_goto (tgt := 421) hx hb d_X12_biteOf_417 (by decide) ?_
                    refine lv_isub hx hb d_X12_biteOf_421 ?_
                    refine lv_topi (fun x422 ex422 => ?_)
                    have hf := fm_let_at ex422 hf
                    refine lv_istore_n (lv' := [(3, .int x422), (9, .int x369), (6, .int x362), (8, .int x138), (0, .ref (ad r0)), (4, .int a4), (5, .int a5), (7, .int a7)]) hx hb d_X12_biteOf_422 rfl hl (by decide) rfl (fun ls hl => ?_)
                    obtain ⟨x423, ex423⟩ : ∃ y : Int32, y = a7 + 1 := ⟨_, rfl⟩
                    have hf := fm_let_at ex423 hf
                    refine lv_iinc (v := x423) (lv' := [(7, .int x423), (3, .int x422), (9, .int x369), (6, .int x362), (8, .int x138), (0, .ref (ad r0)), (4, .int a4), (5, .int a5)]) hx hb d_X12_biteOf_423 hl (k := 7) rfl (by rw [ex423]; rfl) (by decide) rfl (fun ls hl => ?_)
                    refine lv_goto (tgt := 122) hx hb d_X12_biteOf_426 (by decide) ?_
                    exact ih r0 x422 a4 a5 x362 x423 S _ _ _ F (lv_sub hl [5, 1, 6, 7, 3, 0] rfl) hf
              · have hf := fm_ig c375 hf
                refine lv_iload hx hb d_X12_biteOf_378 (lv_at hl 2 rfl) ?_
                refine lv_sipush (v := (-200)) hx hb d_X12_biteOf_380 (by decide) ?_
                refine lv_icmp_le (tgt := 394) hx hb d_X12_biteOf_383 (by decide) (fun c383 => ?_) (fun c383 => ?_)
                · have hf := fm_ip c383 hf
                  refine lv_iconst (v := 0) hx hb d_X12_biteOf_394 (by decide) ?_
                  refine lv_iadd hx hb d_X12_biteOf_395 ?_
                  refine lv_topi (fun x396 ex396 => ?_)
                  have hf := fm_let_at ex396 hf
                  refine lv_istore_n (lv' := [(3, .int x396), (9, .int x369), (6, .int x362), (8, .int x138), (0, .ref (ad r0)), (4, .int a4), (5, .int a5), (7, .int a7)]) hx hb d_X12_biteOf_396 rfl hl (by decide) rfl (fun ls hl => ?_)
                  refine lv_iload_n hx hb d_X12_biteOf_397 rfl (lv_at hl 0 rfl) ?_
                  refine lv_iload hx hb d_X12_biteOf_398 (lv_at hl 1 rfl) ?_
                  refine lv_if_eq (tgt := 420) hx hb d_X12_biteOf_400 (by decide) (fun c400 => ?_) (fun c400 => ?_)
                  · have hf := fm_ip c400 hf
                    refine lv_iconst (v := 0) hx hb d_X12_biteOf_420 (by decide) ?_
                    refine lv_isub hx hb d_X12_biteOf_421 ?_
                    refine lv_topi (fun x422 ex422 => ?_)
                    have hf := fm_let_at ex422 hf
                    refine lv_istore_n (lv' := [(3, .int x422), (9, .int x369), (6, .int x362), (8, .int x138), (0, .ref (ad r0)), (4, .int a4), (5, .int a5), (7, .int a7)]) hx hb d_X12_biteOf_422 rfl hl (by decide) rfl (fun ls hl => ?_)
                    obtain ⟨x423, ex423⟩ : ∃ y : Int32, y = a7 + 1 := ⟨_, rfl⟩
                    have hf := fm_let_at ex423 hf
                    refine lv_iinc (v := x423) (lv' := [(7, .int x423), (3, .int x422), (9, .int x369), (6, .int x362), (8, .int x138), (0, .ref (ad r0)), (4, .int a4), (5, .int a5)]) hx hb d_X12_biteOf_423 hl (k := 7) rfl (by rw [ex423]; rfl) (by decide) rfl (fun ls hl => ?_)
                    refine lv_goto (tgt := 122) hx hb d_X12_biteOf_426 (by decide) ?_
                    exact ih r0 x422 a4 a5 x362 x423 S _ _ _ F (lv_sub hl [5, 1, 6, 7, 3, 0] rfl) hf
                  · have hf := fm_ig c400 hf
                    refine lv_iload hx hb d_X12_biteOf_403 (lv_at hl 3 rfl) ?_
                    refine lv_sipush (v := (-200)) hx hb d_X12_biteOf_405 (by decide) ?_
                    refine lv_icmp_gt (tgt := 420) hx hb d_X12_biteOf_408 (by decide) (fun c408 => ?_) (fun c408 => ?_)
                    · have hf := fm_ip c408 hf
                      refine lv_iconst (v := 0) hx hb d_X12_biteOf_420 (by decide) ?_
                      refine lv_isub hx hb d_X12_biteOf_421 ?_
                      refine lv_topi (fun x422 ex422 => ?_)
                      have hf := fm_let_at ex422 hf
                      refine lv_istore_n (lv' := [(3, .int x422), (9, .int x369), (6, .int x362), (8, .int x138), (0, .ref (ad r0)), (4, .int a4), (5, .int a5), (7, .int a7)]) hx hb d_X12_biteOf_422 rfl hl (by decide) rfl (fun ls hl => ?_)
                      obtain ⟨x423, ex423⟩ : ∃ y : Int32, y = a7 + 1 := ⟨_, rfl⟩
                      have hf := fm_let_at ex423 hf
                      refine lv_iinc (v := x423) (lv' := [(7, .int x423), (3, .int x422), (9, .int x369), (6, .int x362), (8, .int x138), (0, .ref (ad r0)), (4, .int a4), (5, .int a5)]) hx hb d_X12_biteOf_423 hl (k := 7) rfl (by rw [ex423]; rfl) (by decide) rfl (fun ls hl => ?_)
                      refine lv_goto (tgt := 122) hx hb d_X12_biteOf_426 (by decide) ?_
                      exact ih r0 x422 a4 a5 x362 x423 S _ _ _ F (lv_sub hl [5, 1, 6, 7, 3, 0] rfl) hf
                    · have hf := fm_ig c408 hf
                      refine lv_sipush (v := (-200)) hx hb d_X12_biteOf_411 (by decide) ?_
                      refine lv_iload hx hb d_X12_biteOf_414 (lv_at hl 3 rfl) ?_
                      refine lv_isub hx hb d_X12_biteOf_416 ?_
                      refine lv_goto (tgt := 421) hx hb d_X12_biteOf_417 (by decide) ?_
                      refine lv_isub hx hb d_X12_biteOf_421 ?_
                      refine lv_topi (fun x422 ex422 => ?_)
                      have hf := fm_let_at ex422 hf
                      refine lv_istore_n (lv' := [(3, .int x422), (9, .int x369), (6, .int x362), (8, .int x138), (0, .ref (ad r0)), (4, .int a4), (5, .int a5), (7, .int a7)]) hx hb d_X12_biteOf_422 rfl hl (by decide) rfl (fun ls hl => ?_)
                      obtain ⟨x423, ex423⟩ : ∃ y : Int32, y = a7 + 1 := ⟨_, rfl⟩
                      have hf := fm_let_at ex423 hf
                      refine lv_iinc (v := x423) (lv' := [(7, .int x423), (3, .int x422), (9, .int x369), (6, .int x362), (8, .int x138), (0, .ref (ad r0)), (4, .int a4), (5, .int a5)]) hx hb d_X12_biteOf_423 hl (k := 7) rfl (by rw [ex423]; rfl) (by decide) rfl (fun ls hl => ?_)
                      refine lv_goto (tgt := 122) hx hb d_X12_biteOf_426 (by decide) ?_
                      exact ih r0 x422 a4 a5 x362 x423 S _ _ _ F (lv_sub hl [5, 1, 6, 7, 3, 0] rfl) hf
                · have hf := fm_ig c383 hf
                  refine lv_bipush (v := (-10)) hx hb d_X12_biteOf_386 (by decide) ?_
                  refine lv_iload hx hb d_X12_biteOf_388 (lv_at hl 2 rfl) ?_
                  refine lv_isub hx hb d_X12_biteOf_390 ?_
                  refine lv_goto (tgt := 395) hx hb d_X12_biteOf_391 (by decide) ?_
                  refine lv_iadd hx hb d_X12_biteOf_395 ?_
                  refine lv_topi (fun x396 ex396 => ?_)
                  have hf := fm_let_at ex396 hf
                  refine lv_istore_n (lv' := [(3, .int x396), (9, .int x369), (6, .int x362), (8, .int x138), (0, .ref (ad r0)), (4, .int a4), (5, .int a5), (7, .int a7)]) hx hb d_X12_biteOf_396 rfl hl (by decide) rfl (fun ls hl => ?_)
                  refine lv_iload_n hx hb d_X12_biteOf_397 rfl (lv_at hl 0 rfl) ?_
                  refine lv_iload hx hb d_X12_biteOf_398 (lv_at hl 1 rfl) ?_
                  refine lv_if_eq (tgt := 420) hx hb d_X12_biteOf_400 (by decide) (fun c400 => ?_) (fun c400 => ?_)
                  · have hf := fm_ip c400 hf
                    refine lv_iconst (v := 0) hx hb d_X12_biteOf_420 (by decide) ?_
                    refine lv_isub hx hb d_X12_biteOf_421 ?_
                    refine lv_topi (fun x422 ex422 => ?_)
                    have hf := fm_let_at ex422 hf
                    refine lv_istore_n (lv' := [(3, .int x422), (9, .int x369), (6, .int x362), (8, .int x138), (0, .ref (ad r0)), (4, .int a4), (5, .int a5), (7, .int a7)]) hx hb d_X12_biteOf_422 rfl hl (by decide) rfl (fun ls hl => ?_)
                    obtain ⟨x423, ex423⟩ : ∃ y : Int32, y = a7 + 1 := ⟨_, rfl⟩
                    have hf := fm_let_at ex423 hf
                    refine lv_iinc (v := x423) (lv' := [(7, .int x423), (3, .int x422), (9, .int x369), (6, .int x362), (8, .int x138), (0, .ref (ad r0)), (4, .int a4), (5, .int a5)]) hx hb d_X12_biteOf_423 hl (k := 7) rfl (by rw [ex423]; rfl) (by decide) rfl (fun ls hl => ?_)
                    refine lv_goto (tgt := 122) hx hb d_X12_biteOf_426 (by decide) ?_
                    exact ih r0 x422 a4 a5 x362 x423 S _ _ _ F (lv_sub hl [5, 1, 6, 7, 3, 0] rfl) hf
                  · have hf := fm_ig c400 hf
                    refine lv_iload hx hb d_X12_biteOf_403 (lv_at hl 3 rfl) ?_
                    refine lv_sipush (v := (-200)) hx hb d_X12_biteOf_405 (by decide) ?_
                    refine lv_icmp_gt (tgt := 420) hx hb d_X12_biteOf_408 (by decide) (fun c408 => ?_) (fun c408 => ?_)
                    · have hf := fm_ip c408 hf
                      refine lv_iconst (v := 0) hx hb d_X12_biteOf_420 (by decide) ?_
                      refine lv_isub hx hb d_X12_biteOf_421 ?_
                      refine lv_topi (fun x422 ex422 => ?_)
                      have hf := fm_let_at ex422 hf
                      refine lv_istore_n (lv' := [(3, .int x422), (9, .int x369), (6, .int x362), (8, .int x138), (0, .ref (ad r0)), (4, .int a4), (5, .int a5), (7, .int a7)]) hx hb d_X12_biteOf_422 rfl hl (by decide) rfl (fun ls hl => ?_)
                      obtain ⟨x423, ex423⟩ : ∃ y : Int32, y = a7 + 1 := ⟨_, rfl⟩
                      have hf := fm_let_at ex423 hf
                      refine lv_iinc (v := x423) (lv' := [(7, .int x423), (3, .int x422), (9, .int x369), (6, .int x362), (8, .int x138), (0, .ref (ad r0)), (4, .int a4), (5, .int a5)]) hx hb d_X12_biteOf_423 hl (k := 7) rfl (by rw [ex423]; rfl) (by decide) rfl (fun ls hl => ?_)
                      refine lv_goto (tgt := 122) hx hb d_X12_biteOf_426 (by decide) ?_
                      exact ih r0 x422 a4 a5 x362 x423 S _ _ _ F (lv_sub hl [5, 1, 6, 7, 3, 0] rfl) hf
                    · have hf := fm_ig c408 hf
                      refine lv_sipush (v := (-200)) hx hb d_X12_biteOf_411 (by decide) ?_
                      refine lv_iload hx hb d_X12_biteOf_414 (lv_at hl 3 rfl) ?_
                      refine lv_isub hx hb d_X12_biteOf_416 ?_
                      refine lv_goto (tgt := 421) hx hb d_X12_biteOf_417 (by decide) ?_
                      refine lv_isub hx hb d_X12_biteOf_421 ?_
                      refine lv_topi (fun x422 ex422 => ?_)
                      have hf := fm_let_at ex422 hf
                      refine lv_istore_n (lv' := [(3, .int x422), (9, .int x369), (6, .int x362), (8, .int x138), (0, .ref (ad r0)), (4, .int a4), (5, .int a5), (7, .int a7)]) hx hb d_X12_biteOf_422 rfl hl (by decide) rfl (fun ls hl => ?_)
                      obtain ⟨x423, ex423⟩ : ∃ y : Int32, y = a7 + 1 := ⟨_, rfl⟩
                      have hf := fm_let_at ex423 hf
                      refine lv_iinc (v := x423) (lv' := [(7, .int x423), (3, .int x422), (9, .int x369), (6, .int x362), (8, .int x138), (0, .ref (ad r0)), (4, .int a4), (5, .int a5)]) hx hb d_X12_biteOf_423 hl (k := 7) rfl (by rw [ex423]; rfl) (by decide) rfl (fun ls hl => ?_)
                      refine lv_goto (tgt := 122) hx hb d_X12_biteOf_426 (by decide) ?_
                      exact ih r0 x422 a4 a5 x362 x423 S _ _ _ F (lv_sub hl [5, 1, 6, 7, 3, 0] rfl) hf
            · have hf := fm_ig c279 hf
              obtain ⟨x282, ex282⟩ : ∃ y : Int32, y = a6 + (-1) := ⟨_, rfl⟩
              have hf := fm_let_at ex282 hf
              refine lv_iinc (v := x282) (lv' := [(6, .int x282), (8, .int x138), (0, .ref (ad r0)), (3, .int a3), (4, .int a4), (5, .int a5), (7, .int a7)]) hx hb d_X12_biteOf_282 hl (k := 5) rfl (by rw [ex282]; rfl) (by decide) rfl (fun ls hl => ?_)
              refine lv_aload_n hx hb d_X12_biteOf_285 rfl (lv_at hl 2 rfl) ?_
              refine fm_rgr Z G F hf fr_X12_24 d_X12_biteOf_286 (fun q286 _ hf => ?_)
              refine lv_iload hx hb d_X12_biteOf_289 (lv_at hl 0 rfl) ?_
              refine lv_iconst (v := 1) hx hb d_X12_biteOf_291 (by decide) ?_
              refine lv_isub hx hb d_X12_biteOf_292 ?_
              refine lv_iload hx hb d_X12_biteOf_293 (lv_at hl 1 rfl) ?_
              refine lv_bipush (v := (-2)) hx hb d_X12_biteOf_295 (by decide) ?_
              refine lv_icmp_ne (tgt := 330) hx hb d_X12_biteOf_297 (by decide) (fun c297 => ?_) (fun c297 => ?_)
              · have hf := fm_ig c297 hf
                refine lv_aload_n hx hb d_X12_biteOf_330 rfl (lv_at hl 2 rfl) ?_
                refine fm_rgr Z G F hf fr_X12_24 d_X12_biteOf_331 (fun q331 _ hf => ?_)
                refine lv_iload hx hb d_X12_biteOf_334 (lv_at hl 0 rfl) ?_
                refine lv_iconst (v := 1) hx hb d_X12_biteOf_336 (by decide) ?_
                refine lv_isub hx hb d_X12_biteOf_337 ?_
                refine fm_rlz Z G F hf d_X12_biteOf_338 (fun x338 _ hf => ?_)
                refine lv_if_ne (tgt := 352) hx hb d_X12_biteOf_339 (by decide) (fun c339 => ?_) (fun c339 => ?_)
                · have hf := fm_ig c339 hf
                  refine lv_iconst (v := 1) hx hb d_X12_biteOf_352 (by decide) ?_
                  refine lv_goto (tgt := 357) hx hb d_X12_biteOf_353 (by decide) ?_
                  refine fm_rsz Z G F hf d_X12_biteOf_357 (fun S357 H locs _ F hf => ?_)
                  refine lv_goto (tgt := 423) hx hb d_X12_biteOf_358 (by decide) ?_
                  obtain ⟨x423, ex423⟩ : ∃ y : Int32, y = a7 + 1 := ⟨_, rfl⟩
                  have hf := fm_let_at ex423 hf
                  refine lv_iinc (v := x423) (lv' := [(7, .int x423), (6, .int x282), (8, .int x138), (0, .ref (ad r0)), (3, .int a3), (4, .int a4), (5, .int a5)]) hx hb d_X12_biteOf_423 hl (k := 6) rfl (by rw [ex423]; rfl) (by decide) rfl (fun ls hl => ?_)
                  refine lv_goto (tgt := 122) hx hb d_X12_biteOf_426 (by decide) ?_
                  exact ih r0 a3 a4 a5 x282 x423 S357 _ _ _ F (lv_sub hl [3, 4, 5, 6, 1, 0] rfl) hf
                · have hf := fm_ip c339 hf
                  refine lv_aload_n hx hb d_X12_biteOf_342 rfl (lv_at hl 2 rfl) ?_
                  refine fm_rgr Z G F hf fr_X12_24 d_X12_biteOf_343 (fun q343 _ hf => ?_)
                  refine lv_iload hx hb d_X12_biteOf_346 (lv_at hl 0 rfl) ?_
                  refine fm_rlz Z G F hf d_X12_biteOf_348 (fun x348 _ hf => ?_)
                  refine lv_if_eq (tgt := 356) hx hb d_X12_biteOf_349 (by decide) (fun c349 => ?_) (fun c349 => ?_)
                  · have hf := fm_ip c349 hf
                    refine lv_iconst (v := 0) hx hb d_X12_biteOf_356 (by decide) ?_
                    refine fm_rsz Z G F hf d_X12_biteOf_357 (fun S357 H locs _ F hf => ?_)
                    refine lv_goto (tgt := 423) hx hb d_X12_biteOf_358 (by decide) ?_
                    obtain ⟨x423, ex423⟩ : ∃ y : Int32, y = a7 + 1 := ⟨_, rfl⟩
                    have hf := fm_let_at ex423 hf
                    refine lv_iinc (v := x423) (lv' := [(7, .int x423), (6, .int x282), (8, .int x138), (0, .ref (ad r0)), (3, .int a3), (4, .int a4), (5, .int a5)]) hx hb d_X12_biteOf_423 hl (k := 6) rfl (by rw [ex423]; rfl) (by decide) rfl (fun ls hl => ?_)
                    refine lv_goto (tgt := 122) hx hb d_X12_biteOf_426 (by decide) ?_
                    exact ih r0 a3 a4 a5 x282 x423 S357 _ _ _ F (lv_sub hl [3, 4, 5, 6, 1, 0] rfl) hf
                  · have hf := fm_ig c349 hf
                    refine lv_iconst (v := 1) hx hb d_X12_biteOf_352 (by decide) ?_
                    refine lv_goto (tgt := 357) hx hb d_X12_biteOf_353 (by decide) ?_
                    refine fm_rsz Z G F hf d_X12_biteOf_357 (fun S357 H locs _ F hf => ?_)
                    refine lv_goto (tgt := 423) hx hb d_X12_biteOf_358 (by decide) ?_
                    obtain ⟨x423, ex423⟩ : ∃ y : Int32, y = a7 + 1 := ⟨_, rfl⟩
                    have hf := fm_let_at ex423 hf
                    refine lv_iinc (v := x423) (lv' := [(7, .int x423), (6, .int x282), (8, .int x138), (0, .ref (ad r0)), (3, .int a3), (4, .int a4), (5, .int a5)]) hx hb d_X12_biteOf_423 hl (k := 6) rfl (by rw [ex423]; rfl) (by decide) rfl (fun ls hl => ?_)
                    refine lv_goto (tgt := 122) hx hb d_X12_biteOf_426 (by decide) ?_
                    exact ih r0 a3 a4 a5 x282 x423 S357 _ _ _ F (lv_sub hl [3, 4, 5, 6, 1, 0] rfl) hf
              · have hf := fm_ip c297 hf
                refine lv_aload_n hx hb d_X12_biteOf_300 rfl (lv_at hl 2 rfl) ?_
                refine fm_rgr Z G F hf fr_X12_24 d_X12_biteOf_301 (fun q301 _ hf => ?_)
                refine lv_iload hx hb d_X12_biteOf_304 (lv_at hl 0 rfl) ?_
                refine lv_iconst (v := 1) hx hb d_X12_biteOf_306 (by decide) ?_
                refine lv_isub hx hb d_X12_biteOf_307 ?_
                refine fm_rlz Z G F hf d_X12_biteOf_308 (fun x308 _ hf => ?_)
                refine lv_if_eq (tgt := 326) hx hb d_X12_biteOf_309 (by decide) (fun c309 => ?_) (fun c309 => ?_)
                · have hf := fm_ip c309 hf
                  refine lv_iconst (v := 0) hx hb d_X12_biteOf_326 (by decide) ?_
                  refine lv_goto (tgt := 357) hx hb d_X12_biteOf_327 (by decide) ?_
                  refine fm_rsz Z G F hf d_X12_biteOf_357 (fun S357 H locs _ F hf => ?_)
                  refine lv_goto (tgt := 423) hx hb d_X12_biteOf_358 (by decide) ?_
                  obtain ⟨x423, ex423⟩ : ∃ y : Int32, y = a7 + 1 := ⟨_, rfl⟩
                  have hf := fm_let_at ex423 hf
                  refine lv_iinc (v := x423) (lv' := [(7, .int x423), (6, .int x282), (8, .int x138), (0, .ref (ad r0)), (3, .int a3), (4, .int a4), (5, .int a5)]) hx hb d_X12_biteOf_423 hl (k := 6) rfl (by rw [ex423]; rfl) (by decide) rfl (fun ls hl => ?_)
                  refine lv_goto (tgt := 122) hx hb d_X12_biteOf_426 (by decide) ?_
                  exact ih r0 a3 a4 a5 x282 x423 S357 _ _ _ F (lv_sub hl [3, 4, 5, 6, 1, 0] rfl) hf
                · have hf := fm_ig c309 hf
                  refine lv_aload_n hx hb d_X12_biteOf_312 rfl (lv_at hl 2 rfl) ?_
                  refine fm_rgr Z G F hf fr_X12_24 d_X12_biteOf_313 (fun q313 _ hf => ?_)
                  refine lv_iload hx hb d_X12_biteOf_316 (lv_at hl 0 rfl) ?_
                  refine fm_rlz Z G F hf d_X12_biteOf_318 (fun x318 _ hf => ?_)
                  refine lv_if_eq (tgt := 326) hx hb d_X12_biteOf_319 (by decide) (fun c319 => ?_) (fun c319 => ?_)
                  · have hf := fm_ip c319 hf
                    refine lv_iconst (v := 0) hx hb d_X12_biteOf_326 (by decide) ?_
                    refine lv_goto (tgt := 357) hx hb d_X12_biteOf_327 (by decide) ?_
                    refine fm_rsz Z G F hf d_X12_biteOf_357 (fun S357 H locs _ F hf => ?_)
                    refine lv_goto (tgt := 423) hx hb d_X12_biteOf_358 (by decide) ?_
                    obtain ⟨x423, ex423⟩ : ∃ y : Int32, y = a7 + 1 := ⟨_, rfl⟩
                    have hf := fm_let_at ex423 hf
                    refine lv_iinc (v := x423) (lv' := [(7, .int x423), (6, .int x282), (8, .int x138), (0, .ref (ad r0)), (3, .int a3), (4, .int a4), (5, .int a5)]) hx hb d_X12_biteOf_423 hl (k := 6) rfl (by rw [ex423]; rfl) (by decide) rfl (fun ls hl => ?_)
                    refine lv_goto (tgt := 122) hx hb d_X12_biteOf_426 (by decide) ?_
                    exact ih r0 a3 a4 a5 x282 x423 S357 _ _ _ F (lv_sub hl [3, 4, 5, 6, 1, 0] rfl) hf
                  · have hf := fm_ig c319 hf
                    refine lv_iconst (v := 1) hx hb d_X12_biteOf_322 (by decide) ?_
                    refine lv_goto (tgt := 357) hx hb d_X12_biteOf_323 (by decide) ?_
                    refine fm_rsz Z G F hf d_X12_biteOf_357 (fun S357 H locs _ F hf => ?_)
                    refine lv_goto (tgt := 423) hx hb d_X12_biteOf_358 (by decide) ?_
                    obtain ⟨x423, ex423⟩ : ∃ y : Int32, y = a7 + 1 := ⟨_, rfl⟩
                    have hf := fm_let_at ex423 hf
                    refine lv_iinc (v := x423) (lv' := [(7, .int x423), (6, .int x282), (8, .int x138), (0, .ref (ad r0)), (3, .int a3), (4, .int a4), (5, .int a5)]) hx hb d_X12_biteOf_423 hl (k := 6) rfl (by rw [ex423]; rfl) (by decide) rfl (fun ls hl => ?_)
                    refine lv_goto (tgt := 122) hx hb d_X12_biteOf_426 (by decide) ?_
                    exact ih r0 a3 a4 a5 x282 x423 S357 _ _ _ F (lv_sub hl [3, 4, 5, 6, 1, 0] rfl) hf
          · have hf := fm_ip c243 hf
            refine lv_aload_n hx hb d_X12_biteOf_246 rfl (lv_at hl 1 rfl) ?_
            refine fm_rgr Z G F hf fr_X12_24 d_X12_biteOf_247 (fun q247 _ hf => ?_)
            refine lv_iload hx hb d_X12_biteOf_250 (lv_at hl 5 rfl) ?_
            refine lv_iconst (v := 1) hx hb d_X12_biteOf_252 (by decide) ?_
            refine lv_isub hx hb d_X12_biteOf_253 ?_
            refine lv_aload_n hx hb d_X12_biteOf_254 rfl (lv_at hl 1 rfl) ?_
            refine fm_rgr Z G F hf fr_X12_24 d_X12_biteOf_255 (fun q255 _ hf => ?_)
            refine lv_iload hx hb d_X12_biteOf_258 (lv_at hl 5 rfl) ?_
            refine lv_iconst (v := 1) hx hb d_X12_biteOf_260 (by decide) ?_
            refine lv_isub hx hb d_X12_biteOf_261 ?_
            refine fm_rlz Z G F hf d_X12_biteOf_262 (fun x262 _ hf => ?_)
            refine lv_if_ne (tgt := 270) hx hb d_X12_biteOf_263 (by decide) (fun c263 => ?_) (fun c263 => ?_)
            · have hf := fm_ig c263 hf
              refine lv_iconst (v := 0) hx hb d_X12_biteOf_270 (by decide) ?_
              refine fm_rsz Z G F hf d_X12_biteOf_271 (fun S271 H locs _ F hf => ?_)
              refine lv_goto (tgt := 423) hx hb d_X12_biteOf_272 (by decide) ?_
              obtain ⟨x423, ex423⟩ : ∃ y : Int32, y = a7 + 1 := ⟨_, rfl⟩
              have hf := fm_let_at ex423 hf
              refine lv_iinc (v := x423) (lv' := [(7, .int x423), (8, .int x138), (0, .ref (ad r0)), (3, .int a3), (4, .int a4), (5, .int a5), (6, .int a6)]) hx hb d_X12_biteOf_423 hl (k := 6) rfl (by rw [ex423]; rfl) (by decide) rfl (fun ls hl => ?_)
              refine lv_goto (tgt := 122) hx hb d_X12_biteOf_426 (by decide) ?_
              exact ih r0 a3 a4 a5 a6 x423 S271 _ _ _ F (lv_sub hl [2, 3, 4, 5, 6, 0] rfl) hf
            · have hf := fm_ip c263 hf
              refine lv_iconst (v := 1) hx hb d_X12_biteOf_266 (by decide) ?_
              refine lv_goto (tgt := 271) hx hb d_X12_biteOf_267 (by decide) ?_
              refine fm_rsz Z G F hf d_X12_biteOf_271 (fun S271 H locs _ F hf => ?_)
              refine lv_goto (tgt := 423) hx hb d_X12_biteOf_272 (by decide) ?_
              obtain ⟨x423, ex423⟩ : ∃ y : Int32, y = a7 + 1 := ⟨_, rfl⟩
              have hf := fm_let_at ex423 hf
              refine lv_iinc (v := x423) (lv' := [(7, .int x423), (8, .int x138), (0, .ref (ad r0)), (3, .int a3), (4, .int a4), (5, .int a5), (6, .int a6)]) hx hb d_X12_biteOf_423 hl (k := 6) rfl (by rw [ex423]; rfl) (by decide) rfl (fun ls hl => ?_)
              refine lv_goto (tgt := 122) hx hb d_X12_biteOf_426 (by decide) ?_
              exact ih r0 a3 a4 a5 a6 x423 S271 _ _ _ F (lv_sub hl [2, 3, 4, 5, 6, 0] rfl) hf
        · have hf := fm_ig c143 hf
          refine lv_aload_n hx hb d_X12_biteOf_146 rfl (lv_at hl 1 rfl) ?_
          refine fm_rgr Z G F hf fr_X12_21 d_X12_biteOf_147 (fun q147 _ hf => ?_)
          refine lv_iload hx hb d_X12_biteOf_150 (lv_at hl 0 rfl) ?_
          refine lv_bipush (v := 8) hx hb d_X12_biteOf_152 (by decide) ?_
          refine lv_irem hx hb d_X12_biteOf_154 (by decide) ?_
          refine fm_rld Z G F hf d_X12_biteOf_155 (fun x155 _ hf => ?_)
          refine lv_istore (lv' := [(9, .int x155), (8, .int x138), (0, .ref (ad r0)), (3, .int a3), (4, .int a4), (5, .int a5), (6, .int a6), (7, .int a7)]) hx hb d_X12_biteOf_156 hl (by decide) rfl (fun ls hl => ?_)
          refine lv_iload hx hb d_X12_biteOf_158 (lv_at hl 1 rfl) ?_
          refine lv_bipush (v := 8) hx hb d_X12_biteOf_160 (by decide) ?_
          refine lv_idiv hx hb d_X12_biteOf_162 (by decide) ?_
          refine lv_iconst (v := 4) hx hb d_X12_biteOf_163 (by decide) ?_
          refine lv_irem hx hb d_X12_biteOf_164 (by decide) ?_
          refine lv_topi (fun x165 ex165 => ?_)
          have hf := fm_let_at ex165 hf
          refine lv_istore (lv' := [(10, .int x165), (9, .int x155), (8, .int x138), (0, .ref (ad r0)), (3, .int a3), (4, .int a4), (5, .int a5), (6, .int a6), (7, .int a7)]) hx hb d_X12_biteOf_165 hl (by decide) rfl (fun ls hl => ?_)
          refine lv_iload hx hb d_X12_biteOf_167 (lv_at hl 2 rfl) ?_
          refine lv_bipush (v := 32) hx hb d_X12_biteOf_169 (by decide) ?_
          refine lv_idiv hx hb d_X12_biteOf_171 (by decide) ?_
          refine lv_topi (fun x172 ex172 => ?_)
          have hf := fm_let_at ex172 hf
          refine lv_istore (lv' := [(11, .int x172), (10, .int x165), (9, .int x155), (8, .int x138), (0, .ref (ad r0)), (3, .int a3), (4, .int a4), (5, .int a5), (6, .int a6), (7, .int a7)]) hx hb d_X12_biteOf_172 hl (by decide) rfl (fun ls hl => ?_)
          refine lv_aload_n hx hb d_X12_biteOf_174 rfl (lv_at hl 4 rfl) ?_
          refine fm_rgr Z G F hf fr_X12_24 d_X12_biteOf_175 (fun q175 _ hf => ?_)
          refine lv_iload hx hb d_X12_biteOf_178 (lv_at hl 8 rfl) ?_
          refine lv_iload hx hb d_X12_biteOf_180 (lv_at hl 1 rfl) ?_
          refine lv_if_ne (tgt := 200) hx hb d_X12_biteOf_182 (by decide) (fun c182 => ?_) (fun c182 => ?_)
          · have hf := fm_ig c182 hf
            refine lv_iload hx hb d_X12_biteOf_200 (lv_at hl 1 rfl) ?_
            refine lv_iconst (v := 1) hx hb d_X12_biteOf_202 (by decide) ?_
            refine lv_icmp_ne (tgt := 221) hx hb d_X12_biteOf_203 (by decide) (fun c203 => ?_) (fun c203 => ?_)
            · have hf := fm_ig c203 hf
              refine lv_iload hx hb d_X12_biteOf_221 (lv_at hl 2 rfl) ?_
              refine lv_iload hx hb d_X12_biteOf_223 (lv_at hl 0 rfl) ?_
              refine lv_icmp_le (tgt := 232) hx hb d_X12_biteOf_225 (by decide) (fun c225 => ?_) (fun c225 => ?_)
              · have hf := fm_ip c225 hf
                refine lv_iconst (v := 0) hx hb d_X12_biteOf_232 (by decide) ?_
                refine fm_rsz Z G F hf d_X12_biteOf_233 (fun S233 H locs _ F hf => ?_)
                obtain ⟨x234, ex234⟩ : ∃ y : Int32, y = a6 + 1 := ⟨_, rfl⟩
                have hf := fm_let_at ex234 hf
                refine lv_iinc (v := x234) (lv' := [(6, .int x234), (11, .int x172), (10, .int x165), (9, .int x155), (8, .int x138), (0, .ref (ad r0)), (3, .int a3), (4, .int a4), (5, .int a5), (7, .int a7)]) hx hb d_X12_biteOf_234 hl (k := 8) rfl (by rw [ex234]; rfl) (by decide) rfl (fun ls hl => ?_)
                refine lv_goto (tgt := 423) hx hb d_X12_biteOf_237 (by decide) ?_
                obtain ⟨x423, ex423⟩ : ∃ y : Int32, y = a7 + 1 := ⟨_, rfl⟩
                have hf := fm_let_at ex423 hf
                refine lv_iinc (v := x423) (lv' := [(7, .int x423), (6, .int x234), (11, .int x172), (10, .int x165), (9, .int x155), (8, .int x138), (0, .ref (ad r0)), (3, .int a3), (4, .int a4), (5, .int a5)]) hx hb d_X12_biteOf_423 hl (k := 9) rfl (by rw [ex423]; rfl) (by decide) rfl (fun ls hl => ?_)
                refine lv_goto (tgt := 122) hx hb d_X12_biteOf_426 (by decide) ?_
                exact ih r0 a3 a4 a5 x234 x423 S233 _ _ _ F (lv_sub hl [6, 7, 8, 9, 1, 0] rfl) hf
              · have hf := fm_ig c225 hf
                refine lv_iconst (v := 1) hx hb d_X12_biteOf_228 (by decide) ?_
                refine lv_goto (tgt := 233) hx hb d_X12_biteOf_229 (by decide) ?_
                refine fm_rsz Z G F hf d_X12_biteOf_233 (fun S233 H locs _ F hf => ?_)
                obtain ⟨x234, ex234⟩ : ∃ y : Int32, y = a6 + 1 := ⟨_, rfl⟩
                have hf := fm_let_at ex234 hf
                refine lv_iinc (v := x234) (lv' := [(6, .int x234), (11, .int x172), (10, .int x165), (9, .int x155), (8, .int x138), (0, .ref (ad r0)), (3, .int a3), (4, .int a4), (5, .int a5), (7, .int a7)]) hx hb d_X12_biteOf_234 hl (k := 8) rfl (by rw [ex234]; rfl) (by decide) rfl (fun ls hl => ?_)
                refine lv_goto (tgt := 423) hx hb d_X12_biteOf_237 (by decide) ?_
                obtain ⟨x423, ex423⟩ : ∃ y : Int32, y = a7 + 1 := ⟨_, rfl⟩
                have hf := fm_let_at ex423 hf
                refine lv_iinc (v := x423) (lv' := [(7, .int x423), (6, .int x234), (11, .int x172), (10, .int x165), (9, .int x155), (8, .int x138), (0, .ref (ad r0)), (3, .int a3), (4, .int a4), (5, .int a5)]) hx hb d_X12_biteOf_423 hl (k := 9) rfl (by rw [ex423]; rfl) (by decide) rfl (fun ls hl => ?_)
                refine lv_goto (tgt := 122) hx hb d_X12_biteOf_426 (by decide) ?_
                exact ih r0 a3 a4 a5 x234 x423 S233 _ _ _ F (lv_sub hl [6, 7, 8, 9, 1, 0] rfl) hf
            · have hf := fm_ip c203 hf
              refine lv_iload hx hb d_X12_biteOf_206 (lv_at hl 2 rfl) ?_
              refine lv_iload hx hb d_X12_biteOf_208 (lv_at hl 0 rfl) ?_
              refine lv_icmp_ne (tgt := 217) hx hb d_X12_biteOf_210 (by decide) (fun c210 => ?_) (fun c210 => ?_)
              · have hf := fm_ig c210 hf
                refine lv_iconst (v := 0) hx hb d_X12_biteOf_217 (by decide) ?_
                refine lv_goto (tgt := 233) hx hb d_X12_biteOf_218 (by decide) ?_
                refine fm_rsz Z G F hf d_X12_biteOf_233 (fun S233 H locs _ F hf => ?_)
                obtain ⟨x234, ex234⟩ : ∃ y : Int32, y = a6 + 1 := ⟨_, rfl⟩
                have hf := fm_let_at ex234 hf
                refine lv_iinc (v := x234) (lv' := [(6, .int x234), (11, .int x172), (10, .int x165), (9, .int x155), (8, .int x138), (0, .ref (ad r0)), (3, .int a3), (4, .int a4), (5, .int a5), (7, .int a7)]) hx hb d_X12_biteOf_234 hl (k := 8) rfl (by rw [ex234]; rfl) (by decide) rfl (fun ls hl => ?_)
                refine lv_goto (tgt := 423) hx hb d_X12_biteOf_237 (by decide) ?_
                obtain ⟨x423, ex423⟩ : ∃ y : Int32, y = a7 + 1 := ⟨_, rfl⟩
                have hf := fm_let_at ex423 hf
                refine lv_iinc (v := x423) (lv' := [(7, .int x423), (6, .int x234), (11, .int x172), (10, .int x165), (9, .int x155), (8, .int x138), (0, .ref (ad r0)), (3, .int a3), (4, .int a4), (5, .int a5)]) hx hb d_X12_biteOf_423 hl (k := 9) rfl (by rw [ex423]; rfl) (by decide) rfl (fun ls hl => ?_)
                refine lv_goto (tgt := 122) hx hb d_X12_biteOf_426 (by decide) ?_
                exact ih r0 a3 a4 a5 x234 x423 S233 _ _ _ F (lv_sub hl [6, 7, 8, 9, 1, 0] rfl) hf
              · have hf := fm_ip c210 hf
                refine lv_iconst (v := 1) hx hb d_X12_biteOf_213 (by decide) ?_
                refine lv_goto (tgt := 233) hx hb d_X12_biteOf_214 (by decide) ?_
                refine fm_rsz Z G F hf d_X12_biteOf_233 (fun S233 H locs _ F hf => ?_)
                obtain ⟨x234, ex234⟩ : ∃ y : Int32, y = a6 + 1 := ⟨_, rfl⟩
                have hf := fm_let_at ex234 hf
                refine lv_iinc (v := x234) (lv' := [(6, .int x234), (11, .int x172), (10, .int x165), (9, .int x155), (8, .int x138), (0, .ref (ad r0)), (3, .int a3), (4, .int a4), (5, .int a5), (7, .int a7)]) hx hb d_X12_biteOf_234 hl (k := 8) rfl (by rw [ex234]; rfl) (by decide) rfl (fun ls hl => ?_)
                refine lv_goto (tgt := 423) hx hb d_X12_biteOf_237 (by decide) ?_
                obtain ⟨x423, ex423⟩ : ∃ y : Int32, y = a7 + 1 := ⟨_, rfl⟩
                have hf := fm_let_at ex423 hf
                refine lv_iinc (v := x423) (lv' := [(7, .int x423), (6, .int x234), (11, .int x172), (10, .int x165), (9, .int x155), (8, .int x138), (0, .ref (ad r0)), (3, .int a3), (4, .int a4), (5, .int a5)]) hx hb d_X12_biteOf_423 hl (k := 9) rfl (by rw [ex423]; rfl) (by decide) rfl (fun ls hl => ?_)
                refine lv_goto (tgt := 122) hx hb d_X12_biteOf_426 (by decide) ?_
                exact ih r0 a3 a4 a5 x234 x423 S233 _ _ _ F (lv_sub hl [6, 7, 8, 9, 1, 0] rfl) hf
          · have hf := fm_ip c182 hf
            refine lv_iload hx hb d_X12_biteOf_185 (lv_at hl 2 rfl) ?_
            refine lv_iload hx hb d_X12_biteOf_187 (lv_at hl 0 rfl) ?_
            refine lv_icmp_ge (tgt := 196) hx hb d_X12_biteOf_189 (by decide) (fun c189 => ?_) (fun c189 => ?_)
            · have hf := fm_ip c189 hf
              refine lv_iconst (v := 0) hx hb d_X12_biteOf_196 (by decide) ?_
              refine lv_goto (tgt := 233) hx hb d_X12_biteOf_197 (by decide) ?_
              refine fm_rsz Z G F hf d_X12_biteOf_233 (fun S233 H locs _ F hf => ?_)
              obtain ⟨x234, ex234⟩ : ∃ y : Int32, y = a6 + 1 := ⟨_, rfl⟩
              have hf := fm_let_at ex234 hf
              refine lv_iinc (v := x234) (lv' := [(6, .int x234), (11, .int x172), (10, .int x165), (9, .int x155), (8, .int x138), (0, .ref (ad r0)), (3, .int a3), (4, .int a4), (5, .int a5), (7, .int a7)]) hx hb d_X12_biteOf_234 hl (k := 8) rfl (by rw [ex234]; rfl) (by decide) rfl (fun ls hl => ?_)
              refine lv_goto (tgt := 423) hx hb d_X12_biteOf_237 (by decide) ?_
              obtain ⟨x423, ex423⟩ : ∃ y : Int32, y = a7 + 1 := ⟨_, rfl⟩
              have hf := fm_let_at ex423 hf
              refine lv_iinc (v := x423) (lv' := [(7, .int x423), (6, .int x234), (11, .int x172), (10, .int x165), (9, .int x155), (8, .int x138), (0, .ref (ad r0)), (3, .int a3), (4, .int a4), (5, .int a5)]) hx hb d_X12_biteOf_423 hl (k := 9) rfl (by rw [ex423]; rfl) (by decide) rfl (fun ls hl => ?_)
              refine lv_goto (tgt := 122) hx hb d_X12_biteOf_426 (by decide) ?_
              exact ih r0 a3 a4 a5 x234 x423 S233 _ _ _ F (lv_sub hl [6, 7, 8, 9, 1, 0] rfl) hf
            · have hf := fm_ig c189 hf
              refine lv_iconst (v := 1) hx hb d_X12_biteOf_192 (by decide) ?_
              refine lv_goto (tgt := 233) hx hb d_X12_biteOf_193 (by decide) ?_
              refine fm_rsz Z G F hf d_X12_biteOf_233 (fun S233 H locs _ F hf => ?_)
              obtain ⟨x234, ex234⟩ : ∃ y : Int32, y = a6 + 1 := ⟨_, rfl⟩
              have hf := fm_let_at ex234 hf
              refine lv_iinc (v := x234) (lv' := [(6, .int x234), (11, .int x172), (10, .int x165), (9, .int x155), (8, .int x138), (0, .ref (ad r0)), (3, .int a3), (4, .int a4), (5, .int a5), (7, .int a7)]) hx hb d_X12_biteOf_234 hl (k := 8) rfl (by rw [ex234]; rfl) (by decide) rfl (fun ls hl => ?_)
              refine lv_goto (tgt := 423) hx hb d_X12_biteOf_237 (by decide) ?_
              obtain ⟨x423, ex423⟩ : ∃ y : Int32, y = a7 + 1 := ⟨_, rfl⟩
              have hf := fm_let_at ex423 hf
              refine lv_iinc (v := x423) (lv' := [(7, .int x423), (6, .int x234), (11, .int x172), (10, .int x165), (9, .int x155), (8, .int x138), (0, .ref (ad r0)), (3, .int a3), (4, .int a4), (5, .int a5)]) hx hb d_X12_biteOf_423 hl (k := 9) rfl (by rw [ex423]; rfl) (by decide) rfl (fun ls hl => ?_)
              refine lv_goto (tgt := 122) hx hb d_X12_biteOf_426 (by decide) ?_
              exact ih r0 a3 a4 a5 x234 x423 S233 _ _ _ F (lv_sub hl [6, 7, 8, 9, 1, 0] rfl) hf
  unfold m_X12_biteOf at hf
  refine lv_aload_n hx hb d_X12_biteOf_0 rfl (lv_at hl 0 rfl) ?_
  refine fm_rgr Z G F hf fr_X12_21 d_X12_biteOf_1 (fun q1 _ hf => ?_)
  refine lv_iconst (v := 0) hx hb d_X12_biteOf_4 (by decide) ?_
  refine lv_iload_n hx hb d_X12_biteOf_5 rfl (lv_at hl 1 rfl) ?_
  refine fm_rst Z G F hf d_X12_biteOf_6 (fun S6 H locs _ F hf => ?_)
  refine lv_aload_n hx hb d_X12_biteOf_7 rfl (lv_at hl 0 rfl) ?_
  refine fm_rgr Z G F hf fr_X12_21 d_X12_biteOf_8 (fun q8 _ hf => ?_)
  refine lv_iconst (v := 1) hx hb d_X12_biteOf_11 (by decide) ?_
  refine lv_aload_n hx hb d_X12_biteOf_12 rfl (lv_at hl 0 rfl) ?_
  refine fm_rgr Z G F hf fr_X12_9 d_X12_biteOf_13 (fun q13 _ hf => ?_)
  refine lv_bipush (v := 28) hx hb d_X12_biteOf_16 (by decide) ?_
  refine lv_iload_n hx hb d_X12_biteOf_18 rfl (lv_at hl 1 rfl) ?_
  refine lv_iadd hx hb d_X12_biteOf_19 ?_
  refine fm_rld Z G F hf d_X12_biteOf_20 (fun x20 _ hf => ?_)
  refine fm_rst Z G F hf d_X12_biteOf_21 (fun S21 H locs _ F hf => ?_)
  refine lv_aload_n hx hb d_X12_biteOf_22 rfl (lv_at hl 0 rfl) ?_
  refine fm_rgr Z G F hf fr_X12_21 d_X12_biteOf_23 (fun q23 _ hf => ?_)
  refine lv_iconst (v := 2) hx hb d_X12_biteOf_26 (by decide) ?_
  refine lv_iload_n hx hb d_X12_biteOf_27 rfl (lv_at hl 2 rfl) ?_
  refine fm_rst Z G F hf d_X12_biteOf_28 (fun S28 H locs _ F hf => ?_)
  refine lv_aload_n hx hb d_X12_biteOf_29 rfl (lv_at hl 0 rfl) ?_
  refine fm_rgr Z G F hf fr_X12_21 d_X12_biteOf_30 (fun q30 _ hf => ?_)
  refine lv_iconst (v := 3) hx hb d_X12_biteOf_33 (by decide) ?_
  refine lv_aload_n hx hb d_X12_biteOf_34 rfl (lv_at hl 0 rfl) ?_
  refine lv_iload_n hx hb d_X12_biteOf_35 rfl (lv_at hl 1 rfl) ?_
  refine lv_iload_n hx hb d_X12_biteOf_36 rfl (lv_at hl 2 rfl) ?_
  obtain ⟨hk37, hf⟩ := fm_some hf
  refine fm_rcr G F hf (fun r ho => fm_runV (k := 2) Z G F N (As := [.int a1, .int a2]) (rest := [.int 3, .ref (ad q30)]) (c_X12_besides hE ho _) (by rw [eq_of_beq hk37]; decide) (by rw [eq_of_beq hk37]; rfl) kw_1099 kw_1101 kp_42 kw_6 kw_1102 yd_X12_besides rfl (by decide) (by decide) hl.1 (Nat.le_of_ble_eq_true rfl) d_X12_biteOf_37 (Nat.le_refl 0) (Nat.le_refl 0)) (fun x37 H locs _ F hf => ?_)
  refine fm_rst Z G F hf d_X12_biteOf_40 (fun S40 H locs _ F hf => ?_)
  refine lv_aload_n hx hb d_X12_biteOf_41 rfl (lv_at hl 0 rfl) ?_
  refine fm_rgr Z G F hf fr_X12_21 d_X12_biteOf_42 (fun q42 _ hf => ?_)
  refine lv_iconst (v := 4) hx hb d_X12_biteOf_45 (by decide) ?_
  refine lv_aload_n hx hb d_X12_biteOf_46 rfl (lv_at hl 0 rfl) ?_
  refine fm_rgr Z G F hf fr_X12_9 d_X12_biteOf_47 (fun q47 _ hf => ?_)
  refine lv_bipush (v := 15) hx hb d_X12_biteOf_50 (by decide) ?_
  refine lv_iload_n hx hb d_X12_biteOf_52 rfl (lv_at hl 1 rfl) ?_
  refine lv_iadd hx hb d_X12_biteOf_53 ?_
  refine fm_rld Z G F hf d_X12_biteOf_54 (fun x54 _ hf => ?_)
  refine fm_rst Z G F hf d_X12_biteOf_55 (fun S55 H locs _ F hf => ?_)
  refine lv_aload_n hx hb d_X12_biteOf_56 rfl (lv_at hl 0 rfl) ?_
  refine fm_rgr Z G F hf fr_X12_21 d_X12_biteOf_57 (fun q57 _ hf => ?_)
  refine lv_iconst (v := 5) hx hb d_X12_biteOf_60 (by decide) ?_
  refine lv_aload_n hx hb d_X12_biteOf_61 rfl (lv_at hl 0 rfl) ?_
  refine fm_rgr Z G F hf fr_X12_9 d_X12_biteOf_62 (fun q62 _ hf => ?_)
  refine lv_iconst (v := 0) hx hb d_X12_biteOf_65 (by decide) ?_
  refine fm_rld Z G F hf d_X12_biteOf_66 (fun x66 _ hf => ?_)
  refine lv_bipush (v := 10) hx hb d_X12_biteOf_67 (by decide) ?_
  refine lv_irem hx hb d_X12_biteOf_69 (by decide) ?_
  refine fm_rst Z G F hf d_X12_biteOf_70 (fun S70 H locs _ F hf => ?_)
  refine lv_aload_n hx hb d_X12_biteOf_71 rfl (lv_at hl 0 rfl) ?_
  refine fm_rgr Z G F hf fr_X12_9 d_X12_biteOf_72 (fun q72 _ hf => ?_)
  refine lv_iconst (v := 1) hx hb d_X12_biteOf_75 (by decide) ?_
  refine fm_rld Z G F hf d_X12_biteOf_76 (fun x76 _ hf => ?_)
  refine lv_aload_n hx hb d_X12_biteOf_77 rfl (lv_at hl 0 rfl) ?_
  refine fm_rgr Z G F hf fr_X12_9 d_X12_biteOf_78 (fun q78 _ hf => ?_)
  refine lv_bipush (v := 15) hx hb d_X12_biteOf_81 (by decide) ?_
  refine lv_iload_n hx hb d_X12_biteOf_83 rfl (lv_at hl 1 rfl) ?_
  refine lv_iadd hx hb d_X12_biteOf_84 ?_
  refine fm_rld Z G F hf d_X12_biteOf_85 (fun x85 _ hf => ?_)
  refine lv_isub hx hb d_X12_biteOf_86 ?_
  refine lv_topi (fun x87 ex87 => ?_)
  have hf := fm_let_at ex87 hf
  refine lv_istore_n (lv' := [(3, .int x87), (0, .ref (ad r0)), (1, .int a1), (2, .int a2)]) hx hb d_X12_biteOf_87 rfl hl (by decide) rfl (fun ls hl => ?_)
  refine lv_aload_n hx hb d_X12_biteOf_88 rfl (lv_at hl 1 rfl) ?_
  refine lv_sipush (v := 221) hx hb d_X12_biteOf_89 (by decide) ?_
  refine lv_iconst (v := 0) hx hb d_X12_biteOf_92 (by decide) ?_
  obtain ⟨hk93, hf⟩ := fm_some hf
  refine fm_rcr G F hf (fun r ho => fm_runV (k := 2) Z G F N (As := [.int 221, .int 0]) (rest := []) (c_X12_tellsOf hE ho _) (by rw [eq_of_beq hk93]; decide) (by rw [eq_of_beq hk93]; rfl) kw_1083 kw_1085 kp_39 kw_6 kw_1086 yd_X12_tellsOf rfl (by decide) (by decide) hl.1 (Nat.le_of_ble_eq_true rfl) d_X12_biteOf_93 (Nat.le_refl 0) (Nat.le_refl 0)) (fun x93 H locs _ F hf => ?_)
  refine lv_istore (lv' := [(4, .int x93), (3, .int x87), (0, .ref (ad r0)), (1, .int a1), (2, .int a2)]) hx hb d_X12_biteOf_96 hl (by decide) rfl (fun ls hl => ?_)
  refine lv_sipush (v := 226) hx hb d_X12_biteOf_98 (by decide) ?_
  refine lv_sipush (v := 140) hx hb d_X12_biteOf_101 (by decide) ?_
  refine lv_aload_n hx hb d_X12_biteOf_104 rfl (lv_at hl 2 rfl) ?_
  refine fm_rgr Z G F hf fr_X12_9 d_X12_biteOf_105 (fun q105 _ hf => ?_)
  refine lv_bipush (v := 27) hx hb d_X12_biteOf_108 (by decide) ?_
  refine fm_rld Z G F hf d_X12_biteOf_110 (fun x110 _ hf => ?_)
  refine lv_imul hx hb d_X12_biteOf_111 ?_
  refine lv_iadd hx hb d_X12_biteOf_112 ?_
  refine lv_topi (fun x113 ex113 => ?_)
  have hf := fm_let_at ex113 hf
  refine lv_istore (lv' := [(5, .int x113), (4, .int x93), (3, .int x87), (0, .ref (ad r0)), (1, .int a1), (2, .int a2)]) hx hb d_X12_biteOf_113 hl (by decide) rfl (fun ls hl => ?_)
  refine lv_iconst (v := 0) hx hb d_X12_biteOf_115 (by decide) ?_
  refine lv_topi (fun x116 ex116 => ?_)
  have hf := fm_let_at ex116 hf
  refine lv_istore (lv' := [(6, .int x116), (5, .int x113), (4, .int x93), (3, .int x87), (0, .ref (ad r0)), (1, .int a1), (2, .int a2)]) hx hb d_X12_biteOf_116 hl (by decide) rfl (fun ls hl => ?_)
  refine lv_iload hx hb d_X12_biteOf_118 (lv_at hl 1 rfl) ?_
  refine lv_istore (lv' := [(7, .int x113), (6, .int x116), (5, .int x113), (4, .int x93), (3, .int x87), (0, .ref (ad r0)), (1, .int a1), (2, .int a2)]) hx hb d_X12_biteOf_120 hl (by decide) rfl (fun ls hl => ?_)
  exact (hL fm_LF) r0 x87 x93 x113 x116 x113 S70 _ _ _ F (lv_sub hl [5, 4, 3, 2, 1, 0] rfl) hf
theorem d_X12_growsOf_0 : decode prog_14_method_25_code 0 = .ok (.aload_n 0, 1) := by decide +kernel
theorem d_X12_growsOf_1 : decode prog_14_method_25_code 1 = .ok (.iload_n 1, 1) := by decide +kernel
theorem d_X12_growsOf_2 : decode prog_14_method_25_code 2 = .ok (.iload_n 2, 1) := by decide +kernel
theorem d_X12_growsOf_3 : decode prog_14_method_25_code 3 = .ok (.invokevirtual 133, 3) := by decide +kernel
theorem d_X12_growsOf_6 : decode prog_14_method_25_code 6 = .ok (.istore_n 3, 1) := by decide +kernel
theorem d_X12_growsOf_7 : decode prog_14_method_25_code 7 = .ok (.iload_n 3, 1) := by decide +kernel
theorem d_X12_growsOf_8 : decode prog_14_method_25_code 8 = .ok (.aload_n 0, 1) := by decide +kernel
theorem d_X12_growsOf_9 : decode prog_14_method_25_code 9 = .ok (.getfield 9, 3) := by decide +kernel
theorem d_X12_growsOf_12 : decode prog_14_method_25_code 12 = .ok (.iconst 0, 1) := by decide +kernel
theorem d_X12_growsOf_13 : decode prog_14_method_25_code 13 = .ok (.iaload, 1) := by decide +kernel
theorem d_X12_growsOf_14 : decode prog_14_method_25_code 14 = .ok (.iconst 4, 1) := by decide +kernel
theorem d_X12_growsOf_15 : decode prog_14_method_25_code 15 = .ok (.irem, 1) := by decide +kernel
theorem d_X12_growsOf_16 : decode prog_14_method_25_code 16 = .ok (.ifCond .ne 15, 3) := by decide +kernel
theorem d_X12_growsOf_19 : decode prog_14_method_25_code 19 = .ok (.aload_n 0, 1) := by decide +kernel
theorem d_X12_growsOf_20 : decode prog_14_method_25_code 20 = .ok (.getfield 9, 3) := by decide +kernel
theorem d_X12_growsOf_23 : decode prog_14_method_25_code 23 = .ok (.bipush 34, 2) := by decide +kernel
theorem d_X12_growsOf_25 : decode prog_14_method_25_code 25 = .ok (.iload_n 1, 1) := by decide +kernel
theorem d_X12_growsOf_26 : decode prog_14_method_25_code 26 = .ok (.iadd, 1) := by decide +kernel
theorem d_X12_growsOf_27 : decode prog_14_method_25_code 27 = .ok (.iaload, 1) := by decide +kernel
theorem d_X12_growsOf_28 : decode prog_14_method_25_code 28 = .ok (.goto 4, 3) := by decide +kernel
theorem d_X12_growsOf_31 : decode prog_14_method_25_code 31 = .ok (.iconst 0, 1) := by decide +kernel
theorem d_X12_growsOf_32 : decode prog_14_method_25_code 32 = .ok (.isub, 1) := by decide +kernel
theorem d_X12_growsOf_33 : decode prog_14_method_25_code 33 = .ok (.istore 4, 2) := by decide +kernel
theorem d_X12_growsOf_35 : decode prog_14_method_25_code 35 = .ok (.iload_n 3, 1) := by decide +kernel
theorem d_X12_growsOf_36 : decode prog_14_method_25_code 36 = .ok (.iconst 2, 1) := by decide +kernel
theorem d_X12_growsOf_37 : decode prog_14_method_25_code 37 = .ok (.aload_n 0, 1) := by decide +kernel
theorem d_X12_growsOf_38 : decode prog_14_method_25_code 38 = .ok (.iload_n 1, 1) := by decide +kernel
theorem d_X12_growsOf_39 : decode prog_14_method_25_code 39 = .ok (.iload_n 2, 1) := by decide +kernel
theorem d_X12_growsOf_40 : decode prog_14_method_25_code 40 = .ok (.invokevirtual 126, 3) := by decide +kernel
theorem d_X12_growsOf_43 : decode prog_14_method_25_code 43 = .ok (.imul, 1) := by decide +kernel
theorem d_X12_growsOf_44 : decode prog_14_method_25_code 44 = .ok (.iadd, 1) := by decide +kernel
theorem d_X12_growsOf_45 : decode prog_14_method_25_code 45 = .ok (.istore 5, 2) := by decide +kernel
theorem d_X12_growsOf_47 : decode prog_14_method_25_code 47 = .ok (.aload_n 0, 1) := by decide +kernel
theorem d_X12_growsOf_48 : decode prog_14_method_25_code 48 = .ok (.getfield 9, 3) := by decide +kernel
theorem d_X12_growsOf_51 : decode prog_14_method_25_code 51 = .ok (.bipush 28, 2) := by decide +kernel
theorem d_X12_growsOf_53 : decode prog_14_method_25_code 53 = .ok (.iload_n 1, 1) := by decide +kernel
theorem d_X12_growsOf_54 : decode prog_14_method_25_code 54 = .ok (.iadd, 1) := by decide +kernel
theorem d_X12_growsOf_55 : decode prog_14_method_25_code 55 = .ok (.iaload, 1) := by decide +kernel
theorem d_X12_growsOf_56 : decode prog_14_method_25_code 56 = .ok (.tableswitch 99 1 6 #[40, 43, 47, 50, 64, 78], 40) := by decide +kernel
theorem d_X12_growsOf_96 : decode prog_14_method_25_code 96 = .ok (.iload 4, 2) := by decide +kernel
theorem d_X12_growsOf_98 : decode prog_14_method_25_code 98 = .ok (.ireturn, 1) := by decide +kernel
theorem d_X12_growsOf_99 : decode prog_14_method_25_code 99 = .ok (.iload_n 3, 1) := by decide +kernel
theorem d_X12_growsOf_100 : decode prog_14_method_25_code 100 = .ok (.iconst 2, 1) := by decide +kernel
theorem d_X12_growsOf_101 : decode prog_14_method_25_code 101 = .ok (.idiv, 1) := by decide +kernel
theorem d_X12_growsOf_102 : decode prog_14_method_25_code 102 = .ok (.ireturn, 1) := by decide +kernel
theorem d_X12_growsOf_103 : decode prog_14_method_25_code 103 = .ok (.iload 5, 2) := by decide +kernel
theorem d_X12_growsOf_105 : decode prog_14_method_25_code 105 = .ok (.ireturn, 1) := by decide +kernel
theorem d_X12_growsOf_106 : decode prog_14_method_25_code 106 = .ok (.iload_n 2, 1) := by decide +kernel
theorem d_X12_growsOf_107 : decode prog_14_method_25_code 107 = .ok (.iconst 3, 1) := by decide +kernel
theorem d_X12_growsOf_108 : decode prog_14_method_25_code 108 = .ok (.irem, 1) := by decide +kernel
theorem d_X12_growsOf_109 : decode prog_14_method_25_code 109 = .ok (.iconst 2, 1) := by decide +kernel
theorem d_X12_growsOf_110 : decode prog_14_method_25_code 110 = .ok (.if_icmp .ne 7, 3) := by decide +kernel
theorem d_X12_growsOf_113 : decode prog_14_method_25_code 113 = .ok (.iconst 0, 1) := by decide +kernel
theorem d_X12_growsOf_114 : decode prog_14_method_25_code 114 = .ok (.goto 5, 3) := by decide +kernel
theorem d_X12_growsOf_117 : decode prog_14_method_25_code 117 = .ok (.iload 4, 2) := by decide +kernel
theorem d_X12_growsOf_119 : decode prog_14_method_25_code 119 = .ok (.ireturn, 1) := by decide +kernel
theorem d_X12_growsOf_120 : decode prog_14_method_25_code 120 = .ok (.iload_n 3, 1) := by decide +kernel
theorem d_X12_growsOf_121 : decode prog_14_method_25_code 121 = .ok (.iconst 2, 1) := by decide +kernel
theorem d_X12_growsOf_122 : decode prog_14_method_25_code 122 = .ok (.idiv, 1) := by decide +kernel
theorem d_X12_growsOf_123 : decode prog_14_method_25_code 123 = .ok (.aload_n 0, 1) := by decide +kernel
theorem d_X12_growsOf_124 : decode prog_14_method_25_code 124 = .ok (.getfield 9, 3) := by decide +kernel
theorem d_X12_growsOf_127 : decode prog_14_method_25_code 127 = .ok (.bipush 34, 2) := by decide +kernel
theorem d_X12_growsOf_129 : decode prog_14_method_25_code 129 = .ok (.iload_n 1, 1) := by decide +kernel
theorem d_X12_growsOf_130 : decode prog_14_method_25_code 130 = .ok (.iadd, 1) := by decide +kernel
theorem d_X12_growsOf_131 : decode prog_14_method_25_code 131 = .ok (.iaload, 1) := by decide +kernel
theorem d_X12_growsOf_132 : decode prog_14_method_25_code 132 = .ok (.iadd, 1) := by decide +kernel
theorem d_X12_growsOf_133 : decode prog_14_method_25_code 133 = .ok (.ireturn, 1) := by decide +kernel
theorem d_X12_growsOf_134 : decode prog_14_method_25_code 134 = .ok (.iload 5, 2) := by decide +kernel
theorem d_X12_growsOf_136 : decode prog_14_method_25_code 136 = .ok (.aload_n 0, 1) := by decide +kernel
theorem d_X12_growsOf_137 : decode prog_14_method_25_code 137 = .ok (.getfield 9, 3) := by decide +kernel
theorem d_X12_growsOf_140 : decode prog_14_method_25_code 140 = .ok (.bipush 40, 2) := by decide +kernel
theorem d_X12_growsOf_142 : decode prog_14_method_25_code 142 = .ok (.iconst 4, 1) := by decide +kernel
theorem d_X12_growsOf_143 : decode prog_14_method_25_code 143 = .ok (.iload_n 1, 1) := by decide +kernel
theorem d_X12_growsOf_144 : decode prog_14_method_25_code 144 = .ok (.imul, 1) := by decide +kernel
theorem d_X12_growsOf_145 : decode prog_14_method_25_code 145 = .ok (.iadd, 1) := by decide +kernel
theorem d_X12_growsOf_146 : decode prog_14_method_25_code 146 = .ok (.iload_n 2, 1) := by decide +kernel
theorem d_X12_growsOf_147 : decode prog_14_method_25_code 147 = .ok (.iconst 4, 1) := by decide +kernel
theorem d_X12_growsOf_148 : decode prog_14_method_25_code 148 = .ok (.irem, 1) := by decide +kernel
theorem d_X12_growsOf_149 : decode prog_14_method_25_code 149 = .ok (.iadd, 1) := by decide +kernel
theorem d_X12_growsOf_150 : decode prog_14_method_25_code 150 = .ok (.iaload, 1) := by decide +kernel
theorem d_X12_growsOf_151 : decode prog_14_method_25_code 151 = .ok (.iadd, 1) := by decide +kernel
theorem d_X12_growsOf_152 : decode prog_14_method_25_code 152 = .ok (.iconst 4, 1) := by decide +kernel
theorem d_X12_growsOf_153 : decode prog_14_method_25_code 153 = .ok (.isub, 1) := by decide +kernel
theorem d_X12_growsOf_154 : decode prog_14_method_25_code 154 = .ok (.ireturn, 1) := by decide +kernel
theorem d_X12_growsOf_155 : decode prog_14_method_25_code 155 = .ok (.iload_n 3, 1) := by decide +kernel
theorem d_X12_growsOf_156 : decode prog_14_method_25_code 156 = .ok (.ireturn, 1) := by decide +kernel
def k_X12_growsOf_32 (kap lam : Nat → Nat) (go32 : Nat → Int32 → Int32 → Int32 → Int32 → Int32 → fm_M → Option (Int32 × fm_M)) (r0 : Nat) (a1 : Int32) (a2 : Int32) (a3 : Int32) (ak0 : Int32) (ak1 : Int32) (S : fm_M) : Option (Int32 × fm_M) :=
  fm_let (ak1 - ak0 : Int32) fun x33 =>
  fm_ck (kap r0 == 12) <|
  fm_b1 (m_X12_besides kap lam r0 a1 a2 S) fun x40 =>
  fm_let (a3 + (2 * x40) : Int32) fun x45 =>
  fm_gr kap 12 r0 1 S fun q48 =>
  fm_ld kap lam 13 q48 (28 + a1) S fun x55 =>
  if x55 = 1 then (
   some (x33, S)
  ) else (
   if x55 = 2 then (
    some (a3 / 2, S)
   ) else (
    if x55 = 3 then (
     some (x45, S)
    ) else (
     if x55 = 4 then (
      if (a2 - a2 / 3 * 3) = 2 then (
       some (0, S)
      ) else (
       some (x33, S)
      )
     ) else (
      if x55 = 5 then (
       fm_gr kap 12 r0 1 S fun q124 =>
       fm_ld kap lam 13 q124 (34 + a1) S fun x131 =>
       some ((a3 / 2) + x131, S)
      ) else (
       if x55 = 6 then (
        fm_gr kap 12 r0 1 S fun q137 =>
        fm_ld kap lam 13 q137 ((40 + (4 * a1)) + (a2 - a2 / 4 * 4)) S fun x150 =>
        some ((x45 + x150) - 4, S)
       ) else (
        some (a3, S)
       )
      )
     )
    )
   )
  )
def b_X12_growsOf_32 (kap lam : Nat → Nat) : Nat → Nat → Int32 → Int32 → Int32 → Int32 → Int32 → fm_M → Option (Int32 × fm_M)
  | 0 => fun _ _ _ _ _ _ _ => none
  | n + 1 => k_X12_growsOf_32 kap lam (b_X12_growsOf_32 kap lam n)
def m_X12_growsOf (kap lam : Nat → Nat) (r0 : Nat) (a1 : Int32) (a2 : Int32) (S : fm_M) : Option (Int32 × fm_M) :=
  fm_ck (kap r0 == 12) <|
  fm_bi (m_X12_biteOf kap lam r0 a1 a2 S) fun x3 S3 =>
  fm_gr kap 12 r0 1 S3 fun q9 =>
  fm_ld kap lam 13 q9 0 S3 fun x13 =>
  if (x13 - x13 / 4 * 4) = 0 then (
   fm_gr kap 12 r0 1 S3 fun q20 =>
   fm_ld kap lam 13 q20 (34 + a1) S3 fun x27 =>
   b_X12_growsOf_32 kap lam fm_LF r0 a1 a2 x3 x27 x3 S3
  ) else (
   b_X12_growsOf_32 kap lam fm_LF r0 a1 a2 x3 0 x3 S3
  )
set_option maxHeartbeats 4000000 in
set_option maxRecDepth 100000 in
theorem c_X12_growsOf {l : Launch} {D : va_G} {ids kap lam : Nat → Nat} {RL : List Nat} {ad sk sv : Nat → Nat} {S : fm_M} {r0 : Nat} {a1 : Int32} {a2 : Int32} {r : Int32} {u : fm_M} (hE : fm_E kap RL ad) (hf : m_X12_growsOf kap lam r0 a1 a2 S = some (r, u)) (sz : Nat) : fm_MI l y_X12_growsOf prog_14_method_25_code 6 (Option.some Jvm.ClassFile.FieldType.int) 2 D ids kap lam RL ad sk sv S [.ref (ad r0), .int a1, .int a2] sz r u := by
  refine fm_open rfl hE (Nat.le_of_ble_eq_true rfl) (fun p e s m args below meth c ls Z hr hlk G F N hl hsz => ?_)
  subst hsz
  obtain ⟨hx, hb, hml, hown, hts⟩ := id Z
  have hl : lv_has ls 6 [(0, .ref (ad r0)), (1, .int a1), (2, .int a2)] := hl
  generalize hQ : MQ below _ args s 0 0 (fm_A RL ad s.heap.size) = Qf
  have hL : ∀ n : Nat, (∀ (r0 : Nat) (a1 : Int32) (a2 : Int32) (a3 : Int32) (ak0 : Int32) (ak1 : Int32) (S : fm_M) (H : Heap) (locs : List Loc) (ls : Array Slot), fm_F D ids kap lam RL ad S (fm_A RL ad s.heap.size) s.heap H locs → lv_has ls 6 [(0, .ref (ad r0)), (1, .int a1), (2, .int a2), (3, .int a3)] → b_X12_growsOf_32 kap lam n r0 a1 a2 a3 ak0 ak1 S = some (r, u) → W p l e (fm_rm 2) s m args below meth c H locs 0 0 Qf (F0 m 32 ls [.int ak0, .int ak1])) := by
    intro n
    induction n with
    | zero => exact fun _ _ _ _ _ _ _ _ _ _ _ _ hf => absurd hf (by intro h; cases h)
    | succ n ih =>
      intro r0 a1 a2 a3 ak0 ak1 S H locs ls F hl hf
      have hf : k_X12_growsOf_32 kap lam (b_X12_growsOf_32 kap lam n) r0 a1 a2 a3 ak0 ak1 S = some (r, u) := hf
      unfold k_X12_growsOf_32 at hf
      refine lv_isub hx hb d_X12_growsOf_32 ?_
      refine lv_topi (fun x33 ex33 => ?_)
      have hf := fm_let_at ex33 hf
      refine lv_istore (lv' := [(4, .int x33), (0, .ref (ad r0)), (1, .int a1), (2, .int a2), (3, .int a3)]) hx hb d_X12_growsOf_33 hl (by decide) rfl (fun ls hl => ?_)
      refine lv_iload_n hx hb d_X12_growsOf_35 rfl (lv_at hl 4 rfl) ?_
      refine lv_iconst (v := 2) hx hb d_X12_growsOf_36 (by decide) ?_
      refine lv_aload_n hx hb d_X12_growsOf_37 rfl (lv_at hl 1 rfl) ?_
      refine lv_iload_n hx hb d_X12_growsOf_38 rfl (lv_at hl 2 rfl) ?_
      refine lv_iload_n hx hb d_X12_growsOf_39 rfl (lv_at hl 3 rfl) ?_
      obtain ⟨hk40, hf⟩ := fm_some hf
      refine fm_rcr G F hf (fun r ho => fm_runV (k := 2) Z G F N (As := [.int a1, .int a2]) (rest := [.int 2, .int a3]) (c_X12_besides hE ho _) (by rw [eq_of_beq hk40]; decide) (by rw [eq_of_beq hk40]; rfl) kw_1099 kw_1101 kp_42 kw_6 kw_1102 yd_X12_besides rfl (by decide) (by decide) hl.1 (Nat.le_of_ble_eq_true rfl) d_X12_growsOf_40 (Nat.le_refl 0) (Nat.le_refl 0)) (fun x40 H locs _ F hf => ?_)
      refine lv_imul hx hb d_X12_growsOf_43 ?_
      refine lv_iadd hx hb d_X12_growsOf_44 ?_
      refine lv_topi (fun x45 ex45 => ?_)
      have hf := fm_let_at ex45 hf
      refine lv_istore (lv' := [(5, .int x45), (4, .int x33), (0, .ref (ad r0)), (1, .int a1), (2, .int a2), (3, .int a3)]) hx hb d_X12_growsOf_45 hl (by decide) rfl (fun ls hl => ?_)
      refine lv_aload_n hx hb d_X12_growsOf_47 rfl (lv_at hl 2 rfl) ?_
      refine fm_rgr Z G F hf fr_X12_9 d_X12_growsOf_48 (fun q48 _ hf => ?_)
      refine lv_bipush (v := 28) hx hb d_X12_growsOf_51 (by decide) ?_
      refine lv_iload_n hx hb d_X12_growsOf_53 rfl (lv_at hl 3 rfl) ?_
      refine lv_iadd hx hb d_X12_growsOf_54 ?_
      refine fm_rld Z G F hf d_X12_growsOf_55 (fun x55 _ hf => ?_)
      by_cases w56_1 : x55 = 1
      · have hf := fm_ip w56_1 hf
        refine lv_tableIn (off := 40) (tgt := 96) hx hb d_X12_growsOf_56 (by rw [w56_1]; decide) (by rw [w56_1]; decide) (by rw [w56_1]; rfl) (by decide) ?_
        refine lv_iload hx hb d_X12_growsOf_96 (lv_at hl 1 rfl) ?_
        rw [← hQ]; exact fm_reti Z hr hlk F d_X12_growsOf_98 (Prod.mk.inj (Option.some.inj hf)).1 (Prod.mk.inj (Option.some.inj hf)).2
      have hf := fm_ig w56_1 hf
      by_cases w56_2 : x55 = 2
      · have hf := fm_ip w56_2 hf
        refine lv_tableIn (off := 43) (tgt := 99) hx hb d_X12_growsOf_56 (by rw [w56_2]; decide) (by rw [w56_2]; decide) (by rw [w56_2]; rfl) (by decide) ?_
        refine lv_iload_n hx hb d_X12_growsOf_99 rfl (lv_at hl 5 rfl) ?_
        refine lv_iconst (v := 2) hx hb d_X12_growsOf_100 (by decide) ?_
        refine lv_idiv hx hb d_X12_growsOf_101 (by decide) ?_
        rw [← hQ]; exact fm_reti Z hr hlk F d_X12_growsOf_102 (Prod.mk.inj (Option.some.inj hf)).1 (Prod.mk.inj (Option.some.inj hf)).2
      have hf := fm_ig w56_2 hf
      by_cases w56_3 : x55 = 3
      · have hf := fm_ip w56_3 hf
        refine lv_tableIn (off := 47) (tgt := 103) hx hb d_X12_growsOf_56 (by rw [w56_3]; decide) (by rw [w56_3]; decide) (by rw [w56_3]; rfl) (by decide) ?_
        refine lv_iload hx hb d_X12_growsOf_103 (lv_at hl 0 rfl) ?_
        rw [← hQ]; exact fm_reti Z hr hlk F d_X12_growsOf_105 (Prod.mk.inj (Option.some.inj hf)).1 (Prod.mk.inj (Option.some.inj hf)).2
      have hf := fm_ig w56_3 hf
      by_cases w56_4 : x55 = 4
      · have hf := fm_ip w56_4 hf
        refine lv_tableIn (off := 50) (tgt := 106) hx hb d_X12_growsOf_56 (by rw [w56_4]; decide) (by rw [w56_4]; decide) (by rw [w56_4]; rfl) (by decide) ?_
        refine lv_iload_n hx hb d_X12_growsOf_106 rfl (lv_at hl 4 rfl) ?_
        refine lv_iconst (v := 3) hx hb d_X12_growsOf_107 (by decide) ?_
        refine lv_irem hx hb d_X12_growsOf_108 (by decide) ?_
        refine lv_iconst (v := 2) hx hb d_X12_growsOf_109 (by decide) ?_
        refine lv_icmp_ne (tgt := 117) hx hb d_X12_growsOf_110 (by decide) (fun c110 => ?_) (fun c110 => ?_)
        · have hf := fm_ig c110 hf
          refine lv_iload hx hb d_X12_growsOf_117 (lv_at hl 1 rfl) ?_
          rw [← hQ]; exact fm_reti Z hr hlk F d_X12_growsOf_119 (Prod.mk.inj (Option.some.inj hf)).1 (Prod.mk.inj (Option.some.inj hf)).2
        · have hf := fm_ip c110 hf
          refine lv_iconst (v := 0) hx hb d_X12_growsOf_113 (by decide) ?_
          refine lv_goto (tgt := 119) hx hb d_X12_growsOf_114 (by decide) ?_
          rw [← hQ]; exact fm_reti Z hr hlk F d_X12_growsOf_119 (Prod.mk.inj (Option.some.inj hf)).1 (Prod.mk.inj (Option.some.inj hf)).2
      have hf := fm_ig w56_4 hf
      by_cases w56_5 : x55 = 5
      · have hf := fm_ip w56_5 hf
        refine lv_tableIn (off := 64) (tgt := 120) hx hb d_X12_growsOf_56 (by rw [w56_5]; decide) (by rw [w56_5]; decide) (by rw [w56_5]; rfl) (by decide) ?_
        refine lv_iload_n hx hb d_X12_growsOf_120 rfl (lv_at hl 5 rfl) ?_
        refine lv_iconst (v := 2) hx hb d_X12_growsOf_121 (by decide) ?_
        refine lv_idiv hx hb d_X12_growsOf_122 (by decide) ?_
        refine lv_aload_n hx hb d_X12_growsOf_123 rfl (lv_at hl 2 rfl) ?_
        refine fm_rgr Z G F hf fr_X12_9 d_X12_growsOf_124 (fun q124 _ hf => ?_)
        refine lv_bipush (v := 34) hx hb d_X12_growsOf_127 (by decide) ?_
        refine lv_iload_n hx hb d_X12_growsOf_129 rfl (lv_at hl 3 rfl) ?_
        refine lv_iadd hx hb d_X12_growsOf_130 ?_
        refine fm_rld Z G F hf d_X12_growsOf_131 (fun x131 _ hf => ?_)
        refine lv_iadd hx hb d_X12_growsOf_132 ?_
        rw [← hQ]; exact fm_reti Z hr hlk F d_X12_growsOf_133 (Prod.mk.inj (Option.some.inj hf)).1 (Prod.mk.inj (Option.some.inj hf)).2
      have hf := fm_ig w56_5 hf
      by_cases w56_6 : x55 = 6
      · have hf := fm_ip w56_6 hf
        refine lv_tableIn (off := 78) (tgt := 134) hx hb d_X12_growsOf_56 (by rw [w56_6]; decide) (by rw [w56_6]; decide) (by rw [w56_6]; rfl) (by decide) ?_
        refine lv_iload hx hb d_X12_growsOf_134 (lv_at hl 0 rfl) ?_
        refine lv_aload_n hx hb d_X12_growsOf_136 rfl (lv_at hl 2 rfl) ?_
        refine fm_rgr Z G F hf fr_X12_9 d_X12_growsOf_137 (fun q137 _ hf => ?_)
        refine lv_bipush (v := 40) hx hb d_X12_growsOf_140 (by decide) ?_
        refine lv_iconst (v := 4) hx hb d_X12_growsOf_142 (by decide) ?_
        refine lv_iload_n hx hb d_X12_growsOf_143 rfl (lv_at hl 3 rfl) ?_
        refine lv_imul hx hb d_X12_growsOf_144 ?_
        refine lv_iadd hx hb d_X12_growsOf_145 ?_
        refine lv_iload_n hx hb d_X12_growsOf_146 rfl (lv_at hl 4 rfl) ?_
        refine lv_iconst (v := 4) hx hb d_X12_growsOf_147 (by decide) ?_
        refine lv_irem hx hb d_X12_growsOf_148 (by decide) ?_
        refine lv_iadd hx hb d_X12_growsOf_149 ?_
        refine fm_rld Z G F hf d_X12_growsOf_150 (fun x150 _ hf => ?_)
        refine lv_iadd hx hb d_X12_growsOf_151 ?_
        refine lv_iconst (v := 4) hx hb d_X12_growsOf_152 (by decide) ?_
        refine lv_isub hx hb d_X12_growsOf_153 ?_
        rw [← hQ]; exact fm_reti Z hr hlk F d_X12_growsOf_154 (Prod.mk.inj (Option.some.inj hf)).1 (Prod.mk.inj (Option.some.inj hf)).2
      have hf := fm_ig w56_6 hf
      have z56_1 := lv_neT (a := 1) w56_1 (by decide)
      have z56_2 := lv_neT (a := 2) w56_2 (by decide)
      have z56_3 := lv_neT (a := 3) w56_3 (by decide)
      have z56_4 := lv_neT (a := 4) w56_4 (by decide)
      have z56_5 := lv_neT (a := 5) w56_5 (by decide)
      have z56_6 := lv_neT (a := 6) w56_6 (by decide)
      refine lv_tableOut (tgt := 155) hx hb d_X12_growsOf_56 (by omega) (by decide) ?_
      refine lv_iload_n hx hb d_X12_growsOf_155 rfl (lv_at hl 5 rfl) ?_
      rw [← hQ]; exact fm_reti Z hr hlk F d_X12_growsOf_156 (Prod.mk.inj (Option.some.inj hf)).1 (Prod.mk.inj (Option.some.inj hf)).2
  unfold m_X12_growsOf at hf
  refine lv_aload_n hx hb d_X12_growsOf_0 rfl (lv_at hl 0 rfl) ?_
  refine lv_iload_n hx hb d_X12_growsOf_1 rfl (lv_at hl 1 rfl) ?_
  refine lv_iload_n hx hb d_X12_growsOf_2 rfl (lv_at hl 2 rfl) ?_
  obtain ⟨hk3, hf⟩ := fm_some hf
  refine fm_rci G F hf (fun r u ho => fm_runV (k := 2) Z G F N (As := [.int a1, .int a2]) (rest := []) (c_X12_biteOf hE ho _) (by rw [eq_of_beq hk3]; decide) (by rw [eq_of_beq hk3]; rfl) kw_1095 kw_1097 kp_41 kw_6 kw_1098 yd_X12_biteOf rfl (by decide) (by decide) hl.1 (Nat.le_of_ble_eq_true rfl) d_X12_growsOf_3 (Nat.le_refl 0) (Nat.le_refl 0)) (fun x3 S3 H locs _ F hf => ?_)
  refine lv_istore_n (lv' := [(3, .int x3), (0, .ref (ad r0)), (1, .int a1), (2, .int a2)]) hx hb d_X12_growsOf_6 rfl hl (by decide) rfl (fun ls hl => ?_)
  refine lv_iload_n hx hb d_X12_growsOf_7 rfl (lv_at hl 0 rfl) ?_
  refine lv_aload_n hx hb d_X12_growsOf_8 rfl (lv_at hl 1 rfl) ?_
  refine fm_rgr Z G F hf fr_X12_9 d_X12_growsOf_9 (fun q9 _ hf => ?_)
  refine lv_iconst (v := 0) hx hb d_X12_growsOf_12 (by decide) ?_
  refine fm_rld Z G F hf d_X12_growsOf_13 (fun x13 _ hf => ?_)
  refine lv_iconst (v := 4) hx hb d_X12_growsOf_14 (by decide) ?_
  refine lv_irem hx hb d_X12_growsOf_15 (by decide) ?_
  refine lv_if_ne (tgt := 31) hx hb d_X12_growsOf_16 (by decide) (fun c16 => ?_) (fun c16 => ?_)
  · have hf := fm_ig c16 hf
    refine lv_iconst (v := 0) hx hb d_X12_growsOf_31 (by decide) ?_
    exact (hL fm_LF) r0 a1 a2 x3 0 x3 S3 _ _ _ F (lv_sub hl [1, 2, 3, 0] rfl) hf
  · have hf := fm_ip c16 hf
    refine lv_aload_n hx hb d_X12_growsOf_19 rfl (lv_at hl 1 rfl) ?_
    refine fm_rgr Z G F hf fr_X12_9 d_X12_growsOf_20 (fun q20 _ hf => ?_)
    refine lv_bipush (v := 34) hx hb d_X12_growsOf_23 (by decide) ?_
    refine lv_iload_n hx hb d_X12_growsOf_25 rfl (lv_at hl 2 rfl) ?_
    refine lv_iadd hx hb d_X12_growsOf_26 ?_
    refine fm_rld Z G F hf d_X12_growsOf_27 (fun x27 _ hf => ?_)
    refine lv_goto (tgt := 32) hx hb d_X12_growsOf_28 (by decide) ?_
    exact (hL fm_LF) r0 a1 a2 x3 x27 x3 S3 _ _ _ F (lv_sub hl [1, 2, 3, 0] rfl) hf
theorem d_X12_offerOf_0 : decode prog_14_method_26_code 0 = .ok (.iconst 0, 1) := by decide +kernel
theorem d_X12_offerOf_1 : decode prog_14_method_26_code 1 = .ok (.istore_n 2, 1) := by decide +kernel
theorem d_X12_offerOf_2 : decode prog_14_method_26_code 2 = .ok (.iconst 0, 1) := by decide +kernel
theorem d_X12_offerOf_3 : decode prog_14_method_26_code 3 = .ok (.istore_n 3, 1) := by decide +kernel
theorem d_X12_offerOf_4 : decode prog_14_method_26_code 4 = .ok (.iconst 0, 1) := by decide +kernel
theorem d_X12_offerOf_5 : decode prog_14_method_26_code 5 = .ok (.istore 4, 2) := by decide +kernel
theorem d_X12_offerOf_7 : decode prog_14_method_26_code 7 = .ok (.iconst 0, 1) := by decide +kernel
theorem d_X12_offerOf_8 : decode prog_14_method_26_code 8 = .ok (.istore 5, 2) := by decide +kernel
theorem d_X12_offerOf_10 : decode prog_14_method_26_code 10 = .ok (.iload 5, 2) := by decide +kernel
theorem d_X12_offerOf_12 : decode prog_14_method_26_code 12 = .ok (.bipush 12, 2) := by decide +kernel
theorem d_X12_offerOf_14 : decode prog_14_method_26_code 14 = .ok (.if_icmp .ge 63, 3) := by decide +kernel
theorem d_X12_offerOf_17 : decode prog_14_method_26_code 17 = .ok (.aload_n 0, 1) := by decide +kernel
theorem d_X12_offerOf_18 : decode prog_14_method_26_code 18 = .ok (.getfield 9, 3) := by decide +kernel
theorem d_X12_offerOf_21 : decode prog_14_method_26_code 21 = .ok (.iconst 3, 1) := by decide +kernel
theorem d_X12_offerOf_22 : decode prog_14_method_26_code 22 = .ok (.iload_n 1, 1) := by decide +kernel
theorem d_X12_offerOf_23 : decode prog_14_method_26_code 23 = .ok (.iadd, 1) := by decide +kernel
theorem d_X12_offerOf_24 : decode prog_14_method_26_code 24 = .ok (.iaload, 1) := by decide +kernel
theorem d_X12_offerOf_25 : decode prog_14_method_26_code 25 = .ok (.iload 5, 2) := by decide +kernel
theorem d_X12_offerOf_27 : decode prog_14_method_26_code 27 = .ok (.ishr, 1) := by decide +kernel
theorem d_X12_offerOf_28 : decode prog_14_method_26_code 28 = .ok (.iconst 1, 1) := by decide +kernel
theorem d_X12_offerOf_29 : decode prog_14_method_26_code 29 = .ok (.iand, 1) := by decide +kernel
theorem d_X12_offerOf_30 : decode prog_14_method_26_code 30 = .ok (.iconst 1, 1) := by decide +kernel
theorem d_X12_offerOf_31 : decode prog_14_method_26_code 31 = .ok (.if_icmp .ne 10, 3) := by decide +kernel
theorem d_X12_offerOf_34 : decode prog_14_method_26_code 34 = .ok (.iload 4, 2) := by decide +kernel
theorem d_X12_offerOf_36 : decode prog_14_method_26_code 36 = .ok (.iconst 1, 1) := by decide +kernel
theorem d_X12_offerOf_37 : decode prog_14_method_26_code 37 = .ok (.iadd, 1) := by decide +kernel
theorem d_X12_offerOf_38 : decode prog_14_method_26_code 38 = .ok (.goto 4, 3) := by decide +kernel
theorem d_X12_offerOf_41 : decode prog_14_method_26_code 41 = .ok (.iconst 0, 1) := by decide +kernel
theorem d_X12_offerOf_42 : decode prog_14_method_26_code 42 = .ok (.istore 4, 2) := by decide +kernel
theorem d_X12_offerOf_44 : decode prog_14_method_26_code 44 = .ok (.iload_n 2, 1) := by decide +kernel
theorem d_X12_offerOf_45 : decode prog_14_method_26_code 45 = .ok (.iload 4, 2) := by decide +kernel
theorem d_X12_offerOf_47 : decode prog_14_method_26_code 47 = .ok (.iconst 1, 1) := by decide +kernel
theorem d_X12_offerOf_48 : decode prog_14_method_26_code 48 = .ok (.if_icmp .ne 7, 3) := by decide +kernel
theorem d_X12_offerOf_51 : decode prog_14_method_26_code 51 = .ok (.iconst 1, 1) := by decide +kernel
theorem d_X12_offerOf_52 : decode prog_14_method_26_code 52 = .ok (.goto 4, 3) := by decide +kernel
theorem d_X12_offerOf_55 : decode prog_14_method_26_code 55 = .ok (.iconst 0, 1) := by decide +kernel
theorem d_X12_offerOf_56 : decode prog_14_method_26_code 56 = .ok (.iadd, 1) := by decide +kernel
theorem d_X12_offerOf_57 : decode prog_14_method_26_code 57 = .ok (.istore_n 2, 1) := by decide +kernel
theorem d_X12_offerOf_58 : decode prog_14_method_26_code 58 = .ok (.iload 4, 2) := by decide +kernel
theorem d_X12_offerOf_60 : decode prog_14_method_26_code 60 = .ok (.iload_n 3, 1) := by decide +kernel
theorem d_X12_offerOf_61 : decode prog_14_method_26_code 61 = .ok (.if_icmp .le 8, 3) := by decide +kernel
theorem d_X12_offerOf_64 : decode prog_14_method_26_code 64 = .ok (.iload 4, 2) := by decide +kernel
theorem d_X12_offerOf_66 : decode prog_14_method_26_code 66 = .ok (.goto 4, 3) := by decide +kernel
theorem d_X12_offerOf_69 : decode prog_14_method_26_code 69 = .ok (.iload_n 3, 1) := by decide +kernel
theorem d_X12_offerOf_70 : decode prog_14_method_26_code 70 = .ok (.istore_n 3, 1) := by decide +kernel
theorem d_X12_offerOf_71 : decode prog_14_method_26_code 71 = .ok (.iinc 5 1, 3) := by decide +kernel
theorem d_X12_offerOf_74 : decode prog_14_method_26_code 74 = .ok (.goto (-64), 3) := by decide +kernel
theorem d_X12_offerOf_77 : decode prog_14_method_26_code 77 = .ok (.iload_n 2, 1) := by decide +kernel
theorem d_X12_offerOf_78 : decode prog_14_method_26_code 78 = .ok (.aload_n 0, 1) := by decide +kernel
theorem d_X12_offerOf_79 : decode prog_14_method_26_code 79 = .ok (.sipush 211, 3) := by decide +kernel
theorem d_X12_offerOf_82 : decode prog_14_method_26_code 82 = .ok (.iconst 3, 1) := by decide +kernel
theorem d_X12_offerOf_83 : decode prog_14_method_26_code 83 = .ok (.invokevirtual 130, 3) := by decide +kernel
theorem d_X12_offerOf_86 : decode prog_14_method_26_code 86 = .ok (.imul, 1) := by decide +kernel
theorem d_X12_offerOf_87 : decode prog_14_method_26_code 87 = .ok (.iload_n 3, 1) := by decide +kernel
theorem d_X12_offerOf_88 : decode prog_14_method_26_code 88 = .ok (.aload_n 0, 1) := by decide +kernel
theorem d_X12_offerOf_89 : decode prog_14_method_26_code 89 = .ok (.sipush 216, 3) := by decide +kernel
theorem d_X12_offerOf_92 : decode prog_14_method_26_code 92 = .ok (.iconst 2, 1) := by decide +kernel
theorem d_X12_offerOf_93 : decode prog_14_method_26_code 93 = .ok (.invokevirtual 130, 3) := by decide +kernel
theorem d_X12_offerOf_96 : decode prog_14_method_26_code 96 = .ok (.imul, 1) := by decide +kernel
theorem d_X12_offerOf_97 : decode prog_14_method_26_code 97 = .ok (.iadd, 1) := by decide +kernel
theorem d_X12_offerOf_98 : decode prog_14_method_26_code 98 = .ok (.ireturn, 1) := by decide +kernel
def k_X12_offerOf_10 (kap lam : Nat → Nat) (S : fm_M) (go10 : Nat → Int32 → Int32 → Int32 → Int32 → Int32 → Option Int32) (r0 : Nat) (a1 : Int32) (a2 : Int32) (a3 : Int32) (a4 : Int32) (a5 : Int32)  : Option Int32 :=
  if 12 ≤ a5 then (
   fm_ck (kap r0 == 12) <|
   fm_b1 (m_X12_tellsOf kap lam r0 211 3 S) fun x83 =>
   fm_ck (kap r0 == 12) <|
   fm_b1 (m_X12_tellsOf kap lam r0 216 2 S) fun x93 =>
   some ((a2 * x83) + (a3 * x93))
  ) else (
   fm_gr kap 12 r0 1 S fun q18 =>
   fm_ld kap lam 13 q18 (3 + a1) S fun x24 =>
   if ((x24 >>> (a5 &&& 31)) &&& 1) = 1 then (
    fm_let (a4 + 1 : Int32) fun x42 =>
    if x42 = 1 then (
     fm_let (a2 + 1 : Int32) fun x57 =>
     if x42 ≤ a3 then (
      fm_let (a5 + 1 : Int32) fun x71 =>
      go10 r0 a1 x57 a3 x42 x71
     ) else (
      fm_let (a5 + 1 : Int32) fun x71 =>
      go10 r0 a1 x57 x42 x42 x71
     )
    ) else (
     fm_let (a2 + 0 : Int32) fun x57 =>
     if x42 ≤ a3 then (
      fm_let (a5 + 1 : Int32) fun x71 =>
      go10 r0 a1 x57 a3 x42 x71
     ) else (
      fm_let (a5 + 1 : Int32) fun x71 =>
      go10 r0 a1 x57 x42 x42 x71
     )
    )
   ) else (
    fm_let (0 : Int32) fun x42 =>
    if x42 = 1 then (
     fm_let (a2 + 1 : Int32) fun x57 =>
     if x42 ≤ a3 then (
      fm_let (a5 + 1 : Int32) fun x71 =>
      go10 r0 a1 x57 a3 x42 x71
     ) else (
      fm_let (a5 + 1 : Int32) fun x71 =>
      go10 r0 a1 x57 x42 x42 x71
     )
    ) else (
     fm_let (a2 + 0 : Int32) fun x57 =>
     if x42 ≤ a3 then (
      fm_let (a5 + 1 : Int32) fun x71 =>
      go10 r0 a1 x57 a3 x42 x71
     ) else (
      fm_let (a5 + 1 : Int32) fun x71 =>
      go10 r0 a1 x57 x42 x42 x71
     )
    )
   )
  )
def b_X12_offerOf_10 (kap lam : Nat → Nat) (S : fm_M) : Nat → Nat → Int32 → Int32 → Int32 → Int32 → Int32 → Option Int32
  | 0 => fun _ _ _ _ _ _ => none
  | n + 1 => k_X12_offerOf_10 kap lam S (b_X12_offerOf_10 kap lam S n)
def m_X12_offerOf (kap lam : Nat → Nat) (r0 : Nat) (a1 : Int32) (S : fm_M) : Option Int32 :=
  fm_let (0 : Int32) fun x1 =>
  fm_let (0 : Int32) fun x3 =>
  fm_let (0 : Int32) fun x5 =>
  fm_let (0 : Int32) fun x8 =>
  b_X12_offerOf_10 kap lam S fm_LF r0 a1 x1 x3 x5 x8
set_option maxHeartbeats 4000000 in
set_option maxRecDepth 100000 in
theorem c_X12_offerOf {l : Launch} {D : va_G} {ids kap lam : Nat → Nat} {RL : List Nat} {ad sk sv : Nat → Nat} {S : fm_M} {r0 : Nat} {a1 : Int32} {r : Int32} (hE : fm_E kap RL ad) (hf : m_X12_offerOf kap lam r0 a1 S = some r) (sz : Nat) : fm_MI l y_X12_offerOf prog_14_method_26_code 6 (Option.some Jvm.ClassFile.FieldType.int) 1 D ids kap lam RL ad sk sv S [.ref (ad r0), .int a1] sz r S := by
  refine fm_open rfl hE (Nat.le_of_ble_eq_true rfl) (fun p e s m args below meth c ls Z hr hlk G F N hl hsz => ?_)
  subst hsz
  obtain ⟨hx, hb, hml, hown, hts⟩ := id Z
  have hl : lv_has ls 6 [(0, .ref (ad r0)), (1, .int a1)] := hl
  generalize hQ : MQ below _ args s 0 0 (fm_A RL ad s.heap.size) = Qf
  have hL : ∀ n : Nat, (∀ (r0 : Nat) (a1 : Int32) (a2 : Int32) (a3 : Int32) (a4 : Int32) (a5 : Int32)  (H : Heap) (locs : List Loc) (ls : Array Slot), fm_F D ids kap lam RL ad S (fm_A RL ad s.heap.size) s.heap H locs → lv_has ls 6 [(0, .ref (ad r0)), (1, .int a1), (2, .int a2), (3, .int a3), (4, .int a4), (5, .int a5)] → b_X12_offerOf_10 kap lam S n r0 a1 a2 a3 a4 a5 = some r → W p l e (fm_rm 1) s m args below meth c H locs 0 0 Qf (F0 m 10 ls [])) := by
    intro n
    induction n with
    | zero => exact fun _ _ _ _ _ _ _ _ _ _ _ hf => absurd hf (by intro h; cases h)
    | succ n ih =>
      intro r0 a1 a2 a3 a4 a5 H locs ls F hl hf
      have hf : k_X12_offerOf_10 kap lam S (b_X12_offerOf_10 kap lam S n) r0 a1 a2 a3 a4 a5 = some r := hf
      unfold k_X12_offerOf_10 at hf
      refine lv_iload hx hb d_X12_offerOf_10 (lv_at hl 5 rfl) ?_
      refine lv_bipush (v := 12) hx hb d_X12_offerOf_12 (by decide) ?_
      refine lv_icmp_ge (tgt := 77) hx hb d_X12_offerOf_14 (by decide) (fun c14 => ?_) (fun c14 => ?_)
      · have hf := fm_ip c14 hf
        refine lv_iload_n hx hb d_X12_offerOf_77 rfl (lv_at hl 2 rfl) ?_
        refine lv_aload_n hx hb d_X12_offerOf_78 rfl (lv_at hl 0 rfl) ?_
        refine lv_sipush (v := 211) hx hb d_X12_offerOf_79 (by decide) ?_
        refine lv_iconst (v := 3) hx hb d_X12_offerOf_82 (by decide) ?_
        obtain ⟨hk83, hf⟩ := fm_some hf
        refine fm_rcr G F hf (fun r ho => fm_runV (k := 2) Z G F N (As := [.int 211, .int 3]) (rest := [.int a2]) (c_X12_tellsOf hE ho _) (by rw [eq_of_beq hk83]; decide) (by rw [eq_of_beq hk83]; rfl) kw_1083 kw_1085 kp_39 kw_6 kw_1086 yd_X12_tellsOf rfl (by decide) (by decide) hl.1 (Nat.le_of_ble_eq_true rfl) d_X12_offerOf_83 (Nat.le_refl 0) (Nat.le_refl 0)) (fun x83 H locs _ F hf => ?_)
        refine lv_imul hx hb d_X12_offerOf_86 ?_
        refine lv_iload_n hx hb d_X12_offerOf_87 rfl (lv_at hl 3 rfl) ?_
        refine lv_aload_n hx hb d_X12_offerOf_88 rfl (lv_at hl 0 rfl) ?_
        refine lv_sipush (v := 216) hx hb d_X12_offerOf_89 (by decide) ?_
        refine lv_iconst (v := 2) hx hb d_X12_offerOf_92 (by decide) ?_
        obtain ⟨hk93, hf⟩ := fm_some hf
        refine fm_rcr G F hf (fun r ho => fm_runV (k := 2) Z G F N (As := [.int 216, .int 2]) (rest := [.int a3, .int (a2 * x83)]) (c_X12_tellsOf hE ho _) (by rw [eq_of_beq hk93]; decide) (by rw [eq_of_beq hk93]; rfl) kw_1083 kw_1085 kp_39 kw_6 kw_1086 yd_X12_tellsOf rfl (by decide) (by decide) hl.1 (Nat.le_of_ble_eq_true rfl) d_X12_offerOf_93 (Nat.le_refl 0) (Nat.le_refl 0)) (fun x93 H locs _ F hf => ?_)
        refine lv_imul hx hb d_X12_offerOf_96 ?_
        refine lv_iadd hx hb d_X12_offerOf_97 ?_
        rw [← hQ]; exact fm_reti Z hr hlk F d_X12_offerOf_98 (Option.some.inj hf) rfl
      · have hf := fm_ig c14 hf
        refine lv_aload_n hx hb d_X12_offerOf_17 rfl (lv_at hl 0 rfl) ?_
        refine fm_rgr Z G F hf fr_X12_9 d_X12_offerOf_18 (fun q18 _ hf => ?_)
        refine lv_iconst (v := 3) hx hb d_X12_offerOf_21 (by decide) ?_
        refine lv_iload_n hx hb d_X12_offerOf_22 rfl (lv_at hl 1 rfl) ?_
        refine lv_iadd hx hb d_X12_offerOf_23 ?_
        refine fm_rld Z G F hf d_X12_offerOf_24 (fun x24 _ hf => ?_)
        refine lv_iload hx hb d_X12_offerOf_25 (lv_at hl 5 rfl) ?_
        refine lv_ishr hx hb d_X12_offerOf_27 ?_
        refine lv_iconst (v := 1) hx hb d_X12_offerOf_28 (by decide) ?_
        refine lv_iand hx hb d_X12_offerOf_29 ?_
        refine lv_iconst (v := 1) hx hb d_X12_offerOf_30 (by decide) ?_
        refine lv_icmp_ne (tgt := 41) hx hb d_X12_offerOf_31 (by decide) (fun c31 => ?_) (fun c31 => ?_)
        · have hf := fm_ig c31 hf
          refine lv_iconst (v := 0) hx hb d_X12_offerOf_41 (by decide) ?_
          refine lv_topi (fun x42 ex42 => ?_)
          have hf := fm_let_at ex42 hf
          refine lv_istore (lv' := [(4, .int x42), (0, .ref (ad r0)), (1, .int a1), (2, .int a2), (3, .int a3), (5, .int a5)]) hx hb d_X12_offerOf_42 hl (by decide) rfl (fun ls hl => ?_)
          refine lv_iload_n hx hb d_X12_offerOf_44 rfl (lv_at hl 3 rfl) ?_
          refine lv_iload hx hb d_X12_offerOf_45 (lv_at hl 0 rfl) ?_
          refine lv_iconst (v := 1) hx hb d_X12_offerOf_47 (by decide) ?_
          refine lv_icmp_ne (tgt := 55) hx hb d_X12_offerOf_48 (by decide) (fun c48 => ?_) (fun c48 => ?_)
          · have hf := fm_ig c48 hf
            refine lv_iconst (v := 0) hx hb d_X12_offerOf_55 (by decide) ?_
            refine lv_iadd hx hb d_X12_offerOf_56 ?_
            refine lv_topi (fun x57 ex57 => ?_)
            have hf := fm_let_at ex57 hf
            refine lv_istore_n (lv' := [(2, .int x57), (4, .int x42), (0, .ref (ad r0)), (1, .int a1), (3, .int a3), (5, .int a5)]) hx hb d_X12_offerOf_57 rfl hl (by decide) rfl (fun ls hl => ?_)
            refine lv_iload hx hb d_X12_offerOf_58 (lv_at hl 1 rfl) ?_
            refine lv_iload_n hx hb d_X12_offerOf_60 rfl (lv_at hl 4 rfl) ?_
            refine lv_icmp_le (tgt := 69) hx hb d_X12_offerOf_61 (by decide) (fun c61 => ?_) (fun c61 => ?_)
            · have hf := fm_ip c61 hf
              refine lv_iload_n hx hb d_X12_offerOf_69 rfl (lv_at hl 4 rfl) ?_
              refine lv_istore_n (lv' := [(3, .int a3), (2, .int x57), (4, .int x42), (0, .ref (ad r0)), (1, .int a1), (5, .int a5)]) hx hb d_X12_offerOf_70 rfl hl (by decide) rfl (fun ls hl => ?_)
              obtain ⟨x71, ex71⟩ : ∃ y : Int32, y = a5 + 1 := ⟨_, rfl⟩
              have hf := fm_let_at ex71 hf
              refine lv_iinc (v := x71) (lv' := [(5, .int x71), (3, .int a3), (2, .int x57), (4, .int x42), (0, .ref (ad r0)), (1, .int a1)]) hx hb d_X12_offerOf_71 hl (k := 5) rfl (by rw [ex71]; rfl) (by decide) rfl (fun ls hl => ?_)
              refine lv_goto (tgt := 10) hx hb d_X12_offerOf_74 (by decide) ?_
              exact ih r0 a1 x57 a3 x42 x71 _ _ _ F (lv_sub hl [4, 5, 2, 1, 3, 0] rfl) hf
            · have hf := fm_ig c61 hf
              refine lv_iload hx hb d_X12_offerOf_64 (lv_at hl 1 rfl) ?_
              refine lv_goto (tgt := 70) hx hb d_X12_offerOf_66 (by decide) ?_
              refine lv_istore_n (lv' := [(3, .int x42), (2, .int x57), (4, .int x42), (0, .ref (ad r0)), (1, .int a1), (5, .int a5)]) hx hb d_X12_offerOf_70 rfl hl (by decide) rfl (fun ls hl => ?_)
              obtain ⟨x71, ex71⟩ : ∃ y : Int32, y = a5 + 1 := ⟨_, rfl⟩
              have hf := fm_let_at ex71 hf
              refine lv_iinc (v := x71) (lv' := [(5, .int x71), (3, .int x42), (2, .int x57), (4, .int x42), (0, .ref (ad r0)), (1, .int a1)]) hx hb d_X12_offerOf_71 hl (k := 5) rfl (by rw [ex71]; rfl) (by decide) rfl (fun ls hl => ?_)
              refine lv_goto (tgt := 10) hx hb d_X12_offerOf_74 (by decide) ?_
              exact ih r0 a1 x57 x42 x42 x71 _ _ _ F (lv_sub hl [4, 5, 2, 1, 3, 0] rfl) hf
          · have hf := fm_ip c48 hf
            refine lv_iconst (v := 1) hx hb d_X12_offerOf_51 (by decide) ?_
            refine lv_goto (tgt := 56) hx hb d_X12_offerOf_52 (by decide) ?_
            refine lv_iadd hx hb d_X12_offerOf_56 ?_
            refine lv_topi (fun x57 ex57 => ?_)
            have hf := fm_let_at ex57 hf
            refine lv_istore_n (lv' := [(2, .int x57), (4, .int x42), (0, .ref (ad r0)), (1, .int a1), (3, .int a3), (5, .int a5)]) hx hb d_X12_offerOf_57 rfl hl (by decide) rfl (fun ls hl => ?_)
            refine lv_iload hx hb d_X12_offerOf_58 (lv_at hl 1 rfl) ?_
            refine lv_iload_n hx hb d_X12_offerOf_60 rfl (lv_at hl 4 rfl) ?_
            refine lv_icmp_le (tgt := 69) hx hb d_X12_offerOf_61 (by decide) (fun c61 => ?_) (fun c61 => ?_)
            · have hf := fm_ip c61 hf
              refine lv_iload_n hx hb d_X12_offerOf_69 rfl (lv_at hl 4 rfl) ?_
              refine lv_istore_n (lv' := [(3, .int a3), (2, .int x57), (4, .int x42), (0, .ref (ad r0)), (1, .int a1), (5, .int a5)]) hx hb d_X12_offerOf_70 rfl hl (by decide) rfl (fun ls hl => ?_)
              obtain ⟨x71, ex71⟩ : ∃ y : Int32, y = a5 + 1 := ⟨_, rfl⟩
              have hf := fm_let_at ex71 hf
              refine lv_iinc (v := x71) (lv' := [(5, .int x71), (3, .int a3), (2, .int x57), (4, .int x42), (0, .ref (ad r0)), (1, .int a1)]) hx hb d_X12_offerOf_71 hl (k := 5) rfl (by rw [ex71]; rfl) (by decide) rfl (fun ls hl => ?_)
              refine lv_goto (tgt := 10) hx hb d_X12_offerOf_74 (by decide) ?_
              exact ih r0 a1 x57 a3 x42 x71 _ _ _ F (lv_sub hl [4, 5, 2, 1, 3, 0] rfl) hf
            · have hf := fm_ig c61 hf
              refine lv_iload hx hb d_X12_offerOf_64 (lv_at hl 1 rfl) ?_
              refine lv_goto (tgt := 70) hx hb d_X12_offerOf_66 (by decide) ?_
              refine lv_istore_n (lv' := [(3, .int x42), (2, .int x57), (4, .int x42), (0, .ref (ad r0)), (1, .int a1), (5, .int a5)]) hx hb d_X12_offerOf_70 rfl hl (by decide) rfl (fun ls hl => ?_)
              obtain ⟨x71, ex71⟩ : ∃ y : Int32, y = a5 + 1 := ⟨_, rfl⟩
              have hf := fm_let_at ex71 hf
              refine lv_iinc (v := x71) (lv' := [(5, .int x71), (3, .int x42), (2, .int x57), (4, .int x42), (0, .ref (ad r0)), (1, .int a1)]) hx hb d_X12_offerOf_71 hl (k := 5) rfl (by rw [ex71]; rfl) (by decide) rfl (fun ls hl => ?_)
              refine lv_goto (tgt := 10) hx hb d_X12_offerOf_74 (by decide) ?_
              exact ih r0 a1 x57 x42 x42 x71 _ _ _ F (lv_sub hl [4, 5, 2, 1, 3, 0] rfl) hf
        · have hf := fm_ip c31 hf
          refine lv_iload hx hb d_X12_offerOf_34 (lv_at hl 4 rfl) ?_
          refine lv_iconst (v := 1) hx hb d_X12_offerOf_36 (by decide) ?_
          refine lv_iadd hx hb d_X12_offerOf_37 ?_
          refine lv_goto (tgt := 42) hx hb d_X12_offerOf_38 (by decide) ?_
          refine lv_topi (fun x42 ex42 => ?_)
          have hf := fm_let_at ex42 hf
          refine lv_istore (lv' := [(4, .int x42), (0, .ref (ad r0)), (1, .int a1), (2, .int a2), (3, .int a3), (5, .int a5)]) hx hb d_X12_offerOf_42 hl (by decide) rfl (fun ls hl => ?_)
          refine lv_iload_n hx hb d_X12_offerOf_44 rfl (lv_at hl 3 rfl) ?_
          refine lv_iload hx hb d_X12_offerOf_45 (lv_at hl 0 rfl) ?_
          refine lv_iconst (v := 1) hx hb d_X12_offerOf_47 (by decide) ?_
          refine lv_icmp_ne (tgt := 55) hx hb d_X12_offerOf_48 (by decide) (fun c48 => ?_) (fun c48 => ?_)
          · have hf := fm_ig c48 hf
            refine lv_iconst (v := 0) hx hb d_X12_offerOf_55 (by decide) ?_
            refine lv_iadd hx hb d_X12_offerOf_56 ?_
            refine lv_topi (fun x57 ex57 => ?_)
            have hf := fm_let_at ex57 hf
            refine lv_istore_n (lv' := [(2, .int x57), (4, .int x42), (0, .ref (ad r0)), (1, .int a1), (3, .int a3), (5, .int a5)]) hx hb d_X12_offerOf_57 rfl hl (by decide) rfl (fun ls hl => ?_)
            refine lv_iload hx hb d_X12_offerOf_58 (lv_at hl 1 rfl) ?_
            refine lv_iload_n hx hb d_X12_offerOf_60 rfl (lv_at hl 4 rfl) ?_
            refine lv_icmp_le (tgt := 69) hx hb d_X12_offerOf_61 (by decide) (fun c61 => ?_) (fun c61 => ?_)
            · have hf := fm_ip c61 hf
              refine lv_iload_n hx hb d_X12_offerOf_69 rfl (lv_at hl 4 rfl) ?_
              refine lv_istore_n (lv' := [(3, .int a3), (2, .int x57), (4, .int x42), (0, .ref (ad r0)), (1, .int a1), (5, .int a5)]) hx hb d_X12_offerOf_70 rfl hl (by decide) rfl (fun ls hl => ?_)
              obtain ⟨x71, ex71⟩ : ∃ y : Int32, y = a5 + 1 := ⟨_, rfl⟩
              have hf := fm_let_at ex71 hf
              refine lv_iinc (v := x71) (lv' := [(5, .int x71), (3, .int a3), (2, .int x57), (4, .int x42), (0, .ref (ad r0)), (1, .int a1)]) hx hb d_X12_offerOf_71 hl (k := 5) rfl (by rw [ex71]; rfl) (by decide) rfl (fun ls hl => ?_)
              refine lv_goto (tgt := 10) hx hb d_X12_offerOf_74 (by decide) ?_
              exact ih r0 a1 x57 a3 x42 x71 _ _ _ F (lv_sub hl [4, 5, 2, 1, 3, 0] rfl) hf
            · have hf := fm_ig c61 hf
              refine lv_iload hx hb d_X12_offerOf_64 (lv_at hl 1 rfl) ?_
              refine lv_goto (tgt := 70) hx hb d_X12_offerOf_66 (by decide) ?_
              refine lv_istore_n (lv' := [(3, .int x42), (2, .int x57), (4, .int x42), (0, .ref (ad r0)), (1, .int a1), (5, .int a5)]) hx hb d_X12_offerOf_70 rfl hl (by decide) rfl (fun ls hl => ?_)
              obtain ⟨x71, ex71⟩ : ∃ y : Int32, y = a5 + 1 := ⟨_, rfl⟩
              have hf := fm_let_at ex71 hf
              refine lv_iinc (v := x71) (lv' := [(5, .int x71), (3, .int x42), (2, .int x57), (4, .int x42), (0, .ref (ad r0)), (1, .int a1)]) hx hb d_X12_offerOf_71 hl (k := 5) rfl (by rw [ex71]; rfl) (by decide) rfl (fun ls hl => ?_)
              refine lv_goto (tgt := 10) hx hb d_X12_offerOf_74 (by decide) ?_
              exact ih r0 a1 x57 x42 x42 x71 _ _ _ F (lv_sub hl [4, 5, 2, 1, 3, 0] rfl) hf
          · have hf := fm_ip c48 hf
            refine lv_iconst (v := 1) hx hb d_X12_offerOf_51 (by decide) ?_
            refine lv_goto (tgt := 56) hx hb d_X12_offerOf_52 (by decide) ?_
            refine lv_iadd hx hb d_X12_offerOf_56 ?_
            refine lv_topi (fun x57 ex57 => ?_)
            have hf := fm_let_at ex57 hf
            refine lv_istore_n (lv' := [(2, .int x57), (4, .int x42), (0, .ref (ad r0)), (1, .int a1), (3, .int a3), (5, .int a5)]) hx hb d_X12_offerOf_57 rfl hl (by decide) rfl (fun ls hl => ?_)
            refine lv_iload hx hb d_X12_offerOf_58 (lv_at hl 1 rfl) ?_
            refine lv_iload_n hx hb d_X12_offerOf_60 rfl (lv_at hl 4 rfl) ?_
            refine lv_icmp_le (tgt := 69) hx hb d_X12_offerOf_61 (by decide) (fun c61 => ?_) (fun c61 => ?_)
            · have hf := fm_ip c61 hf
              refine lv_iload_n hx hb d_X12_offerOf_69 rfl (lv_at hl 4 rfl) ?_
              refine lv_istore_n (lv' := [(3, .int a3), (2, .int x57), (4, .int x42), (0, .ref (ad r0)), (1, .int a1), (5, .int a5)]) hx hb d_X12_offerOf_70 rfl hl (by decide) rfl (fun ls hl => ?_)
              obtain ⟨x71, ex71⟩ : ∃ y : Int32, y = a5 + 1 := ⟨_, rfl⟩
              have hf := fm_let_at ex71 hf
              refine lv_iinc (v := x71) (lv' := [(5, .int x71), (3, .int a3), (2, .int x57), (4, .int x42), (0, .ref (ad r0)), (1, .int a1)]) hx hb d_X12_offerOf_71 hl (k := 5) rfl (by rw [ex71]; rfl) (by decide) rfl (fun ls hl => ?_)
              refine lv_goto (tgt := 10) hx hb d_X12_offerOf_74 (by decide) ?_
              exact ih r0 a1 x57 a3 x42 x71 _ _ _ F (lv_sub hl [4, 5, 2, 1, 3, 0] rfl) hf
            · have hf := fm_ig c61 hf
              refine lv_iload hx hb d_X12_offerOf_64 (lv_at hl 1 rfl) ?_
              refine lv_goto (tgt := 70) hx hb d_X12_offerOf_66 (by decide) ?_
              refine lv_istore_n (lv' := [(3, .int x42), (2, .int x57), (4, .int x42), (0, .ref (ad r0)), (1, .int a1), (5, .int a5)]) hx hb d_X12_offerOf_70 rfl hl (by decide) rfl (fun ls hl => ?_)
              obtain ⟨x71, ex71⟩ : ∃ y : Int32, y = a5 + 1 := ⟨_, rfl⟩
              have hf := fm_let_at ex71 hf
              refine lv_iinc (v := x71) (lv' := [(5, .int x71), (3, .int x42), (2, .int x57), (4, .int x42), (0, .ref (ad r0)), (1, .int a1)]) hx hb d_X12_offerOf_71 hl (k := 5) rfl (by rw [ex71]; rfl) (by decide) rfl (fun ls hl => ?_)
              refine lv_goto (tgt := 10) hx hb d_X12_offerOf_74 (by decide) ?_
              exact ih r0 a1 x57 x42 x42 x71 _ _ _ F (lv_sub hl [4, 5, 2, 1, 3, 0] rfl) hf
  unfold m_X12_offerOf at hf
  refine lv_iconst (v := 0) hx hb d_X12_offerOf_0 (by decide) ?_
  refine lv_topi (fun x1 ex1 => ?_)
  have hf := fm_let_at ex1 hf
  refine lv_istore_n (lv' := [(2, .int x1), (0, .ref (ad r0)), (1, .int a1)]) hx hb d_X12_offerOf_1 rfl hl (by decide) rfl (fun ls hl => ?_)
  refine lv_iconst (v := 0) hx hb d_X12_offerOf_2 (by decide) ?_
  refine lv_topi (fun x3 ex3 => ?_)
  have hf := fm_let_at ex3 hf
  refine lv_istore_n (lv' := [(3, .int x3), (2, .int x1), (0, .ref (ad r0)), (1, .int a1)]) hx hb d_X12_offerOf_3 rfl hl (by decide) rfl (fun ls hl => ?_)
  refine lv_iconst (v := 0) hx hb d_X12_offerOf_4 (by decide) ?_
  refine lv_topi (fun x5 ex5 => ?_)
  have hf := fm_let_at ex5 hf
  refine lv_istore (lv' := [(4, .int x5), (3, .int x3), (2, .int x1), (0, .ref (ad r0)), (1, .int a1)]) hx hb d_X12_offerOf_5 hl (by decide) rfl (fun ls hl => ?_)
  refine lv_iconst (v := 0) hx hb d_X12_offerOf_7 (by decide) ?_
  refine lv_topi (fun x8 ex8 => ?_)
  have hf := fm_let_at ex8 hf
  refine lv_istore (lv' := [(5, .int x8), (4, .int x5), (3, .int x3), (2, .int x1), (0, .ref (ad r0)), (1, .int a1)]) hx hb d_X12_offerOf_8 hl (by decide) rfl (fun ls hl => ?_)
  exact (hL fm_LF) r0 a1 x1 x3 x5 x8 _ _ _ F (lv_sub hl [4, 5, 3, 2, 1, 0] rfl) hf
theorem d_X12_offers_0 : decode prog_14_method_27_code 0 = .ok (.iconst 0, 1) := by decide +kernel
theorem d_X12_offers_1 : decode prog_14_method_27_code 1 = .ok (.istore_n 1, 1) := by decide +kernel
theorem d_X12_offers_2 : decode prog_14_method_27_code 2 = .ok (.iconst 0, 1) := by decide +kernel
theorem d_X12_offers_3 : decode prog_14_method_27_code 3 = .ok (.istore_n 2, 1) := by decide +kernel
theorem d_X12_offers_4 : decode prog_14_method_27_code 4 = .ok (.iload_n 2, 1) := by decide +kernel
theorem d_X12_offers_5 : decode prog_14_method_27_code 5 = .ok (.aload_n 0, 1) := by decide +kernel
theorem d_X12_offers_6 : decode prog_14_method_27_code 6 = .ok (.getfield 9, 3) := by decide +kernel
theorem d_X12_offers_9 : decode prog_14_method_27_code 9 = .ok (.bipush 21, 2) := by decide +kernel
theorem d_X12_offers_11 : decode prog_14_method_27_code 11 = .ok (.iaload, 1) := by decide +kernel
theorem d_X12_offers_12 : decode prog_14_method_27_code 12 = .ok (.if_icmp .ge 17, 3) := by decide +kernel
theorem d_X12_offers_15 : decode prog_14_method_27_code 15 = .ok (.iload_n 1, 1) := by decide +kernel
theorem d_X12_offers_16 : decode prog_14_method_27_code 16 = .ok (.aload_n 0, 1) := by decide +kernel
theorem d_X12_offers_17 : decode prog_14_method_27_code 17 = .ok (.iload_n 2, 1) := by decide +kernel
theorem d_X12_offers_18 : decode prog_14_method_27_code 18 = .ok (.invokevirtual 136, 3) := by decide +kernel
theorem d_X12_offers_21 : decode prog_14_method_27_code 21 = .ok (.iadd, 1) := by decide +kernel
theorem d_X12_offers_22 : decode prog_14_method_27_code 22 = .ok (.istore_n 1, 1) := by decide +kernel
theorem d_X12_offers_23 : decode prog_14_method_27_code 23 = .ok (.iinc 2 1, 3) := by decide +kernel
theorem d_X12_offers_26 : decode prog_14_method_27_code 26 = .ok (.goto (-22), 3) := by decide +kernel
theorem d_X12_offers_29 : decode prog_14_method_27_code 29 = .ok (.iload_n 1, 1) := by decide +kernel
theorem d_X12_offers_30 : decode prog_14_method_27_code 30 = .ok (.ireturn, 1) := by decide +kernel
def k_X12_offers_4 (kap lam : Nat → Nat) (S : fm_M) (go4 : Nat → Int32 → Int32 → Option Int32) (r0 : Nat) (a1 : Int32) (a2 : Int32)  : Option Int32 :=
  fm_gr kap 12 r0 1 S fun q6 =>
  fm_ld kap lam 13 q6 21 S fun x11 =>
  if x11 ≤ a2 then (
   some a1
  ) else (
   fm_ck (kap r0 == 12) <|
   fm_b1 (m_X12_offerOf kap lam r0 a2 S) fun x18 =>
   fm_let (a1 + x18 : Int32) fun x22 =>
   fm_let (a2 + 1 : Int32) fun x23 =>
   go4 r0 x22 x23
  )
def b_X12_offers_4 (kap lam : Nat → Nat) (S : fm_M) : Nat → Nat → Int32 → Int32 → Option Int32
  | 0 => fun _ _ _ => none
  | n + 1 => k_X12_offers_4 kap lam S (b_X12_offers_4 kap lam S n)
def m_X12_offers (kap lam : Nat → Nat) (r0 : Nat) (S : fm_M) : Option Int32 :=
  fm_let (0 : Int32) fun x1 =>
  fm_let (0 : Int32) fun x3 =>
  b_X12_offers_4 kap lam S fm_LF r0 x1 x3
set_option maxHeartbeats 4000000 in
set_option maxRecDepth 100000 in
theorem c_X12_offers {l : Launch} {D : va_G} {ids kap lam : Nat → Nat} {RL : List Nat} {ad sk sv : Nat → Nat} {S : fm_M} {r0 : Nat} {r : Int32} (hE : fm_E kap RL ad) (hf : m_X12_offers kap lam r0 S = some r) (sz : Nat) : fm_MI l y_X12_offers prog_14_method_27_code 3 (Option.some Jvm.ClassFile.FieldType.int) 2 D ids kap lam RL ad sk sv S [.ref (ad r0)] sz r S := by
  refine fm_open rfl hE (Nat.le_of_ble_eq_true rfl) (fun p e s m args below meth c ls Z hr hlk G F N hl hsz => ?_)
  subst hsz
  obtain ⟨hx, hb, hml, hown, hts⟩ := id Z
  have hl : lv_has ls 3 [(0, .ref (ad r0))] := hl
  generalize hQ : MQ below _ args s 0 0 (fm_A RL ad s.heap.size) = Qf
  have hL : ∀ n : Nat, (∀ (r0 : Nat) (a1 : Int32) (a2 : Int32)  (H : Heap) (locs : List Loc) (ls : Array Slot), fm_F D ids kap lam RL ad S (fm_A RL ad s.heap.size) s.heap H locs → lv_has ls 3 [(0, .ref (ad r0)), (1, .int a1), (2, .int a2)] → b_X12_offers_4 kap lam S n r0 a1 a2 = some r → W p l e (fm_rm 2) s m args below meth c H locs 0 0 Qf (F0 m 4 ls [])) := by
    intro n
    induction n with
    | zero => exact fun _ _ _ _ _ _ _ _ hf => absurd hf (by intro h; cases h)
    | succ n ih =>
      intro r0 a1 a2 H locs ls F hl hf
      have hf : k_X12_offers_4 kap lam S (b_X12_offers_4 kap lam S n) r0 a1 a2 = some r := hf
      unfold k_X12_offers_4 at hf
      refine lv_iload_n hx hb d_X12_offers_4 rfl (lv_at hl 2 rfl) ?_
      refine lv_aload_n hx hb d_X12_offers_5 rfl (lv_at hl 0 rfl) ?_
      refine fm_rgr Z G F hf fr_X12_9 d_X12_offers_6 (fun q6 _ hf => ?_)
      refine lv_bipush (v := 21) hx hb d_X12_offers_9 (by decide) ?_
      refine fm_rld Z G F hf d_X12_offers_11 (fun x11 _ hf => ?_)
      refine lv_icmp_ge (tgt := 29) hx hb d_X12_offers_12 (by decide) (fun c12 => ?_) (fun c12 => ?_)
      · have hf := fm_ip c12 hf
        refine lv_iload_n hx hb d_X12_offers_29 rfl (lv_at hl 1 rfl) ?_
        rw [← hQ]; exact fm_reti Z hr hlk F d_X12_offers_30 (Option.some.inj hf) rfl
      · have hf := fm_ig c12 hf
        refine lv_iload_n hx hb d_X12_offers_15 rfl (lv_at hl 1 rfl) ?_
        refine lv_aload_n hx hb d_X12_offers_16 rfl (lv_at hl 0 rfl) ?_
        refine lv_iload_n hx hb d_X12_offers_17 rfl (lv_at hl 2 rfl) ?_
        obtain ⟨hk18, hf⟩ := fm_some hf
        refine fm_rcr G F hf (fun r ho => fm_runV (k := 1) Z G F N (As := [.int a2]) (rest := [.int a1]) (c_X12_offerOf hE ho _) (by rw [eq_of_beq hk18]; decide) (by rw [eq_of_beq hk18]; rfl) kw_1079 kw_1081 kp_38 kw_6 kw_1082 yd_X12_offerOf rfl (by decide) (by decide) hl.1 (Nat.le_of_ble_eq_true rfl) d_X12_offers_18 (Nat.le_refl 0) (Nat.le_refl 0)) (fun x18 H locs _ F hf => ?_)
        refine lv_iadd hx hb d_X12_offers_21 ?_
        refine lv_topi (fun x22 ex22 => ?_)
        have hf := fm_let_at ex22 hf
        refine lv_istore_n (lv' := [(1, .int x22), (0, .ref (ad r0)), (2, .int a2)]) hx hb d_X12_offers_22 rfl hl (by decide) rfl (fun ls hl => ?_)
        obtain ⟨x23, ex23⟩ : ∃ y : Int32, y = a2 + 1 := ⟨_, rfl⟩
        have hf := fm_let_at ex23 hf
        refine lv_iinc (v := x23) (lv' := [(2, .int x23), (1, .int x22), (0, .ref (ad r0))]) hx hb d_X12_offers_23 hl (k := 2) rfl (by rw [ex23]; rfl) (by decide) rfl (fun ls hl => ?_)
        refine lv_goto (tgt := 4) hx hb d_X12_offers_26 (by decide) ?_
        exact ih r0 x22 x23 _ _ _ F (lv_sub hl [2, 1, 0] rfl) hf
  unfold m_X12_offers at hf
  refine lv_iconst (v := 0) hx hb d_X12_offers_0 (by decide) ?_
  refine lv_topi (fun x1 ex1 => ?_)
  have hf := fm_let_at ex1 hf
  refine lv_istore_n (lv' := [(1, .int x1), (0, .ref (ad r0))]) hx hb d_X12_offers_1 rfl hl (by decide) rfl (fun ls hl => ?_)
  refine lv_iconst (v := 0) hx hb d_X12_offers_2 (by decide) ?_
  refine lv_topi (fun x3 ex3 => ?_)
  have hf := fm_let_at ex3 hf
  refine lv_istore_n (lv' := [(2, .int x3), (1, .int x1), (0, .ref (ad r0))]) hx hb d_X12_offers_3 rfl hl (by decide) rfl (fun ls hl => ?_)
  exact (hL fm_LF) r0 x1 x3 _ _ _ F (lv_sub hl [2, 1, 0] rfl) hf
theorem d_X12_becomes_0 : decode prog_14_method_28_code 0 = .ok (.aload_n 0, 1) := by decide +kernel
theorem d_X12_becomes_1 : decode prog_14_method_28_code 1 = .ok (.getfield 9, 3) := by decide +kernel
theorem d_X12_becomes_4 : decode prog_14_method_28_code 4 = .ok (.iload_n 1, 1) := by decide +kernel
theorem d_X12_becomes_5 : decode prog_14_method_28_code 5 = .ok (.iaload, 1) := by decide +kernel
theorem d_X12_becomes_6 : decode prog_14_method_28_code 6 = .ok (.istore_n 3, 1) := by decide +kernel
theorem d_X12_becomes_7 : decode prog_14_method_28_code 7 = .ok (.aload_n 0, 1) := by decide +kernel
theorem d_X12_becomes_8 : decode prog_14_method_28_code 8 = .ok (.getfield 9, 3) := by decide +kernel
theorem d_X12_becomes_11 : decode prog_14_method_28_code 11 = .ok (.iload_n 1, 1) := by decide +kernel
theorem d_X12_becomes_12 : decode prog_14_method_28_code 12 = .ok (.iload_n 2, 1) := by decide +kernel
theorem d_X12_becomes_13 : decode prog_14_method_28_code 13 = .ok (.iastore, 1) := by decide +kernel
theorem d_X12_becomes_14 : decode prog_14_method_28_code 14 = .ok (.iload_n 3, 1) := by decide +kernel
theorem d_X12_becomes_15 : decode prog_14_method_28_code 15 = .ok (.ireturn, 1) := by decide +kernel
def m_X12_becomes (kap lam : Nat → Nat) (r0 : Nat) (a1 : Int32) (a2 : Int32) (S : fm_M) : Option (Int32 × fm_M) :=
  fm_gr kap 12 r0 1 S fun q1 =>
  fm_ld kap lam 13 q1 a1 S fun x5 =>
  fm_gr kap 12 r0 1 S fun q8 =>
  fm_st kap lam q8 a1 a2 S fun S13 =>
  some (x5, S13)
set_option maxHeartbeats 4000000 in
set_option maxRecDepth 100000 in
theorem c_X12_becomes {l : Launch} {D : va_G} {ids kap lam : Nat → Nat} {RL : List Nat} {ad sk sv : Nat → Nat} {S : fm_M} {r0 : Nat} {a1 : Int32} {a2 : Int32} {r : Int32} {u : fm_M} (hE : fm_E kap RL ad) (hf : m_X12_becomes kap lam r0 a1 a2 S = some (r, u)) (sz : Nat) : fm_MI l y_X12_becomes prog_14_method_28_code 4 (Option.some Jvm.ClassFile.FieldType.int) 0 D ids kap lam RL ad sk sv S [.ref (ad r0), .int a1, .int a2] sz r u := by
  refine fm_open rfl hE (Nat.le_of_ble_eq_true rfl) (fun p e s m args below meth c ls Z hr hlk G F N hl hsz => ?_)
  subst hsz
  obtain ⟨hx, hb, hml, hown, hts⟩ := id Z
  have hl : lv_has ls 4 [(0, .ref (ad r0)), (1, .int a1), (2, .int a2)] := hl
  unfold m_X12_becomes at hf
  refine lv_aload_n hx hb d_X12_becomes_0 rfl (lv_at hl 0 rfl) ?_
  refine fm_rgr Z G F hf fr_X12_9 d_X12_becomes_1 (fun q1 _ hf => ?_)
  refine lv_iload_n hx hb d_X12_becomes_4 rfl (lv_at hl 1 rfl) ?_
  refine fm_rld Z G F hf d_X12_becomes_5 (fun x5 _ hf => ?_)
  refine lv_istore_n (lv' := [(3, .int x5), (0, .ref (ad r0)), (1, .int a1), (2, .int a2)]) hx hb d_X12_becomes_6 rfl hl (by decide) rfl (fun ls hl => ?_)
  refine lv_aload_n hx hb d_X12_becomes_7 rfl (lv_at hl 1 rfl) ?_
  refine fm_rgr Z G F hf fr_X12_9 d_X12_becomes_8 (fun q8 _ hf => ?_)
  refine lv_iload_n hx hb d_X12_becomes_11 rfl (lv_at hl 2 rfl) ?_
  refine lv_iload_n hx hb d_X12_becomes_12 rfl (lv_at hl 3 rfl) ?_
  refine fm_rst Z G F hf d_X12_becomes_13 (fun S13 H locs _ F hf => ?_)
  refine lv_iload_n hx hb d_X12_becomes_14 rfl (lv_at hl 0 rfl) ?_
  exact fm_reti Z hr hlk F d_X12_becomes_15 (Prod.mk.inj (Option.some.inj hf)).1 (Prod.mk.inj (Option.some.inj hf)).2
theorem d_X12_pane_0 : decode prog_14_method_29_code 0 = .ok (.iload_n 1, 1) := by decide +kernel
theorem d_X12_pane_1 : decode prog_14_method_29_code 1 = .ok (.iconst 0, 1) := by decide +kernel
theorem d_X12_pane_2 : decode prog_14_method_29_code 2 = .ok (.bipush 6, 2) := by decide +kernel
theorem d_X12_pane_4 : decode prog_14_method_29_code 4 = .ok (.invokestatic 44, 3) := by decide +kernel
theorem d_X12_pane_7 : decode prog_14_method_29_code 7 = .ok (.ifCond .ne 5, 3) := by decide +kernel
theorem d_X12_pane_10 : decode prog_14_method_29_code 10 = .ok (.iconst (-1), 1) := by decide +kernel
theorem d_X12_pane_11 : decode prog_14_method_29_code 11 = .ok (.ireturn, 1) := by decide +kernel
theorem d_X12_pane_12 : decode prog_14_method_29_code 12 = .ok (.iload_n 2, 1) := by decide +kernel
theorem d_X12_pane_13 : decode prog_14_method_29_code 13 = .ok (.iconst 0, 1) := by decide +kernel
theorem d_X12_pane_14 : decode prog_14_method_29_code 14 = .ok (.bipush 9, 2) := by decide +kernel
theorem d_X12_pane_16 : decode prog_14_method_29_code 16 = .ok (.invokestatic 44, 3) := by decide +kernel
theorem d_X12_pane_19 : decode prog_14_method_29_code 19 = .ok (.ifCond .eq 13, 3) := by decide +kernel
theorem d_X12_pane_22 : decode prog_14_method_29_code 22 = .ok (.iload_n 3, 1) := by decide +kernel
theorem d_X12_pane_23 : decode prog_14_method_29_code 23 = .ok (.iconst 0, 1) := by decide +kernel
theorem d_X12_pane_24 : decode prog_14_method_29_code 24 = .ok (.bipush 9, 2) := by decide +kernel
theorem d_X12_pane_26 : decode prog_14_method_29_code 26 = .ok (.invokestatic 44, 3) := by decide +kernel
theorem d_X12_pane_29 : decode prog_14_method_29_code 29 = .ok (.ifCond .ne 6, 3) := by decide +kernel
theorem d_X12_pane_32 : decode prog_14_method_29_code 32 = .ok (.bipush (-2), 2) := by decide +kernel
theorem d_X12_pane_34 : decode prog_14_method_29_code 34 = .ok (.ireturn, 1) := by decide +kernel
theorem d_X12_pane_35 : decode prog_14_method_29_code 35 = .ok (.aload_n 0, 1) := by decide +kernel
theorem d_X12_pane_36 : decode prog_14_method_29_code 36 = .ok (.getfield 9, 3) := by decide +kernel
theorem d_X12_pane_39 : decode prog_14_method_29_code 39 = .ok (.bipush 21, 2) := by decide +kernel
theorem d_X12_pane_41 : decode prog_14_method_29_code 41 = .ok (.iaload, 1) := by decide +kernel
theorem d_X12_pane_42 : decode prog_14_method_29_code 42 = .ok (.bipush 6, 2) := by decide +kernel
theorem d_X12_pane_44 : decode prog_14_method_29_code 44 = .ok (.if_icmp .ne 6, 3) := by decide +kernel
theorem d_X12_pane_47 : decode prog_14_method_29_code 47 = .ok (.bipush (-4), 2) := by decide +kernel
theorem d_X12_pane_49 : decode prog_14_method_29_code 49 = .ok (.ireturn, 1) := by decide +kernel
theorem d_X12_pane_50 : decode prog_14_method_29_code 50 = .ok (.aload_n 0, 1) := by decide +kernel
theorem d_X12_pane_51 : decode prog_14_method_29_code 51 = .ok (.getfield 9, 3) := by decide +kernel
theorem d_X12_pane_54 : decode prog_14_method_29_code 54 = .ok (.bipush 21, 2) := by decide +kernel
theorem d_X12_pane_56 : decode prog_14_method_29_code 56 = .ok (.iaload, 1) := by decide +kernel
theorem d_X12_pane_57 : decode prog_14_method_29_code 57 = .ok (.istore 4, 2) := by decide +kernel
theorem d_X12_pane_59 : decode prog_14_method_29_code 59 = .ok (.aload_n 0, 1) := by decide +kernel
theorem d_X12_pane_60 : decode prog_14_method_29_code 60 = .ok (.getfield 9, 3) := by decide +kernel
theorem d_X12_pane_63 : decode prog_14_method_29_code 63 = .ok (.bipush 28, 2) := by decide +kernel
theorem d_X12_pane_65 : decode prog_14_method_29_code 65 = .ok (.iload 4, 2) := by decide +kernel
theorem d_X12_pane_67 : decode prog_14_method_29_code 67 = .ok (.iadd, 1) := by decide +kernel
theorem d_X12_pane_68 : decode prog_14_method_29_code 68 = .ok (.iload_n 1, 1) := by decide +kernel
theorem d_X12_pane_69 : decode prog_14_method_29_code 69 = .ok (.iastore, 1) := by decide +kernel
theorem d_X12_pane_70 : decode prog_14_method_29_code 70 = .ok (.aload_n 0, 1) := by decide +kernel
theorem d_X12_pane_71 : decode prog_14_method_29_code 71 = .ok (.getfield 9, 3) := by decide +kernel
theorem d_X12_pane_74 : decode prog_14_method_29_code 74 = .ok (.bipush 34, 2) := by decide +kernel
theorem d_X12_pane_76 : decode prog_14_method_29_code 76 = .ok (.iload 4, 2) := by decide +kernel
theorem d_X12_pane_78 : decode prog_14_method_29_code 78 = .ok (.iadd, 1) := by decide +kernel
theorem d_X12_pane_79 : decode prog_14_method_29_code 79 = .ok (.iload_n 2, 1) := by decide +kernel
theorem d_X12_pane_80 : decode prog_14_method_29_code 80 = .ok (.iastore, 1) := by decide +kernel
theorem d_X12_pane_81 : decode prog_14_method_29_code 81 = .ok (.aload_n 0, 1) := by decide +kernel
theorem d_X12_pane_82 : decode prog_14_method_29_code 82 = .ok (.getfield 9, 3) := by decide +kernel
theorem d_X12_pane_85 : decode prog_14_method_29_code 85 = .ok (.bipush 15, 2) := by decide +kernel
theorem d_X12_pane_87 : decode prog_14_method_29_code 87 = .ok (.iload 4, 2) := by decide +kernel
theorem d_X12_pane_89 : decode prog_14_method_29_code 89 = .ok (.iadd, 1) := by decide +kernel
theorem d_X12_pane_90 : decode prog_14_method_29_code 90 = .ok (.iload_n 3, 1) := by decide +kernel
theorem d_X12_pane_91 : decode prog_14_method_29_code 91 = .ok (.iastore, 1) := by decide +kernel
theorem d_X12_pane_92 : decode prog_14_method_29_code 92 = .ok (.aload_n 0, 1) := by decide +kernel
theorem d_X12_pane_93 : decode prog_14_method_29_code 93 = .ok (.getfield 9, 3) := by decide +kernel
theorem d_X12_pane_96 : decode prog_14_method_29_code 96 = .ok (.iconst 3, 1) := by decide +kernel
theorem d_X12_pane_97 : decode prog_14_method_29_code 97 = .ok (.iload 4, 2) := by decide +kernel
theorem d_X12_pane_99 : decode prog_14_method_29_code 99 = .ok (.iadd, 1) := by decide +kernel
theorem d_X12_pane_100 : decode prog_14_method_29_code 100 = .ok (.iconst 0, 1) := by decide +kernel
theorem d_X12_pane_101 : decode prog_14_method_29_code 101 = .ok (.iastore, 1) := by decide +kernel
theorem d_X12_pane_102 : decode prog_14_method_29_code 102 = .ok (.aload_n 0, 1) := by decide +kernel
theorem d_X12_pane_103 : decode prog_14_method_29_code 103 = .ok (.getfield 9, 3) := by decide +kernel
theorem d_X12_pane_106 : decode prog_14_method_29_code 106 = .ok (.bipush 9, 2) := by decide +kernel
theorem d_X12_pane_108 : decode prog_14_method_29_code 108 = .ok (.iload 4, 2) := by decide +kernel
theorem d_X12_pane_110 : decode prog_14_method_29_code 110 = .ok (.iadd, 1) := by decide +kernel
theorem d_X12_pane_111 : decode prog_14_method_29_code 111 = .ok (.iconst 0, 1) := by decide +kernel
theorem d_X12_pane_112 : decode prog_14_method_29_code 112 = .ok (.iastore, 1) := by decide +kernel
theorem d_X12_pane_113 : decode prog_14_method_29_code 113 = .ok (.iconst 0, 1) := by decide +kernel
theorem d_X12_pane_114 : decode prog_14_method_29_code 114 = .ok (.istore 5, 2) := by decide +kernel
theorem d_X12_pane_116 : decode prog_14_method_29_code 116 = .ok (.iload 5, 2) := by decide +kernel
theorem d_X12_pane_118 : decode prog_14_method_29_code 118 = .ok (.iconst 4, 1) := by decide +kernel
theorem d_X12_pane_119 : decode prog_14_method_29_code 119 = .ok (.if_icmp .ge 25, 3) := by decide +kernel
theorem d_X12_pane_122 : decode prog_14_method_29_code 122 = .ok (.aload_n 0, 1) := by decide +kernel
theorem d_X12_pane_123 : decode prog_14_method_29_code 123 = .ok (.getfield 9, 3) := by decide +kernel
theorem d_X12_pane_126 : decode prog_14_method_29_code 126 = .ok (.bipush 40, 2) := by decide +kernel
theorem d_X12_pane_128 : decode prog_14_method_29_code 128 = .ok (.iconst 4, 1) := by decide +kernel
theorem d_X12_pane_129 : decode prog_14_method_29_code 129 = .ok (.iload 4, 2) := by decide +kernel
theorem d_X12_pane_131 : decode prog_14_method_29_code 131 = .ok (.imul, 1) := by decide +kernel
theorem d_X12_pane_132 : decode prog_14_method_29_code 132 = .ok (.iadd, 1) := by decide +kernel
theorem d_X12_pane_133 : decode prog_14_method_29_code 133 = .ok (.iload 5, 2) := by decide +kernel
theorem d_X12_pane_135 : decode prog_14_method_29_code 135 = .ok (.iadd, 1) := by decide +kernel
theorem d_X12_pane_136 : decode prog_14_method_29_code 136 = .ok (.iconst 0, 1) := by decide +kernel
theorem d_X12_pane_137 : decode prog_14_method_29_code 137 = .ok (.iastore, 1) := by decide +kernel
theorem d_X12_pane_138 : decode prog_14_method_29_code 138 = .ok (.iinc 5 1, 3) := by decide +kernel
theorem d_X12_pane_141 : decode prog_14_method_29_code 141 = .ok (.goto (-25), 3) := by decide +kernel
theorem d_X12_pane_144 : decode prog_14_method_29_code 144 = .ok (.aload_n 0, 1) := by decide +kernel
theorem d_X12_pane_145 : decode prog_14_method_29_code 145 = .ok (.getfield 9, 3) := by decide +kernel
theorem d_X12_pane_148 : decode prog_14_method_29_code 148 = .ok (.bipush 21, 2) := by decide +kernel
theorem d_X12_pane_150 : decode prog_14_method_29_code 150 = .ok (.dup2, 1) := by decide +kernel
theorem d_X12_pane_151 : decode prog_14_method_29_code 151 = .ok (.iaload, 1) := by decide +kernel
theorem d_X12_pane_152 : decode prog_14_method_29_code 152 = .ok (.iconst 1, 1) := by decide +kernel
theorem d_X12_pane_153 : decode prog_14_method_29_code 153 = .ok (.iadd, 1) := by decide +kernel
theorem d_X12_pane_154 : decode prog_14_method_29_code 154 = .ok (.iastore, 1) := by decide +kernel
theorem d_X12_pane_155 : decode prog_14_method_29_code 155 = .ok (.iload 4, 2) := by decide +kernel
theorem d_X12_pane_157 : decode prog_14_method_29_code 157 = .ok (.ireturn, 1) := by decide +kernel
def k_X12_pane_116 (kap lam : Nat → Nat) (go116 : Nat → Int32 → Int32 → fm_M → Option (Int32 × fm_M)) (r0 : Nat) (a4 : Int32) (a5 : Int32)  (S : fm_M) : Option (Int32 × fm_M) :=
  if 4 ≤ a5 then (
   fm_gr kap 12 r0 1 S fun q145 =>
   fm_ld kap lam 13 q145 21 S fun x151 =>
   fm_st kap lam q145 21 (x151 + 1) S fun S154 =>
   some (a4, S154)
  ) else (
   fm_gr kap 12 r0 1 S fun q123 =>
   fm_st kap lam q123 ((40 + (4 * a4)) + a5) 0 S fun S137 =>
   fm_let (a5 + 1 : Int32) fun x138 =>
   go116 r0 a4 x138 S137
  )
def b_X12_pane_116 (kap lam : Nat → Nat) : Nat → Nat → Int32 → Int32 → fm_M → Option (Int32 × fm_M)
  | 0 => fun _ _ _ _ => none
  | n + 1 => k_X12_pane_116 kap lam (b_X12_pane_116 kap lam n)
def m_X12_pane (kap lam : Nat → Nat) (r0 : Nat) (a1 : Int32) (a2 : Int32) (a3 : Int32) (S : fm_M) : Option (Int32 × fm_M) :=
  fm_b1 (m_X12_in kap lam a1 0 6 S) fun x4 =>
  if x4 = 0 then (
   some ((-1), S)
  ) else (
   fm_b1 (m_X12_in kap lam a2 0 9 S) fun x16 =>
   if x16 = 0 then (
    some ((-2), S)
   ) else (
    fm_b1 (m_X12_in kap lam a3 0 9 S) fun x26 =>
    if x26 = 0 then (
     some ((-2), S)
    ) else (
     fm_gr kap 12 r0 1 S fun q36 =>
     fm_ld kap lam 13 q36 21 S fun x41 =>
     if x41 = 6 then (
      some ((-4), S)
     ) else (
      fm_gr kap 12 r0 1 S fun q51 =>
      fm_ld kap lam 13 q51 21 S fun x56 =>
      fm_gr kap 12 r0 1 S fun q60 =>
      fm_st kap lam q60 (28 + x56) a1 S fun S69 =>
      fm_gr kap 12 r0 1 S69 fun q71 =>
      fm_st kap lam q71 (34 + x56) a2 S69 fun S80 =>
      fm_gr kap 12 r0 1 S80 fun q82 =>
      fm_st kap lam q82 (15 + x56) a3 S80 fun S91 =>
      fm_gr kap 12 r0 1 S91 fun q93 =>
      fm_st kap lam q93 (3 + x56) 0 S91 fun S101 =>
      fm_gr kap 12 r0 1 S101 fun q103 =>
      fm_st kap lam q103 (9 + x56) 0 S101 fun S112 =>
      fm_let (0 : Int32) fun x114 =>
      b_X12_pane_116 kap lam fm_LF r0 x56 x114 S112
     )
    )
   )
  )
set_option maxHeartbeats 4000000 in
set_option maxRecDepth 100000 in
theorem c_X12_pane {l : Launch} {D : va_G} {ids kap lam : Nat → Nat} {RL : List Nat} {ad sk sv : Nat → Nat} {S : fm_M} {r0 : Nat} {a1 : Int32} {a2 : Int32} {a3 : Int32} {r : Int32} {u : fm_M} (hE : fm_E kap RL ad) (hf : m_X12_pane kap lam r0 a1 a2 a3 S = some (r, u)) (sz : Nat) : fm_MI l y_X12_pane prog_14_method_29_code 6 (Option.some Jvm.ClassFile.FieldType.int) 1 D ids kap lam RL ad sk sv S [.ref (ad r0), .int a1, .int a2, .int a3] sz r u := by
  refine fm_open rfl hE (Nat.le_of_ble_eq_true rfl) (fun p e s m args below meth c ls Z hr hlk G F N hl hsz => ?_)
  subst hsz
  obtain ⟨hx, hb, hml, hown, hts⟩ := id Z
  have hl : lv_has ls 6 [(0, .ref (ad r0)), (1, .int a1), (2, .int a2), (3, .int a3)] := hl
  generalize hQ : MQ below _ args s 0 0 (fm_A RL ad s.heap.size) = Qf
  have hL : ∀ n : Nat, (∀ (r0 : Nat) (a4 : Int32) (a5 : Int32)  (S : fm_M) (H : Heap) (locs : List Loc) (ls : Array Slot), fm_F D ids kap lam RL ad S (fm_A RL ad s.heap.size) s.heap H locs → lv_has ls 6 [(0, .ref (ad r0)), (4, .int a4), (5, .int a5)] → b_X12_pane_116 kap lam n r0 a4 a5 S = some (r, u) → W p l e (fm_rm 1) s m args below meth c H locs 0 0 Qf (F0 m 116 ls [])) := by
    intro n
    induction n with
    | zero => exact fun _ _ _ _ _ _ _ _ _ hf => absurd hf (by intro h; cases h)
    | succ n ih =>
      intro r0 a4 a5 S H locs ls F hl hf
      have hf : k_X12_pane_116 kap lam (b_X12_pane_116 kap lam n) r0 a4 a5 S = some (r, u) := hf
      unfold k_X12_pane_116 at hf
      refine lv_iload hx hb d_X12_pane_116 (lv_at hl 2 rfl) ?_
      refine lv_iconst (v := 4) hx hb d_X12_pane_118 (by decide) ?_
      refine lv_icmp_ge (tgt := 144) hx hb d_X12_pane_119 (by decide) (fun c119 => ?_) (fun c119 => ?_)
      · have hf := fm_ip c119 hf
        refine lv_aload_n hx hb d_X12_pane_144 rfl (lv_at hl 0 rfl) ?_
        refine fm_rgr Z G F hf fr_X12_9 d_X12_pane_145 (fun q145 _ hf => ?_)
        refine lv_bipush (v := 21) hx hb d_X12_pane_148 (by decide) ?_
        refine lv_dup2_11 hx hb d_X12_pane_150 rfl rfl ?_
        refine fm_rld Z G F hf d_X12_pane_151 (fun x151 _ hf => ?_)
        refine lv_iconst (v := 1) hx hb d_X12_pane_152 (by decide) ?_
        refine lv_iadd hx hb d_X12_pane_153 ?_
        refine fm_rst Z G F hf d_X12_pane_154 (fun S154 H locs _ F hf => ?_)
        refine lv_iload hx hb d_X12_pane_155 (lv_at hl 1 rfl) ?_
        rw [← hQ]; exact fm_reti Z hr hlk F d_X12_pane_157 (Prod.mk.inj (Option.some.inj hf)).1 (Prod.mk.inj (Option.some.inj hf)).2
      · have hf := fm_ig c119 hf
        refine lv_aload_n hx hb d_X12_pane_122 rfl (lv_at hl 0 rfl) ?_
        refine fm_rgr Z G F hf fr_X12_9 d_X12_pane_123 (fun q123 _ hf => ?_)
        refine lv_bipush (v := 40) hx hb d_X12_pane_126 (by decide) ?_
        refine lv_iconst (v := 4) hx hb d_X12_pane_128 (by decide) ?_
        refine lv_iload hx hb d_X12_pane_129 (lv_at hl 1 rfl) ?_
        refine lv_imul hx hb d_X12_pane_131 ?_
        refine lv_iadd hx hb d_X12_pane_132 ?_
        refine lv_iload hx hb d_X12_pane_133 (lv_at hl 2 rfl) ?_
        refine lv_iadd hx hb d_X12_pane_135 ?_
        refine lv_iconst (v := 0) hx hb d_X12_pane_136 (by decide) ?_
        refine fm_rst Z G F hf d_X12_pane_137 (fun S137 H locs _ F hf => ?_)
        obtain ⟨x138, ex138⟩ : ∃ y : Int32, y = a5 + 1 := ⟨_, rfl⟩
        have hf := fm_let_at ex138 hf
        refine lv_iinc (v := x138) (lv' := [(5, .int x138), (0, .ref (ad r0)), (4, .int a4)]) hx hb d_X12_pane_138 hl (k := 2) rfl (by rw [ex138]; rfl) (by decide) rfl (fun ls hl => ?_)
        refine lv_goto (tgt := 116) hx hb d_X12_pane_141 (by decide) ?_
        exact ih r0 a4 x138 S137 _ _ _ F (lv_sub hl [1, 2, 0] rfl) hf
  unfold m_X12_pane at hf
  refine lv_iload_n hx hb d_X12_pane_0 rfl (lv_at hl 1 rfl) ?_
  refine lv_iconst (v := 0) hx hb d_X12_pane_1 (by decide) ?_
  refine lv_bipush (v := 6) hx hb d_X12_pane_2 (by decide) ?_
  refine fm_rcr G F hf (fun r ho => fm_runS (k := 3) Z G F N (As := [.int a1, .int 0, .int 6]) (rest := []) (c_X12_in hE ho _) kw_1004 kw_1005 kw_6 kw_1006 yd_X12_in rfl (by decide) (by decide) hl.1 (Nat.le_of_ble_eq_true rfl) d_X12_pane_4 (Nat.le_refl 0) (Nat.le_refl 0)) (fun x4 H locs _ F hf => ?_)
  refine lv_if_ne (tgt := 12) hx hb d_X12_pane_7 (by decide) (fun c7 => ?_) (fun c7 => ?_)
  · have hf := fm_ig c7 hf
    refine lv_iload_n hx hb d_X12_pane_12 rfl (lv_at hl 2 rfl) ?_
    refine lv_iconst (v := 0) hx hb d_X12_pane_13 (by decide) ?_
    refine lv_bipush (v := 9) hx hb d_X12_pane_14 (by decide) ?_
    refine fm_rcr G F hf (fun r ho => fm_runS (k := 3) Z G F N (As := [.int a2, .int 0, .int 9]) (rest := []) (c_X12_in hE ho _) kw_1004 kw_1005 kw_6 kw_1006 yd_X12_in rfl (by decide) (by decide) hl.1 (Nat.le_of_ble_eq_true rfl) d_X12_pane_16 (Nat.le_refl 0) (Nat.le_refl 0)) (fun x16 H locs _ F hf => ?_)
    refine lv_if_eq (tgt := 32) hx hb d_X12_pane_19 (by decide) (fun c19 => ?_) (fun c19 => ?_)
    · have hf := fm_ip c19 hf
      refine lv_bipush (v := (-2)) hx hb d_X12_pane_32 (by decide) ?_
      rw [← hQ]; exact fm_reti Z hr hlk F d_X12_pane_34 (Prod.mk.inj (Option.some.inj hf)).1 (Prod.mk.inj (Option.some.inj hf)).2
    · have hf := fm_ig c19 hf
      refine lv_iload_n hx hb d_X12_pane_22 rfl (lv_at hl 3 rfl) ?_
      refine lv_iconst (v := 0) hx hb d_X12_pane_23 (by decide) ?_
      refine lv_bipush (v := 9) hx hb d_X12_pane_24 (by decide) ?_
      refine fm_rcr G F hf (fun r ho => fm_runS (k := 3) Z G F N (As := [.int a3, .int 0, .int 9]) (rest := []) (c_X12_in hE ho _) kw_1004 kw_1005 kw_6 kw_1006 yd_X12_in rfl (by decide) (by decide) hl.1 (Nat.le_of_ble_eq_true rfl) d_X12_pane_26 (Nat.le_refl 0) (Nat.le_refl 0)) (fun x26 H locs _ F hf => ?_)
      refine lv_if_ne (tgt := 35) hx hb d_X12_pane_29 (by decide) (fun c29 => ?_) (fun c29 => ?_)
      · have hf := fm_ig c29 hf
        refine lv_aload_n hx hb d_X12_pane_35 rfl (lv_at hl 0 rfl) ?_
        refine fm_rgr Z G F hf fr_X12_9 d_X12_pane_36 (fun q36 _ hf => ?_)
        refine lv_bipush (v := 21) hx hb d_X12_pane_39 (by decide) ?_
        refine fm_rld Z G F hf d_X12_pane_41 (fun x41 _ hf => ?_)
        refine lv_bipush (v := 6) hx hb d_X12_pane_42 (by decide) ?_
        refine lv_icmp_ne (tgt := 50) hx hb d_X12_pane_44 (by decide) (fun c44 => ?_) (fun c44 => ?_)
        · have hf := fm_ig c44 hf
          refine lv_aload_n hx hb d_X12_pane_50 rfl (lv_at hl 0 rfl) ?_
          refine fm_rgr Z G F hf fr_X12_9 d_X12_pane_51 (fun q51 _ hf => ?_)
          refine lv_bipush (v := 21) hx hb d_X12_pane_54 (by decide) ?_
          refine fm_rld Z G F hf d_X12_pane_56 (fun x56 _ hf => ?_)
          refine lv_istore (lv' := [(4, .int x56), (0, .ref (ad r0)), (1, .int a1), (2, .int a2), (3, .int a3)]) hx hb d_X12_pane_57 hl (by decide) rfl (fun ls hl => ?_)
          refine lv_aload_n hx hb d_X12_pane_59 rfl (lv_at hl 1 rfl) ?_
          refine fm_rgr Z G F hf fr_X12_9 d_X12_pane_60 (fun q60 _ hf => ?_)
          refine lv_bipush (v := 28) hx hb d_X12_pane_63 (by decide) ?_
          refine lv_iload hx hb d_X12_pane_65 (lv_at hl 0 rfl) ?_
          refine lv_iadd hx hb d_X12_pane_67 ?_
          refine lv_iload_n hx hb d_X12_pane_68 rfl (lv_at hl 2 rfl) ?_
          refine fm_rst Z G F hf d_X12_pane_69 (fun S69 H locs _ F hf => ?_)
          refine lv_aload_n hx hb d_X12_pane_70 rfl (lv_at hl 1 rfl) ?_
          refine fm_rgr Z G F hf fr_X12_9 d_X12_pane_71 (fun q71 _ hf => ?_)
          refine lv_bipush (v := 34) hx hb d_X12_pane_74 (by decide) ?_
          refine lv_iload hx hb d_X12_pane_76 (lv_at hl 0 rfl) ?_
          refine lv_iadd hx hb d_X12_pane_78 ?_
          refine lv_iload_n hx hb d_X12_pane_79 rfl (lv_at hl 3 rfl) ?_
          refine fm_rst Z G F hf d_X12_pane_80 (fun S80 H locs _ F hf => ?_)
          refine lv_aload_n hx hb d_X12_pane_81 rfl (lv_at hl 1 rfl) ?_
          refine fm_rgr Z G F hf fr_X12_9 d_X12_pane_82 (fun q82 _ hf => ?_)
          refine lv_bipush (v := 15) hx hb d_X12_pane_85 (by decide) ?_
          refine lv_iload hx hb d_X12_pane_87 (lv_at hl 0 rfl) ?_
          refine lv_iadd hx hb d_X12_pane_89 ?_
          refine lv_iload_n hx hb d_X12_pane_90 rfl (lv_at hl 4 rfl) ?_
          refine fm_rst Z G F hf d_X12_pane_91 (fun S91 H locs _ F hf => ?_)
          refine lv_aload_n hx hb d_X12_pane_92 rfl (lv_at hl 1 rfl) ?_
          refine fm_rgr Z G F hf fr_X12_9 d_X12_pane_93 (fun q93 _ hf => ?_)
          refine lv_iconst (v := 3) hx hb d_X12_pane_96 (by decide) ?_
          refine lv_iload hx hb d_X12_pane_97 (lv_at hl 0 rfl) ?_
          refine lv_iadd hx hb d_X12_pane_99 ?_
          refine lv_iconst (v := 0) hx hb d_X12_pane_100 (by decide) ?_
          refine fm_rst Z G F hf d_X12_pane_101 (fun S101 H locs _ F hf => ?_)
          refine lv_aload_n hx hb d_X12_pane_102 rfl (lv_at hl 1 rfl) ?_
          refine fm_rgr Z G F hf fr_X12_9 d_X12_pane_103 (fun q103 _ hf => ?_)
          refine lv_bipush (v := 9) hx hb d_X12_pane_106 (by decide) ?_
          refine lv_iload hx hb d_X12_pane_108 (lv_at hl 0 rfl) ?_
          refine lv_iadd hx hb d_X12_pane_110 ?_
          refine lv_iconst (v := 0) hx hb d_X12_pane_111 (by decide) ?_
          refine fm_rst Z G F hf d_X12_pane_112 (fun S112 H locs _ F hf => ?_)
          refine lv_iconst (v := 0) hx hb d_X12_pane_113 (by decide) ?_
          refine lv_topi (fun x114 ex114 => ?_)
          have hf := fm_let_at ex114 hf
          refine lv_istore (lv' := [(5, .int x114), (4, .int x56), (0, .ref (ad r0)), (1, .int a1), (2, .int a2), (3, .int a3)]) hx hb d_X12_pane_114 hl (by decide) rfl (fun ls hl => ?_)
          exact (hL fm_LF) r0 x56 x114 S112 _ _ _ F (lv_sub hl [2, 1, 0] rfl) hf
        · have hf := fm_ip c44 hf
          refine lv_bipush (v := (-4)) hx hb d_X12_pane_47 (by decide) ?_
          rw [← hQ]; exact fm_reti Z hr hlk F d_X12_pane_49 (Prod.mk.inj (Option.some.inj hf)).1 (Prod.mk.inj (Option.some.inj hf)).2
      · have hf := fm_ip c29 hf
        refine lv_bipush (v := (-2)) hx hb d_X12_pane_32 (by decide) ?_
        rw [← hQ]; exact fm_reti Z hr hlk F d_X12_pane_34 (Prod.mk.inj (Option.some.inj hf)).1 (Prod.mk.inj (Option.some.inj hf)).2
  · have hf := fm_ip c7 hf
    refine lv_iconst (v := (-1)) hx hb d_X12_pane_10 (by decide) ?_
    rw [← hQ]; exact fm_reti Z hr hlk F d_X12_pane_11 (Prod.mk.inj (Option.some.inj hf)).1 (Prod.mk.inj (Option.some.inj hf)).2
theorem d_X12_of_0 : decode prog_14_method_30_code 0 = .ok (.aload_n 0, 1) := by decide +kernel
theorem d_X12_of_1 : decode prog_14_method_30_code 1 = .ok (.iload_n 1, 1) := by decide +kernel
theorem d_X12_of_2 : decode prog_14_method_30_code 2 = .ok (.invokevirtual 140, 3) := by decide +kernel
theorem d_X12_of_5 : decode prog_14_method_30_code 5 = .ok (.ifCond .ne 5, 3) := by decide +kernel
theorem d_X12_of_8 : decode prog_14_method_30_code 8 = .ok (.iconst (-1), 1) := by decide +kernel
theorem d_X12_of_9 : decode prog_14_method_30_code 9 = .ok (.ireturn, 1) := by decide +kernel
theorem d_X12_of_10 : decode prog_14_method_30_code 10 = .ok (.iload_n 2, 1) := by decide +kernel
theorem d_X12_of_11 : decode prog_14_method_30_code 11 = .ok (.tableswitch 92 0 5 #[37, 47, 57, 67, 76, 86], 37) := by decide +kernel
theorem d_X12_of_48 : decode prog_14_method_30_code 48 = .ok (.aload_n 0, 1) := by decide +kernel
theorem d_X12_of_49 : decode prog_14_method_30_code 49 = .ok (.getfield 9, 3) := by decide +kernel
theorem d_X12_of_52 : decode prog_14_method_30_code 52 = .ok (.bipush 28, 2) := by decide +kernel
theorem d_X12_of_54 : decode prog_14_method_30_code 54 = .ok (.iload_n 1, 1) := by decide +kernel
theorem d_X12_of_55 : decode prog_14_method_30_code 55 = .ok (.iadd, 1) := by decide +kernel
theorem d_X12_of_56 : decode prog_14_method_30_code 56 = .ok (.iaload, 1) := by decide +kernel
theorem d_X12_of_57 : decode prog_14_method_30_code 57 = .ok (.ireturn, 1) := by decide +kernel
theorem d_X12_of_58 : decode prog_14_method_30_code 58 = .ok (.aload_n 0, 1) := by decide +kernel
theorem d_X12_of_59 : decode prog_14_method_30_code 59 = .ok (.getfield 9, 3) := by decide +kernel
theorem d_X12_of_62 : decode prog_14_method_30_code 62 = .ok (.bipush 34, 2) := by decide +kernel
theorem d_X12_of_64 : decode prog_14_method_30_code 64 = .ok (.iload_n 1, 1) := by decide +kernel
theorem d_X12_of_65 : decode prog_14_method_30_code 65 = .ok (.iadd, 1) := by decide +kernel
theorem d_X12_of_66 : decode prog_14_method_30_code 66 = .ok (.iaload, 1) := by decide +kernel
theorem d_X12_of_67 : decode prog_14_method_30_code 67 = .ok (.ireturn, 1) := by decide +kernel
theorem d_X12_of_68 : decode prog_14_method_30_code 68 = .ok (.aload_n 0, 1) := by decide +kernel
theorem d_X12_of_69 : decode prog_14_method_30_code 69 = .ok (.getfield 9, 3) := by decide +kernel
theorem d_X12_of_72 : decode prog_14_method_30_code 72 = .ok (.bipush 15, 2) := by decide +kernel
theorem d_X12_of_74 : decode prog_14_method_30_code 74 = .ok (.iload_n 1, 1) := by decide +kernel
theorem d_X12_of_75 : decode prog_14_method_30_code 75 = .ok (.iadd, 1) := by decide +kernel
theorem d_X12_of_76 : decode prog_14_method_30_code 76 = .ok (.iaload, 1) := by decide +kernel
theorem d_X12_of_77 : decode prog_14_method_30_code 77 = .ok (.ireturn, 1) := by decide +kernel
theorem d_X12_of_78 : decode prog_14_method_30_code 78 = .ok (.aload_n 0, 1) := by decide +kernel
theorem d_X12_of_79 : decode prog_14_method_30_code 79 = .ok (.getfield 9, 3) := by decide +kernel
theorem d_X12_of_82 : decode prog_14_method_30_code 82 = .ok (.iconst 3, 1) := by decide +kernel
theorem d_X12_of_83 : decode prog_14_method_30_code 83 = .ok (.iload_n 1, 1) := by decide +kernel
theorem d_X12_of_84 : decode prog_14_method_30_code 84 = .ok (.iadd, 1) := by decide +kernel
theorem d_X12_of_85 : decode prog_14_method_30_code 85 = .ok (.iaload, 1) := by decide +kernel
theorem d_X12_of_86 : decode prog_14_method_30_code 86 = .ok (.ireturn, 1) := by decide +kernel
theorem d_X12_of_87 : decode prog_14_method_30_code 87 = .ok (.aload_n 0, 1) := by decide +kernel
theorem d_X12_of_88 : decode prog_14_method_30_code 88 = .ok (.getfield 9, 3) := by decide +kernel
theorem d_X12_of_91 : decode prog_14_method_30_code 91 = .ok (.bipush 9, 2) := by decide +kernel
theorem d_X12_of_93 : decode prog_14_method_30_code 93 = .ok (.iload_n 1, 1) := by decide +kernel
theorem d_X12_of_94 : decode prog_14_method_30_code 94 = .ok (.iadd, 1) := by decide +kernel
theorem d_X12_of_95 : decode prog_14_method_30_code 95 = .ok (.iaload, 1) := by decide +kernel
theorem d_X12_of_96 : decode prog_14_method_30_code 96 = .ok (.ireturn, 1) := by decide +kernel
theorem d_X12_of_97 : decode prog_14_method_30_code 97 = .ok (.aload_n 0, 1) := by decide +kernel
theorem d_X12_of_98 : decode prog_14_method_30_code 98 = .ok (.iload_n 1, 1) := by decide +kernel
theorem d_X12_of_99 : decode prog_14_method_30_code 99 = .ok (.invokevirtual 136, 3) := by decide +kernel
theorem d_X12_of_102 : decode prog_14_method_30_code 102 = .ok (.ireturn, 1) := by decide +kernel
theorem d_X12_of_103 : decode prog_14_method_30_code 103 = .ok (.iconst (-1), 1) := by decide +kernel
theorem d_X12_of_104 : decode prog_14_method_30_code 104 = .ok (.ireturn, 1) := by decide +kernel
def m_X12_of (kap lam : Nat → Nat) (r0 : Nat) (a1 : Int32) (a2 : Int32) (S : fm_M) : Option Int32 :=
  fm_ck (kap r0 == 12) <|
  fm_b1 (m_X12_isPane kap lam r0 a1 S) fun x2 =>
  if x2 = 0 then (
   some (-1)
  ) else (
   if a2 = 0 then (
    fm_gr kap 12 r0 1 S fun q49 =>
    fm_ld kap lam 13 q49 (28 + a1) S fun x56 =>
    some x56
   ) else (
    if a2 = 1 then (
     fm_gr kap 12 r0 1 S fun q59 =>
     fm_ld kap lam 13 q59 (34 + a1) S fun x66 =>
     some x66
    ) else (
     if a2 = 2 then (
      fm_gr kap 12 r0 1 S fun q69 =>
      fm_ld kap lam 13 q69 (15 + a1) S fun x76 =>
      some x76
     ) else (
      if a2 = 3 then (
       fm_gr kap 12 r0 1 S fun q79 =>
       fm_ld kap lam 13 q79 (3 + a1) S fun x85 =>
       some x85
      ) else (
       if a2 = 4 then (
        fm_gr kap 12 r0 1 S fun q88 =>
        fm_ld kap lam 13 q88 (9 + a1) S fun x95 =>
        some x95
       ) else (
        if a2 = 5 then (
         fm_ck (kap r0 == 12) <|
         fm_b1 (m_X12_offerOf kap lam r0 a1 S) fun x99 =>
         some x99
        ) else (
         some (-1)
        )
       )
      )
     )
    )
   )
  )
set_option maxHeartbeats 4000000 in
set_option maxRecDepth 100000 in
theorem c_X12_of {l : Launch} {D : va_G} {ids kap lam : Nat → Nat} {RL : List Nat} {ad sk sv : Nat → Nat} {S : fm_M} {r0 : Nat} {a1 : Int32} {a2 : Int32} {r : Int32} (hE : fm_E kap RL ad) (hf : m_X12_of kap lam r0 a1 a2 S = some r) (sz : Nat) : fm_MI l y_X12_of prog_14_method_30_code 3 (Option.some Jvm.ClassFile.FieldType.int) 2 D ids kap lam RL ad sk sv S [.ref (ad r0), .int a1, .int a2] sz r S := by
  refine fm_open rfl hE (Nat.le_of_ble_eq_true rfl) (fun p e s m args below meth c ls Z hr hlk G F N hl hsz => ?_)
  subst hsz
  obtain ⟨hx, hb, hml, hown, hts⟩ := id Z
  have hl : lv_has ls 3 [(0, .ref (ad r0)), (1, .int a1), (2, .int a2)] := hl
  unfold m_X12_of at hf
  refine lv_aload_n hx hb d_X12_of_0 rfl (lv_at hl 0 rfl) ?_
  refine lv_iload_n hx hb d_X12_of_1 rfl (lv_at hl 1 rfl) ?_
  obtain ⟨hk2, hf⟩ := fm_some hf
  refine fm_rcr G F hf (fun r ho => fm_runV (k := 1) Z G F N (As := [.int a1]) (rest := []) (c_X12_isPane hE ho _) (by rw [eq_of_beq hk2]; decide) (by rw [eq_of_beq hk2]; rfl) kw_1075 kw_1077 kp_37 kw_6 kw_1078 yd_X12_isPane rfl (by decide) (by decide) hl.1 (Nat.le_of_ble_eq_true rfl) d_X12_of_2 (Nat.le_refl 0) (Nat.le_refl 0)) (fun x2 H locs _ F hf => ?_)
  refine lv_if_ne (tgt := 10) hx hb d_X12_of_5 (by decide) (fun c5 => ?_) (fun c5 => ?_)
  · have hf := fm_ig c5 hf
    refine lv_iload_n hx hb d_X12_of_10 rfl (lv_at hl 2 rfl) ?_
    by_cases w11_0 : a2 = 0
    · have hf := fm_ip w11_0 hf
      refine lv_tableIn (off := 37) (tgt := 48) hx hb d_X12_of_11 (by rw [w11_0]; decide) (by rw [w11_0]; decide) (by rw [w11_0]; rfl) (by decide) ?_
      refine lv_aload_n hx hb d_X12_of_48 rfl (lv_at hl 0 rfl) ?_
      refine fm_rgr Z G F hf fr_X12_9 d_X12_of_49 (fun q49 _ hf => ?_)
      refine lv_bipush (v := 28) hx hb d_X12_of_52 (by decide) ?_
      refine lv_iload_n hx hb d_X12_of_54 rfl (lv_at hl 1 rfl) ?_
      refine lv_iadd hx hb d_X12_of_55 ?_
      refine fm_rld Z G F hf d_X12_of_56 (fun x56 _ hf => ?_)
      exact fm_reti Z hr hlk F d_X12_of_57 (Option.some.inj hf) rfl
    have hf := fm_ig w11_0 hf
    by_cases w11_1 : a2 = 1
    · have hf := fm_ip w11_1 hf
      refine lv_tableIn (off := 47) (tgt := 58) hx hb d_X12_of_11 (by rw [w11_1]; decide) (by rw [w11_1]; decide) (by rw [w11_1]; rfl) (by decide) ?_
      refine lv_aload_n hx hb d_X12_of_58 rfl (lv_at hl 0 rfl) ?_
      refine fm_rgr Z G F hf fr_X12_9 d_X12_of_59 (fun q59 _ hf => ?_)
      refine lv_bipush (v := 34) hx hb d_X12_of_62 (by decide) ?_
      refine lv_iload_n hx hb d_X12_of_64 rfl (lv_at hl 1 rfl) ?_
      refine lv_iadd hx hb d_X12_of_65 ?_
      refine fm_rld Z G F hf d_X12_of_66 (fun x66 _ hf => ?_)
      exact fm_reti Z hr hlk F d_X12_of_67 (Option.some.inj hf) rfl
    have hf := fm_ig w11_1 hf
    by_cases w11_2 : a2 = 2
    · have hf := fm_ip w11_2 hf
      refine lv_tableIn (off := 57) (tgt := 68) hx hb d_X12_of_11 (by rw [w11_2]; decide) (by rw [w11_2]; decide) (by rw [w11_2]; rfl) (by decide) ?_
      refine lv_aload_n hx hb d_X12_of_68 rfl (lv_at hl 0 rfl) ?_
      refine fm_rgr Z G F hf fr_X12_9 d_X12_of_69 (fun q69 _ hf => ?_)
      refine lv_bipush (v := 15) hx hb d_X12_of_72 (by decide) ?_
      refine lv_iload_n hx hb d_X12_of_74 rfl (lv_at hl 1 rfl) ?_
      refine lv_iadd hx hb d_X12_of_75 ?_
      refine fm_rld Z G F hf d_X12_of_76 (fun x76 _ hf => ?_)
      exact fm_reti Z hr hlk F d_X12_of_77 (Option.some.inj hf) rfl
    have hf := fm_ig w11_2 hf
    by_cases w11_3 : a2 = 3
    · have hf := fm_ip w11_3 hf
      refine lv_tableIn (off := 67) (tgt := 78) hx hb d_X12_of_11 (by rw [w11_3]; decide) (by rw [w11_3]; decide) (by rw [w11_3]; rfl) (by decide) ?_
      refine lv_aload_n hx hb d_X12_of_78 rfl (lv_at hl 0 rfl) ?_
      refine fm_rgr Z G F hf fr_X12_9 d_X12_of_79 (fun q79 _ hf => ?_)
      refine lv_iconst (v := 3) hx hb d_X12_of_82 (by decide) ?_
      refine lv_iload_n hx hb d_X12_of_83 rfl (lv_at hl 1 rfl) ?_
      refine lv_iadd hx hb d_X12_of_84 ?_
      refine fm_rld Z G F hf d_X12_of_85 (fun x85 _ hf => ?_)
      exact fm_reti Z hr hlk F d_X12_of_86 (Option.some.inj hf) rfl
    have hf := fm_ig w11_3 hf
    by_cases w11_4 : a2 = 4
    · have hf := fm_ip w11_4 hf
      refine lv_tableIn (off := 76) (tgt := 87) hx hb d_X12_of_11 (by rw [w11_4]; decide) (by rw [w11_4]; decide) (by rw [w11_4]; rfl) (by decide) ?_
      refine lv_aload_n hx hb d_X12_of_87 rfl (lv_at hl 0 rfl) ?_
      refine fm_rgr Z G F hf fr_X12_9 d_X12_of_88 (fun q88 _ hf => ?_)
      refine lv_bipush (v := 9) hx hb d_X12_of_91 (by decide) ?_
      refine lv_iload_n hx hb d_X12_of_93 rfl (lv_at hl 1 rfl) ?_
      refine lv_iadd hx hb d_X12_of_94 ?_
      refine fm_rld Z G F hf d_X12_of_95 (fun x95 _ hf => ?_)
      exact fm_reti Z hr hlk F d_X12_of_96 (Option.some.inj hf) rfl
    have hf := fm_ig w11_4 hf
    by_cases w11_5 : a2 = 5
    · have hf := fm_ip w11_5 hf
      refine lv_tableIn (off := 86) (tgt := 97) hx hb d_X12_of_11 (by rw [w11_5]; decide) (by rw [w11_5]; decide) (by rw [w11_5]; rfl) (by decide) ?_
      refine lv_aload_n hx hb d_X12_of_97 rfl (lv_at hl 0 rfl) ?_
      refine lv_iload_n hx hb d_X12_of_98 rfl (lv_at hl 1 rfl) ?_
      obtain ⟨hk99, hf⟩ := fm_some hf
      refine fm_rcr G F hf (fun r ho => fm_runV (k := 1) Z G F N (As := [.int a1]) (rest := []) (c_X12_offerOf hE ho _) (by rw [eq_of_beq hk99]; decide) (by rw [eq_of_beq hk99]; rfl) kw_1079 kw_1081 kp_38 kw_6 kw_1082 yd_X12_offerOf rfl (by decide) (by decide) hl.1 (Nat.le_of_ble_eq_true rfl) d_X12_of_99 (Nat.le_refl 0) (Nat.le_refl 0)) (fun x99 H locs _ F hf => ?_)
      exact fm_reti Z hr hlk F d_X12_of_102 (Option.some.inj hf) rfl
    have hf := fm_ig w11_5 hf
    have z11_0 := lv_neT (a := 0) w11_0 (by decide)
    have z11_1 := lv_neT (a := 1) w11_1 (by decide)
    have z11_2 := lv_neT (a := 2) w11_2 (by decide)
    have z11_3 := lv_neT (a := 3) w11_3 (by decide)
    have z11_4 := lv_neT (a := 4) w11_4 (by decide)
    have z11_5 := lv_neT (a := 5) w11_5 (by decide)
    refine lv_tableOut (tgt := 103) hx hb d_X12_of_11 (by omega) (by decide) ?_
    refine lv_iconst (v := (-1)) hx hb d_X12_of_103 (by decide) ?_
    exact fm_reti Z hr hlk F d_X12_of_104 (Option.some.inj hf) rfl
  · have hf := fm_ip c5 hf
    refine lv_iconst (v := (-1)) hx hb d_X12_of_8 (by decide) ?_
    exact fm_reti Z hr hlk F d_X12_of_9 (Option.some.inj hf) rfl
theorem d_X12_grows_0 : decode prog_14_method_31_code 0 = .ok (.aload_n 0, 1) := by decide +kernel
theorem d_X12_grows_1 : decode prog_14_method_31_code 1 = .ok (.iload_n 1, 1) := by decide +kernel
theorem d_X12_grows_2 : decode prog_14_method_31_code 2 = .ok (.invokevirtual 140, 3) := by decide +kernel
theorem d_X12_grows_5 : decode prog_14_method_31_code 5 = .ok (.ifCond .eq 22, 3) := by decide +kernel
theorem d_X12_grows_8 : decode prog_14_method_31_code 8 = .ok (.iload_n 2, 1) := by decide +kernel
theorem d_X12_grows_9 : decode prog_14_method_31_code 9 = .ok (.iconst 0, 1) := by decide +kernel
theorem d_X12_grows_10 : decode prog_14_method_31_code 10 = .ok (.bipush 11, 2) := by decide +kernel
theorem d_X12_grows_12 : decode prog_14_method_31_code 12 = .ok (.invokestatic 44, 3) := by decide +kernel
theorem d_X12_grows_15 : decode prog_14_method_31_code 15 = .ok (.ifCond .eq 12, 3) := by decide +kernel
theorem d_X12_grows_18 : decode prog_14_method_31_code 18 = .ok (.aload_n 0, 1) := by decide +kernel
theorem d_X12_grows_19 : decode prog_14_method_31_code 19 = .ok (.iload_n 1, 1) := by decide +kernel
theorem d_X12_grows_20 : decode prog_14_method_31_code 20 = .ok (.iload_n 2, 1) := by decide +kernel
theorem d_X12_grows_21 : decode prog_14_method_31_code 21 = .ok (.invokevirtual 144, 3) := by decide +kernel
theorem d_X12_grows_24 : decode prog_14_method_31_code 24 = .ok (.goto 5, 3) := by decide +kernel
theorem d_X12_grows_27 : decode prog_14_method_31_code 27 = .ok (.ldc 147, 2) := by decide +kernel
theorem d_X12_grows_29 : decode prog_14_method_31_code 29 = .ok (.ireturn, 1) := by decide +kernel
def m_X12_grows (kap lam : Nat → Nat) (r0 : Nat) (a1 : Int32) (a2 : Int32) (S : fm_M) : Option (Int32 × fm_M) :=
  fm_ck (kap r0 == 12) <|
  fm_b1 (m_X12_isPane kap lam r0 a1 S) fun x2 =>
  if x2 = 0 then (
   some ((-999999), S)
  ) else (
   fm_b1 (m_X12_in kap lam a2 0 11 S) fun x12 =>
   if x12 = 0 then (
    some ((-999999), S)
   ) else (
    fm_ck (kap r0 == 12) <|
    fm_bi (m_X12_growsOf kap lam r0 a1 a2 S) fun x21 S21 =>
    some (x21, S21)
   )
  )
set_option maxHeartbeats 4000000 in
set_option maxRecDepth 100000 in
theorem c_X12_grows {l : Launch} {D : va_G} {ids kap lam : Nat → Nat} {RL : List Nat} {ad sk sv : Nat → Nat} {S : fm_M} {r0 : Nat} {a1 : Int32} {a2 : Int32} {r : Int32} {u : fm_M} (hE : fm_E kap RL ad) (hf : m_X12_grows kap lam r0 a1 a2 S = some (r, u)) (sz : Nat) : fm_MI l y_X12_grows prog_14_method_31_code 3 (Option.some Jvm.ClassFile.FieldType.int) 3 D ids kap lam RL ad sk sv S [.ref (ad r0), .int a1, .int a2] sz r u := by
  refine fm_open rfl hE (Nat.le_of_ble_eq_true rfl) (fun p e s m args below meth c ls Z hr hlk G F N hl hsz => ?_)
  subst hsz
  obtain ⟨hx, hb, hml, hown, hts⟩ := id Z
  have hl : lv_has ls 3 [(0, .ref (ad r0)), (1, .int a1), (2, .int a2)] := hl
  unfold m_X12_grows at hf
  refine lv_aload_n hx hb d_X12_grows_0 rfl (lv_at hl 0 rfl) ?_
  refine lv_iload_n hx hb d_X12_grows_1 rfl (lv_at hl 1 rfl) ?_
  obtain ⟨hk2, hf⟩ := fm_some hf
  refine fm_rcr G F hf (fun r ho => fm_runV (k := 1) Z G F N (As := [.int a1]) (rest := []) (c_X12_isPane hE ho _) (by rw [eq_of_beq hk2]; decide) (by rw [eq_of_beq hk2]; rfl) kw_1075 kw_1077 kp_37 kw_6 kw_1078 yd_X12_isPane rfl (by decide) (by decide) hl.1 (Nat.le_of_ble_eq_true rfl) d_X12_grows_2 (Nat.le_refl 0) (Nat.le_refl 0)) (fun x2 H locs _ F hf => ?_)
  refine lv_if_eq (tgt := 27) hx hb d_X12_grows_5 (by decide) (fun c5 => ?_) (fun c5 => ?_)
  · have hf := fm_ip c5 hf
    refine lv_ldc (v := (-999999)) hx hb hown (hts _ (fm_in kw_1103 rfl)) d_X12_grows_27 ?_
    exact fm_reti Z hr hlk F d_X12_grows_29 (Prod.mk.inj (Option.some.inj hf)).1 (Prod.mk.inj (Option.some.inj hf)).2
  · have hf := fm_ig c5 hf
    refine lv_iload_n hx hb d_X12_grows_8 rfl (lv_at hl 2 rfl) ?_
    refine lv_iconst (v := 0) hx hb d_X12_grows_9 (by decide) ?_
    refine lv_bipush (v := 11) hx hb d_X12_grows_10 (by decide) ?_
    refine fm_rcr G F hf (fun r ho => fm_runS (k := 3) Z G F N (As := [.int a2, .int 0, .int 11]) (rest := []) (c_X12_in hE ho _) kw_1004 kw_1005 kw_6 kw_1006 yd_X12_in rfl (by decide) (by decide) hl.1 (Nat.le_of_ble_eq_true rfl) d_X12_grows_12 (Nat.le_refl 0) (Nat.le_refl 0)) (fun x12 H locs _ F hf => ?_)
    refine lv_if_eq (tgt := 27) hx hb d_X12_grows_15 (by decide) (fun c15 => ?_) (fun c15 => ?_)
    · have hf := fm_ip c15 hf
      refine lv_ldc (v := (-999999)) hx hb hown (hts _ (fm_in kw_1103 rfl)) d_X12_grows_27 ?_
      exact fm_reti Z hr hlk F d_X12_grows_29 (Prod.mk.inj (Option.some.inj hf)).1 (Prod.mk.inj (Option.some.inj hf)).2
    · have hf := fm_ig c15 hf
      refine lv_aload_n hx hb d_X12_grows_18 rfl (lv_at hl 0 rfl) ?_
      refine lv_iload_n hx hb d_X12_grows_19 rfl (lv_at hl 1 rfl) ?_
      refine lv_iload_n hx hb d_X12_grows_20 rfl (lv_at hl 2 rfl) ?_
      obtain ⟨hk21, hf⟩ := fm_some hf
      refine fm_rci G F hf (fun r u ho => fm_runV (k := 2) Z G F N (As := [.int a1, .int a2]) (rest := []) (c_X12_growsOf hE ho _) (by rw [eq_of_beq hk21]; decide) (by rw [eq_of_beq hk21]; rfl) kw_1091 kw_1093 kp_40 kw_6 kw_1094 yd_X12_growsOf rfl (by decide) (by decide) hl.1 (Nat.le_of_ble_eq_true rfl) d_X12_grows_21 (Nat.le_refl 0) (Nat.le_refl 0)) (fun x21 S21 H locs _ F hf => ?_)
      refine lv_goto (tgt := 29) hx hb d_X12_grows_24 (by decide) ?_
      exact fm_reti Z hr hlk F d_X12_grows_29 (Prod.mk.inj (Option.some.inj hf)).1 (Prod.mk.inj (Option.some.inj hf)).2
theorem d_X12_row_0 : decode prog_14_method_32_code 0 = .ok (.aload_n 0, 1) := by decide +kernel
theorem d_X12_row_1 : decode prog_14_method_32_code 1 = .ok (.iload_n 1, 1) := by decide +kernel
theorem d_X12_row_2 : decode prog_14_method_32_code 2 = .ok (.invokevirtual 140, 3) := by decide +kernel
theorem d_X12_row_5 : decode prog_14_method_32_code 5 = .ok (.ifCond .eq 12, 3) := by decide +kernel
theorem d_X12_row_8 : decode prog_14_method_32_code 8 = .ok (.iload_n 2, 1) := by decide +kernel
theorem d_X12_row_9 : decode prog_14_method_32_code 9 = .ok (.iconst 0, 1) := by decide +kernel
theorem d_X12_row_10 : decode prog_14_method_32_code 10 = .ok (.iconst 3, 1) := by decide +kernel
theorem d_X12_row_11 : decode prog_14_method_32_code 11 = .ok (.invokestatic 44, 3) := by decide +kernel
theorem d_X12_row_14 : decode prog_14_method_32_code 14 = .ok (.ifCond .ne 5, 3) := by decide +kernel
theorem d_X12_row_17 : decode prog_14_method_32_code 17 = .ok (.iconst (-1), 1) := by decide +kernel
theorem d_X12_row_18 : decode prog_14_method_32_code 18 = .ok (.ireturn, 1) := by decide +kernel
theorem d_X12_row_19 : decode prog_14_method_32_code 19 = .ok (.iload_n 3, 1) := by decide +kernel
theorem d_X12_row_20 : decode prog_14_method_32_code 20 = .ok (.iconst 0, 1) := by decide +kernel
theorem d_X12_row_21 : decode prog_14_method_32_code 21 = .ok (.bipush 9, 2) := by decide +kernel
theorem d_X12_row_23 : decode prog_14_method_32_code 23 = .ok (.invokestatic 44, 3) := by decide +kernel
theorem d_X12_row_26 : decode prog_14_method_32_code 26 = .ok (.ifCond .ne 6, 3) := by decide +kernel
theorem d_X12_row_29 : decode prog_14_method_32_code 29 = .ok (.bipush (-2), 2) := by decide +kernel
theorem d_X12_row_31 : decode prog_14_method_32_code 31 = .ok (.ireturn, 1) := by decide +kernel
theorem d_X12_row_32 : decode prog_14_method_32_code 32 = .ok (.aload_n 0, 1) := by decide +kernel
theorem d_X12_row_33 : decode prog_14_method_32_code 33 = .ok (.getfield 9, 3) := by decide +kernel
theorem d_X12_row_36 : decode prog_14_method_32_code 36 = .ok (.bipush 28, 2) := by decide +kernel
theorem d_X12_row_38 : decode prog_14_method_32_code 38 = .ok (.iload_n 1, 1) := by decide +kernel
theorem d_X12_row_39 : decode prog_14_method_32_code 39 = .ok (.iadd, 1) := by decide +kernel
theorem d_X12_row_40 : decode prog_14_method_32_code 40 = .ok (.iaload, 1) := by decide +kernel
theorem d_X12_row_41 : decode prog_14_method_32_code 41 = .ok (.bipush 6, 2) := by decide +kernel
theorem d_X12_row_43 : decode prog_14_method_32_code 43 = .ok (.if_icmp .ne 19, 3) := by decide +kernel
theorem d_X12_row_46 : decode prog_14_method_32_code 46 = .ok (.aload_n 0, 1) := by decide +kernel
theorem d_X12_row_47 : decode prog_14_method_32_code 47 = .ok (.bipush 40, 2) := by decide +kernel
theorem d_X12_row_49 : decode prog_14_method_32_code 49 = .ok (.iconst 4, 1) := by decide +kernel
theorem d_X12_row_50 : decode prog_14_method_32_code 50 = .ok (.iload_n 1, 1) := by decide +kernel
theorem d_X12_row_51 : decode prog_14_method_32_code 51 = .ok (.imul, 1) := by decide +kernel
theorem d_X12_row_52 : decode prog_14_method_32_code 52 = .ok (.iadd, 1) := by decide +kernel
theorem d_X12_row_53 : decode prog_14_method_32_code 53 = .ok (.iload_n 2, 1) := by decide +kernel
theorem d_X12_row_54 : decode prog_14_method_32_code 54 = .ok (.iadd, 1) := by decide +kernel
theorem d_X12_row_55 : decode prog_14_method_32_code 55 = .ok (.iload_n 3, 1) := by decide +kernel
theorem d_X12_row_56 : decode prog_14_method_32_code 56 = .ok (.invokevirtual 148, 3) := by decide +kernel
theorem d_X12_row_59 : decode prog_14_method_32_code 59 = .ok (.goto 5, 3) := by decide +kernel
theorem d_X12_row_62 : decode prog_14_method_32_code 62 = .ok (.bipush (-3), 2) := by decide +kernel
theorem d_X12_row_64 : decode prog_14_method_32_code 64 = .ok (.ireturn, 1) := by decide +kernel
def m_X12_row (kap lam : Nat → Nat) (r0 : Nat) (a1 : Int32) (a2 : Int32) (a3 : Int32) (S : fm_M) : Option (Int32 × fm_M) :=
  fm_ck (kap r0 == 12) <|
  fm_b1 (m_X12_isPane kap lam r0 a1 S) fun x2 =>
  if x2 = 0 then (
   some ((-1), S)
  ) else (
   fm_b1 (m_X12_in kap lam a2 0 3 S) fun x11 =>
   if x11 = 0 then (
    some ((-1), S)
   ) else (
    fm_b1 (m_X12_in kap lam a3 0 9 S) fun x23 =>
    if x23 = 0 then (
     some ((-2), S)
    ) else (
     fm_gr kap 12 r0 1 S fun q33 =>
     fm_ld kap lam 13 q33 (28 + a1) S fun x40 =>
     if x40 = 6 then (
      fm_ck (kap r0 == 12) <|
      fm_bi (m_X12_becomes kap lam r0 ((40 + (4 * a1)) + a2) a3 S) fun x56 S56 =>
      some (x56, S56)
     ) else (
      some ((-3), S)
     )
    )
   )
  )
set_option maxHeartbeats 4000000 in
set_option maxRecDepth 100000 in
theorem c_X12_row {l : Launch} {D : va_G} {ids kap lam : Nat → Nat} {RL : List Nat} {ad sk sv : Nat → Nat} {S : fm_M} {r0 : Nat} {a1 : Int32} {a2 : Int32} {a3 : Int32} {r : Int32} {u : fm_M} (hE : fm_E kap RL ad) (hf : m_X12_row kap lam r0 a1 a2 a3 S = some (r, u)) (sz : Nat) : fm_MI l y_X12_row prog_14_method_32_code 4 (Option.some Jvm.ClassFile.FieldType.int) 2 D ids kap lam RL ad sk sv S [.ref (ad r0), .int a1, .int a2, .int a3] sz r u := by
  refine fm_open rfl hE (Nat.le_of_ble_eq_true rfl) (fun p e s m args below meth c ls Z hr hlk G F N hl hsz => ?_)
  subst hsz
  obtain ⟨hx, hb, hml, hown, hts⟩ := id Z
  have hl : lv_has ls 4 [(0, .ref (ad r0)), (1, .int a1), (2, .int a2), (3, .int a3)] := hl
  unfold m_X12_row at hf
  refine lv_aload_n hx hb d_X12_row_0 rfl (lv_at hl 0 rfl) ?_
  refine lv_iload_n hx hb d_X12_row_1 rfl (lv_at hl 1 rfl) ?_
  obtain ⟨hk2, hf⟩ := fm_some hf
  refine fm_rcr G F hf (fun r ho => fm_runV (k := 1) Z G F N (As := [.int a1]) (rest := []) (c_X12_isPane hE ho _) (by rw [eq_of_beq hk2]; decide) (by rw [eq_of_beq hk2]; rfl) kw_1075 kw_1077 kp_37 kw_6 kw_1078 yd_X12_isPane rfl (by decide) (by decide) hl.1 (Nat.le_of_ble_eq_true rfl) d_X12_row_2 (Nat.le_refl 0) (Nat.le_refl 0)) (fun x2 H locs _ F hf => ?_)
  refine lv_if_eq (tgt := 17) hx hb d_X12_row_5 (by decide) (fun c5 => ?_) (fun c5 => ?_)
  · have hf := fm_ip c5 hf
    refine lv_iconst (v := (-1)) hx hb d_X12_row_17 (by decide) ?_
    exact fm_reti Z hr hlk F d_X12_row_18 (Prod.mk.inj (Option.some.inj hf)).1 (Prod.mk.inj (Option.some.inj hf)).2
  · have hf := fm_ig c5 hf
    refine lv_iload_n hx hb d_X12_row_8 rfl (lv_at hl 2 rfl) ?_
    refine lv_iconst (v := 0) hx hb d_X12_row_9 (by decide) ?_
    refine lv_iconst (v := 3) hx hb d_X12_row_10 (by decide) ?_
    refine fm_rcr G F hf (fun r ho => fm_runS (k := 3) Z G F N (As := [.int a2, .int 0, .int 3]) (rest := []) (c_X12_in hE ho _) kw_1004 kw_1005 kw_6 kw_1006 yd_X12_in rfl (by decide) (by decide) hl.1 (Nat.le_of_ble_eq_true rfl) d_X12_row_11 (Nat.le_refl 0) (Nat.le_refl 0)) (fun x11 H locs _ F hf => ?_)
    refine lv_if_ne (tgt := 19) hx hb d_X12_row_14 (by decide) (fun c14 => ?_) (fun c14 => ?_)
    · have hf := fm_ig c14 hf
      refine lv_iload_n hx hb d_X12_row_19 rfl (lv_at hl 3 rfl) ?_
      refine lv_iconst (v := 0) hx hb d_X12_row_20 (by decide) ?_
      refine lv_bipush (v := 9) hx hb d_X12_row_21 (by decide) ?_
      refine fm_rcr G F hf (fun r ho => fm_runS (k := 3) Z G F N (As := [.int a3, .int 0, .int 9]) (rest := []) (c_X12_in hE ho _) kw_1004 kw_1005 kw_6 kw_1006 yd_X12_in rfl (by decide) (by decide) hl.1 (Nat.le_of_ble_eq_true rfl) d_X12_row_23 (Nat.le_refl 0) (Nat.le_refl 0)) (fun x23 H locs _ F hf => ?_)
      refine lv_if_ne (tgt := 32) hx hb d_X12_row_26 (by decide) (fun c26 => ?_) (fun c26 => ?_)
      · have hf := fm_ig c26 hf
        refine lv_aload_n hx hb d_X12_row_32 rfl (lv_at hl 0 rfl) ?_
        refine fm_rgr Z G F hf fr_X12_9 d_X12_row_33 (fun q33 _ hf => ?_)
        refine lv_bipush (v := 28) hx hb d_X12_row_36 (by decide) ?_
        refine lv_iload_n hx hb d_X12_row_38 rfl (lv_at hl 1 rfl) ?_
        refine lv_iadd hx hb d_X12_row_39 ?_
        refine fm_rld Z G F hf d_X12_row_40 (fun x40 _ hf => ?_)
        refine lv_bipush (v := 6) hx hb d_X12_row_41 (by decide) ?_
        refine lv_icmp_ne (tgt := 62) hx hb d_X12_row_43 (by decide) (fun c43 => ?_) (fun c43 => ?_)
        · have hf := fm_ig c43 hf
          refine lv_bipush (v := (-3)) hx hb d_X12_row_62 (by decide) ?_
          exact fm_reti Z hr hlk F d_X12_row_64 (Prod.mk.inj (Option.some.inj hf)).1 (Prod.mk.inj (Option.some.inj hf)).2
        · have hf := fm_ip c43 hf
          refine lv_aload_n hx hb d_X12_row_46 rfl (lv_at hl 0 rfl) ?_
          refine lv_bipush (v := 40) hx hb d_X12_row_47 (by decide) ?_
          refine lv_iconst (v := 4) hx hb d_X12_row_49 (by decide) ?_
          refine lv_iload_n hx hb d_X12_row_50 rfl (lv_at hl 1 rfl) ?_
          refine lv_imul hx hb d_X12_row_51 ?_
          refine lv_iadd hx hb d_X12_row_52 ?_
          refine lv_iload_n hx hb d_X12_row_53 rfl (lv_at hl 2 rfl) ?_
          refine lv_iadd hx hb d_X12_row_54 ?_
          refine lv_iload_n hx hb d_X12_row_55 rfl (lv_at hl 3 rfl) ?_
          obtain ⟨hk56, hf⟩ := fm_some hf
          refine fm_rci G F hf (fun r u ho => fm_runV (k := 2) Z G F N (As := [.int ((40 + (4 * a1)) + a2), .int a3]) (rest := []) (c_X12_becomes hE ho _) (by rw [eq_of_beq hk56]; decide) (by rw [eq_of_beq hk56]; rfl) kw_1108 kw_1110 kp_43 kw_6 kw_1111 yd_X12_becomes rfl (by decide) (by decide) hl.1 (Nat.le_of_ble_eq_true rfl) d_X12_row_56 (Nat.le_refl 0) (Nat.le_refl 0)) (fun x56 S56 H locs _ F hf => ?_)
          refine lv_goto (tgt := 64) hx hb d_X12_row_59 (by decide) ?_
          exact fm_reti Z hr hlk F d_X12_row_64 (Prod.mk.inj (Option.some.inj hf)).1 (Prod.mk.inj (Option.some.inj hf)).2
      · have hf := fm_ip c26 hf
        refine lv_bipush (v := (-2)) hx hb d_X12_row_29 (by decide) ?_
        exact fm_reti Z hr hlk F d_X12_row_31 (Prod.mk.inj (Option.some.inj hf)).1 (Prod.mk.inj (Option.some.inj hf)).2
    · have hf := fm_ip c14 hf
      refine lv_iconst (v := (-1)) hx hb d_X12_row_17 (by decide) ?_
      exact fm_reti Z hr hlk F d_X12_row_18 (Prod.mk.inj (Option.some.inj hf)).1 (Prod.mk.inj (Option.some.inj hf)).2
theorem d_X12_set_0 : decode prog_14_method_33_code 0 = .ok (.aload_n 0, 1) := by decide +kernel
theorem d_X12_set_1 : decode prog_14_method_33_code 1 = .ok (.iload_n 1, 1) := by decide +kernel
theorem d_X12_set_2 : decode prog_14_method_33_code 2 = .ok (.invokevirtual 140, 3) := by decide +kernel
theorem d_X12_set_5 : decode prog_14_method_33_code 5 = .ok (.ifCond .eq 12, 3) := by decide +kernel
theorem d_X12_set_8 : decode prog_14_method_33_code 8 = .ok (.iload_n 2, 1) := by decide +kernel
theorem d_X12_set_9 : decode prog_14_method_33_code 9 = .ok (.iconst 0, 1) := by decide +kernel
theorem d_X12_set_10 : decode prog_14_method_33_code 10 = .ok (.iconst 1, 1) := by decide +kernel
theorem d_X12_set_11 : decode prog_14_method_33_code 11 = .ok (.invokestatic 44, 3) := by decide +kernel
theorem d_X12_set_14 : decode prog_14_method_33_code 14 = .ok (.ifCond .ne 5, 3) := by decide +kernel
theorem d_X12_set_17 : decode prog_14_method_33_code 17 = .ok (.iconst (-1), 1) := by decide +kernel
theorem d_X12_set_18 : decode prog_14_method_33_code 18 = .ok (.ireturn, 1) := by decide +kernel
theorem d_X12_set_19 : decode prog_14_method_33_code 19 = .ok (.iload_n 3, 1) := by decide +kernel
theorem d_X12_set_20 : decode prog_14_method_33_code 20 = .ok (.iconst 0, 1) := by decide +kernel
theorem d_X12_set_21 : decode prog_14_method_33_code 21 = .ok (.iload_n 2, 1) := by decide +kernel
theorem d_X12_set_22 : decode prog_14_method_33_code 22 = .ok (.ifCond .ne 8, 3) := by decide +kernel
theorem d_X12_set_25 : decode prog_14_method_33_code 25 = .ok (.bipush 9, 2) := by decide +kernel
theorem d_X12_set_27 : decode prog_14_method_33_code 27 = .ok (.goto 6, 3) := by decide +kernel
theorem d_X12_set_30 : decode prog_14_method_33_code 30 = .ok (.sipush 4095, 3) := by decide +kernel
theorem d_X12_set_33 : decode prog_14_method_33_code 33 = .ok (.invokestatic 44, 3) := by decide +kernel
theorem d_X12_set_36 : decode prog_14_method_33_code 36 = .ok (.ifCond .ne 6, 3) := by decide +kernel
theorem d_X12_set_39 : decode prog_14_method_33_code 39 = .ok (.bipush (-2), 2) := by decide +kernel
theorem d_X12_set_41 : decode prog_14_method_33_code 41 = .ok (.ireturn, 1) := by decide +kernel
theorem d_X12_set_42 : decode prog_14_method_33_code 42 = .ok (.aload_n 0, 1) := by decide +kernel
theorem d_X12_set_43 : decode prog_14_method_33_code 43 = .ok (.iload_n 2, 1) := by decide +kernel
theorem d_X12_set_44 : decode prog_14_method_33_code 44 = .ok (.ifCond .ne 8, 3) := by decide +kernel
theorem d_X12_set_47 : decode prog_14_method_33_code 47 = .ok (.bipush 15, 2) := by decide +kernel
theorem d_X12_set_49 : decode prog_14_method_33_code 49 = .ok (.goto 4, 3) := by decide +kernel
theorem d_X12_set_52 : decode prog_14_method_33_code 52 = .ok (.iconst 3, 1) := by decide +kernel
theorem d_X12_set_53 : decode prog_14_method_33_code 53 = .ok (.iload_n 1, 1) := by decide +kernel
theorem d_X12_set_54 : decode prog_14_method_33_code 54 = .ok (.iadd, 1) := by decide +kernel
theorem d_X12_set_55 : decode prog_14_method_33_code 55 = .ok (.iload_n 3, 1) := by decide +kernel
theorem d_X12_set_56 : decode prog_14_method_33_code 56 = .ok (.invokevirtual 148, 3) := by decide +kernel
theorem d_X12_set_59 : decode prog_14_method_33_code 59 = .ok (.ireturn, 1) := by decide +kernel
def m_X12_set (kap lam : Nat → Nat) (r0 : Nat) (a1 : Int32) (a2 : Int32) (a3 : Int32) (S : fm_M) : Option (Int32 × fm_M) :=
  fm_ck (kap r0 == 12) <|
  fm_b1 (m_X12_isPane kap lam r0 a1 S) fun x2 =>
  if x2 = 0 then (
   some ((-1), S)
  ) else (
   fm_b1 (m_X12_in kap lam a2 0 1 S) fun x11 =>
   if x11 = 0 then (
    some ((-1), S)
   ) else (
    if a2 = 0 then (
     fm_b1 (m_X12_in kap lam a3 0 9 S) fun x33 =>
     if x33 = 0 then (
      some ((-2), S)
     ) else (
      if a2 = 0 then (
       fm_ck (kap r0 == 12) <|
       fm_bi (m_X12_becomes kap lam r0 (15 + a1) a3 S) fun x56 S56 =>
       some (x56, S56)
      ) else (
       fm_ck (kap r0 == 12) <|
       fm_bi (m_X12_becomes kap lam r0 (3 + a1) a3 S) fun x56 S56 =>
       some (x56, S56)
      )
     )
    ) else (
     fm_b1 (m_X12_in kap lam a3 0 4095 S) fun x33 =>
     if x33 = 0 then (
      some ((-2), S)
     ) else (
      if a2 = 0 then (
       fm_ck (kap r0 == 12) <|
       fm_bi (m_X12_becomes kap lam r0 (15 + a1) a3 S) fun x56 S56 =>
       some (x56, S56)
      ) else (
       fm_ck (kap r0 == 12) <|
       fm_bi (m_X12_becomes kap lam r0 (3 + a1) a3 S) fun x56 S56 =>
       some (x56, S56)
      )
     )
    )
   )
  )
set_option maxHeartbeats 4000000 in
set_option maxRecDepth 100000 in
theorem c_X12_set {l : Launch} {D : va_G} {ids kap lam : Nat → Nat} {RL : List Nat} {ad sk sv : Nat → Nat} {S : fm_M} {r0 : Nat} {a1 : Int32} {a2 : Int32} {a3 : Int32} {r : Int32} {u : fm_M} (hE : fm_E kap RL ad) (hf : m_X12_set kap lam r0 a1 a2 a3 S = some (r, u)) (sz : Nat) : fm_MI l y_X12_set prog_14_method_33_code 4 (Option.some Jvm.ClassFile.FieldType.int) 2 D ids kap lam RL ad sk sv S [.ref (ad r0), .int a1, .int a2, .int a3] sz r u := by
  refine fm_open rfl hE (Nat.le_of_ble_eq_true rfl) (fun p e s m args below meth c ls Z hr hlk G F N hl hsz => ?_)
  subst hsz
  obtain ⟨hx, hb, hml, hown, hts⟩ := id Z
  have hl : lv_has ls 4 [(0, .ref (ad r0)), (1, .int a1), (2, .int a2), (3, .int a3)] := hl
  unfold m_X12_set at hf
  refine lv_aload_n hx hb d_X12_set_0 rfl (lv_at hl 0 rfl) ?_
  refine lv_iload_n hx hb d_X12_set_1 rfl (lv_at hl 1 rfl) ?_
  obtain ⟨hk2, hf⟩ := fm_some hf
  refine fm_rcr G F hf (fun r ho => fm_runV (k := 1) Z G F N (As := [.int a1]) (rest := []) (c_X12_isPane hE ho _) (by rw [eq_of_beq hk2]; decide) (by rw [eq_of_beq hk2]; rfl) kw_1075 kw_1077 kp_37 kw_6 kw_1078 yd_X12_isPane rfl (by decide) (by decide) hl.1 (Nat.le_of_ble_eq_true rfl) d_X12_set_2 (Nat.le_refl 0) (Nat.le_refl 0)) (fun x2 H locs _ F hf => ?_)
  refine lv_if_eq (tgt := 17) hx hb d_X12_set_5 (by decide) (fun c5 => ?_) (fun c5 => ?_)
  · have hf := fm_ip c5 hf
    refine lv_iconst (v := (-1)) hx hb d_X12_set_17 (by decide) ?_
    exact fm_reti Z hr hlk F d_X12_set_18 (Prod.mk.inj (Option.some.inj hf)).1 (Prod.mk.inj (Option.some.inj hf)).2
  · have hf := fm_ig c5 hf
    refine lv_iload_n hx hb d_X12_set_8 rfl (lv_at hl 2 rfl) ?_
    refine lv_iconst (v := 0) hx hb d_X12_set_9 (by decide) ?_
    refine lv_iconst (v := 1) hx hb d_X12_set_10 (by decide) ?_
    refine fm_rcr G F hf (fun r ho => fm_runS (k := 3) Z G F N (As := [.int a2, .int 0, .int 1]) (rest := []) (c_X12_in hE ho _) kw_1004 kw_1005 kw_6 kw_1006 yd_X12_in rfl (by decide) (by decide) hl.1 (Nat.le_of_ble_eq_true rfl) d_X12_set_11 (Nat.le_refl 0) (Nat.le_refl 0)) (fun x11 H locs _ F hf => ?_)
    refine lv_if_ne (tgt := 19) hx hb d_X12_set_14 (by decide) (fun c14 => ?_) (fun c14 => ?_)
    · have hf := fm_ig c14 hf
      refine lv_iload_n hx hb d_X12_set_19 rfl (lv_at hl 3 rfl) ?_
      refine lv_iconst (v := 0) hx hb d_X12_set_20 (by decide) ?_
      refine lv_iload_n hx hb d_X12_set_21 rfl (lv_at hl 2 rfl) ?_
      refine lv_if_ne (tgt := 30) hx hb d_X12_set_22 (by decide) (fun c22 => ?_) (fun c22 => ?_)
      · have hf := fm_ig c22 hf
        refine lv_sipush (v := 4095) hx hb d_X12_set_30 (by decide) ?_
        refine fm_rcr G F hf (fun r ho => fm_runS (k := 3) Z G F N (As := [.int a3, .int 0, .int 4095]) (rest := []) (c_X12_in hE ho _) kw_1004 kw_1005 kw_6 kw_1006 yd_X12_in rfl (by decide) (by decide) hl.1 (Nat.le_of_ble_eq_true rfl) d_X12_set_33 (Nat.le_refl 0) (Nat.le_refl 0)) (fun x33 H locs _ F hf => ?_)
        refine lv_if_ne (tgt := 42) hx hb d_X12_set_36 (by decide) (fun c36 => ?_) (fun c36 => ?_)
        · have hf := fm_ig c36 hf
          refine lv_aload_n hx hb d_X12_set_42 rfl (lv_at hl 0 rfl) ?_
          refine lv_iload_n hx hb d_X12_set_43 rfl (lv_at hl 2 rfl) ?_
          refine lv_if_ne (tgt := 52) hx hb d_X12_set_44 (by decide) (fun c44 => ?_) (fun c44 => ?_)
          · have hf := fm_ig c44 hf
            refine lv_iconst (v := 3) hx hb d_X12_set_52 (by decide) ?_
            refine lv_iload_n hx hb d_X12_set_53 rfl (lv_at hl 1 rfl) ?_
            refine lv_iadd hx hb d_X12_set_54 ?_
            refine lv_iload_n hx hb d_X12_set_55 rfl (lv_at hl 3 rfl) ?_
            obtain ⟨hk56, hf⟩ := fm_some hf
            refine fm_rci G F hf (fun r u ho => fm_runV (k := 2) Z G F N (As := [.int (3 + a1), .int a3]) (rest := []) (c_X12_becomes hE ho _) (by rw [eq_of_beq hk56]; decide) (by rw [eq_of_beq hk56]; rfl) kw_1108 kw_1110 kp_43 kw_6 kw_1111 yd_X12_becomes rfl (by decide) (by decide) hl.1 (Nat.le_of_ble_eq_true rfl) d_X12_set_56 (Nat.le_refl 0) (Nat.le_refl 0)) (fun x56 S56 H locs _ F hf => ?_)
            exact fm_reti Z hr hlk F d_X12_set_59 (Prod.mk.inj (Option.some.inj hf)).1 (Prod.mk.inj (Option.some.inj hf)).2
          · have hf := fm_ip c44 hf
            refine lv_bipush (v := 15) hx hb d_X12_set_47 (by decide) ?_
            refine lv_goto (tgt := 53) hx hb d_X12_set_49 (by decide) ?_
            refine lv_iload_n hx hb d_X12_set_53 rfl (lv_at hl 1 rfl) ?_
            refine lv_iadd hx hb d_X12_set_54 ?_
            refine lv_iload_n hx hb d_X12_set_55 rfl (lv_at hl 3 rfl) ?_
            obtain ⟨hk56, hf⟩ := fm_some hf
            refine fm_rci G F hf (fun r u ho => fm_runV (k := 2) Z G F N (As := [.int (15 + a1), .int a3]) (rest := []) (c_X12_becomes hE ho _) (by rw [eq_of_beq hk56]; decide) (by rw [eq_of_beq hk56]; rfl) kw_1108 kw_1110 kp_43 kw_6 kw_1111 yd_X12_becomes rfl (by decide) (by decide) hl.1 (Nat.le_of_ble_eq_true rfl) d_X12_set_56 (Nat.le_refl 0) (Nat.le_refl 0)) (fun x56 S56 H locs _ F hf => ?_)
            exact fm_reti Z hr hlk F d_X12_set_59 (Prod.mk.inj (Option.some.inj hf)).1 (Prod.mk.inj (Option.some.inj hf)).2
        · have hf := fm_ip c36 hf
          refine lv_bipush (v := (-2)) hx hb d_X12_set_39 (by decide) ?_
          exact fm_reti Z hr hlk F d_X12_set_41 (Prod.mk.inj (Option.some.inj hf)).1 (Prod.mk.inj (Option.some.inj hf)).2
      · have hf := fm_ip c22 hf
        refine lv_bipush (v := 9) hx hb d_X12_set_25 (by decide) ?_
        refine lv_goto (tgt := 33) hx hb d_X12_set_27 (by decide) ?_
        refine fm_rcr G F hf (fun r ho => fm_runS (k := 3) Z G F N (As := [.int a3, .int 0, .int 9]) (rest := []) (c_X12_in hE ho _) kw_1004 kw_1005 kw_6 kw_1006 yd_X12_in rfl (by decide) (by decide) hl.1 (Nat.le_of_ble_eq_true rfl) d_X12_set_33 (Nat.le_refl 0) (Nat.le_refl 0)) (fun x33 H locs _ F hf => ?_)
        refine lv_if_ne (tgt := 42) hx hb d_X12_set_36 (by decide) (fun c36 => ?_) (fun c36 => ?_)
        · have hf := fm_ig c36 hf
          refine lv_aload_n hx hb d_X12_set_42 rfl (lv_at hl 0 rfl) ?_
          refine lv_iload_n hx hb d_X12_set_43 rfl (lv_at hl 2 rfl) ?_
          refine lv_if_ne (tgt := 52) hx hb d_X12_set_44 (by decide) (fun c44 => ?_) (fun c44 => ?_)
          · have hf := fm_ig c44 hf
            refine lv_iconst (v := 3) hx hb d_X12_set_52 (by decide) ?_
            refine lv_iload_n hx hb d_X12_set_53 rfl (lv_at hl 1 rfl) ?_
            refine lv_iadd hx hb d_X12_set_54 ?_
            refine lv_iload_n hx hb d_X12_set_55 rfl (lv_at hl 3 rfl) ?_
            obtain ⟨hk56, hf⟩ := fm_some hf
            refine fm_rci G F hf (fun r u ho => fm_runV (k := 2) Z G F N (As := [.int (3 + a1), .int a3]) (rest := []) (c_X12_becomes hE ho _) (by rw [eq_of_beq hk56]; decide) (by rw [eq_of_beq hk56]; rfl) kw_1108 kw_1110 kp_43 kw_6 kw_1111 yd_X12_becomes rfl (by decide) (by decide) hl.1 (Nat.le_of_ble_eq_true rfl) d_X12_set_56 (Nat.le_refl 0) (Nat.le_refl 0)) (fun x56 S56 H locs _ F hf => ?_)
            exact fm_reti Z hr hlk F d_X12_set_59 (Prod.mk.inj (Option.some.inj hf)).1 (Prod.mk.inj (Option.some.inj hf)).2
          · have hf := fm_ip c44 hf
            refine lv_bipush (v := 15) hx hb d_X12_set_47 (by decide) ?_
            refine lv_goto (tgt := 53) hx hb d_X12_set_49 (by decide) ?_
            refine lv_iload_n hx hb d_X12_set_53 rfl (lv_at hl 1 rfl) ?_
            refine lv_iadd hx hb d_X12_set_54 ?_
            refine lv_iload_n hx hb d_X12_set_55 rfl (lv_at hl 3 rfl) ?_
            obtain ⟨hk56, hf⟩ := fm_some hf
            refine fm_rci G F hf (fun r u ho => fm_runV (k := 2) Z G F N (As := [.int (15 + a1), .int a3]) (rest := []) (c_X12_becomes hE ho _) (by rw [eq_of_beq hk56]; decide) (by rw [eq_of_beq hk56]; rfl) kw_1108 kw_1110 kp_43 kw_6 kw_1111 yd_X12_becomes rfl (by decide) (by decide) hl.1 (Nat.le_of_ble_eq_true rfl) d_X12_set_56 (Nat.le_refl 0) (Nat.le_refl 0)) (fun x56 S56 H locs _ F hf => ?_)
            exact fm_reti Z hr hlk F d_X12_set_59 (Prod.mk.inj (Option.some.inj hf)).1 (Prod.mk.inj (Option.some.inj hf)).2
        · have hf := fm_ip c36 hf
          refine lv_bipush (v := (-2)) hx hb d_X12_set_39 (by decide) ?_
          exact fm_reti Z hr hlk F d_X12_set_41 (Prod.mk.inj (Option.some.inj hf)).1 (Prod.mk.inj (Option.some.inj hf)).2
    · have hf := fm_ip c14 hf
      refine lv_iconst (v := (-1)) hx hb d_X12_set_17 (by decide) ?_
      exact fm_reti Z hr hlk F d_X12_set_18 (Prod.mk.inj (Option.some.inj hf)).1 (Prod.mk.inj (Option.some.inj hf)).2
theorem d_X12_cold_0 : decode prog_14_method_34_code 0 = .ok (.iload_n 1, 1) := by decide +kernel
theorem d_X12_cold_1 : decode prog_14_method_34_code 1 = .ok (.iconst 0, 1) := by decide +kernel
theorem d_X12_cold_2 : decode prog_14_method_34_code 2 = .ok (.bipush 20, 2) := by decide +kernel
theorem d_X12_cold_4 : decode prog_14_method_34_code 4 = .ok (.invokestatic 44, 3) := by decide +kernel
theorem d_X12_cold_7 : decode prog_14_method_34_code 7 = .ok (.ifCond .eq 12, 3) := by decide +kernel
theorem d_X12_cold_10 : decode prog_14_method_34_code 10 = .ok (.aload_n 0, 1) := by decide +kernel
theorem d_X12_cold_11 : decode prog_14_method_34_code 11 = .ok (.iconst 1, 1) := by decide +kernel
theorem d_X12_cold_12 : decode prog_14_method_34_code 12 = .ok (.iload_n 1, 1) := by decide +kernel
theorem d_X12_cold_13 : decode prog_14_method_34_code 13 = .ok (.invokevirtual 148, 3) := by decide +kernel
theorem d_X12_cold_16 : decode prog_14_method_34_code 16 = .ok (.goto 5, 3) := by decide +kernel
theorem d_X12_cold_19 : decode prog_14_method_34_code 19 = .ok (.bipush (-2), 2) := by decide +kernel
theorem d_X12_cold_21 : decode prog_14_method_34_code 21 = .ok (.ireturn, 1) := by decide +kernel
def m_X12_cold (kap lam : Nat → Nat) (r0 : Nat) (a1 : Int32) (S : fm_M) : Option (Int32 × fm_M) :=
  fm_b1 (m_X12_in kap lam a1 0 20 S) fun x4 =>
  if x4 = 0 then (
   some ((-2), S)
  ) else (
   fm_ck (kap r0 == 12) <|
   fm_bi (m_X12_becomes kap lam r0 1 a1 S) fun x13 S13 =>
   some (x13, S13)
  )
set_option maxHeartbeats 4000000 in
set_option maxRecDepth 100000 in
theorem c_X12_cold {l : Launch} {D : va_G} {ids kap lam : Nat → Nat} {RL : List Nat} {ad sk sv : Nat → Nat} {S : fm_M} {r0 : Nat} {a1 : Int32} {r : Int32} {u : fm_M} (hE : fm_E kap RL ad) (hf : m_X12_cold kap lam r0 a1 S = some (r, u)) (sz : Nat) : fm_MI l y_X12_cold prog_14_method_34_code 2 (Option.some Jvm.ClassFile.FieldType.int) 1 D ids kap lam RL ad sk sv S [.ref (ad r0), .int a1] sz r u := by
  refine fm_open rfl hE (Nat.le_of_ble_eq_true rfl) (fun p e s m args below meth c ls Z hr hlk G F N hl hsz => ?_)
  subst hsz
  obtain ⟨hx, hb, hml, hown, hts⟩ := id Z
  have hl : lv_has ls 2 [(0, .ref (ad r0)), (1, .int a1)] := hl
  unfold m_X12_cold at hf
  refine lv_iload_n hx hb d_X12_cold_0 rfl (lv_at hl 1 rfl) ?_
  refine lv_iconst (v := 0) hx hb d_X12_cold_1 (by decide) ?_
  refine lv_bipush (v := 20) hx hb d_X12_cold_2 (by decide) ?_
  refine fm_rcr G F hf (fun r ho => fm_runS (k := 3) Z G F N (As := [.int a1, .int 0, .int 20]) (rest := []) (c_X12_in hE ho _) kw_1004 kw_1005 kw_6 kw_1006 yd_X12_in rfl (by decide) (by decide) hl.1 (Nat.le_of_ble_eq_true rfl) d_X12_cold_4 (Nat.le_refl 0) (Nat.le_refl 0)) (fun x4 H locs _ F hf => ?_)
  refine lv_if_eq (tgt := 19) hx hb d_X12_cold_7 (by decide) (fun c7 => ?_) (fun c7 => ?_)
  · have hf := fm_ip c7 hf
    refine lv_bipush (v := (-2)) hx hb d_X12_cold_19 (by decide) ?_
    exact fm_reti Z hr hlk F d_X12_cold_21 (Prod.mk.inj (Option.some.inj hf)).1 (Prod.mk.inj (Option.some.inj hf)).2
  · have hf := fm_ig c7 hf
    refine lv_aload_n hx hb d_X12_cold_10 rfl (lv_at hl 0 rfl) ?_
    refine lv_iconst (v := 1) hx hb d_X12_cold_11 (by decide) ?_
    refine lv_iload_n hx hb d_X12_cold_12 rfl (lv_at hl 1 rfl) ?_
    obtain ⟨hk13, hf⟩ := fm_some hf
    refine fm_rci G F hf (fun r u ho => fm_runV (k := 2) Z G F N (As := [.int 1, .int a1]) (rest := []) (c_X12_becomes hE ho _) (by rw [eq_of_beq hk13]; decide) (by rw [eq_of_beq hk13]; rfl) kw_1108 kw_1110 kp_43 kw_6 kw_1111 yd_X12_becomes rfl (by decide) (by decide) hl.1 (Nat.le_of_ble_eq_true rfl) d_X12_cold_13 (Nat.le_refl 0) (Nat.le_refl 0)) (fun x13 S13 H locs _ F hf => ?_)
    refine lv_goto (tgt := 21) hx hb d_X12_cold_16 (by decide) ?_
    exact fm_reti Z hr hlk F d_X12_cold_21 (Prod.mk.inj (Option.some.inj hf)).1 (Prod.mk.inj (Option.some.inj hf)).2
theorem d_X12_shut_0 : decode prog_14_method_35_code 0 = .ok (.aload_n 0, 1) := by decide +kernel
theorem d_X12_shut_1 : decode prog_14_method_35_code 1 = .ok (.iload_n 1, 1) := by decide +kernel
theorem d_X12_shut_2 : decode prog_14_method_35_code 2 = .ok (.invokevirtual 140, 3) := by decide +kernel
theorem d_X12_shut_5 : decode prog_14_method_35_code 5 = .ok (.ifCond .eq 23, 3) := by decide +kernel
theorem d_X12_shut_8 : decode prog_14_method_35_code 8 = .ok (.aload_n 0, 1) := by decide +kernel
theorem d_X12_shut_9 : decode prog_14_method_35_code 9 = .ok (.bipush 9, 2) := by decide +kernel
theorem d_X12_shut_11 : decode prog_14_method_35_code 11 = .ok (.iload_n 1, 1) := by decide +kernel
theorem d_X12_shut_12 : decode prog_14_method_35_code 12 = .ok (.iadd, 1) := by decide +kernel
theorem d_X12_shut_13 : decode prog_14_method_35_code 13 = .ok (.iload_n 2, 1) := by decide +kernel
theorem d_X12_shut_14 : decode prog_14_method_35_code 14 = .ok (.ifCond .eq 7, 3) := by decide +kernel
theorem d_X12_shut_17 : decode prog_14_method_35_code 17 = .ok (.iconst 1, 1) := by decide +kernel
theorem d_X12_shut_18 : decode prog_14_method_35_code 18 = .ok (.goto 4, 3) := by decide +kernel
theorem d_X12_shut_21 : decode prog_14_method_35_code 21 = .ok (.iconst 0, 1) := by decide +kernel
theorem d_X12_shut_22 : decode prog_14_method_35_code 22 = .ok (.invokevirtual 148, 3) := by decide +kernel
theorem d_X12_shut_25 : decode prog_14_method_35_code 25 = .ok (.goto 4, 3) := by decide +kernel
theorem d_X12_shut_28 : decode prog_14_method_35_code 28 = .ok (.iconst (-1), 1) := by decide +kernel
theorem d_X12_shut_29 : decode prog_14_method_35_code 29 = .ok (.ireturn, 1) := by decide +kernel
def m_X12_shut (kap lam : Nat → Nat) (r0 : Nat) (a1 : Int32) (a2 : Int32) (S : fm_M) : Option (Int32 × fm_M) :=
  fm_ck (kap r0 == 12) <|
  fm_b1 (m_X12_isPane kap lam r0 a1 S) fun x2 =>
  if x2 = 0 then (
   some ((-1), S)
  ) else (
   if a2 = 0 then (
    fm_ck (kap r0 == 12) <|
    fm_bi (m_X12_becomes kap lam r0 (9 + a1) 0 S) fun x22 S22 =>
    some (x22, S22)
   ) else (
    fm_ck (kap r0 == 12) <|
    fm_bi (m_X12_becomes kap lam r0 (9 + a1) 1 S) fun x22 S22 =>
    some (x22, S22)
   )
  )
set_option maxHeartbeats 4000000 in
set_option maxRecDepth 100000 in
theorem c_X12_shut {l : Launch} {D : va_G} {ids kap lam : Nat → Nat} {RL : List Nat} {ad sk sv : Nat → Nat} {S : fm_M} {r0 : Nat} {a1 : Int32} {a2 : Int32} {r : Int32} {u : fm_M} (hE : fm_E kap RL ad) (hf : m_X12_shut kap lam r0 a1 a2 S = some (r, u)) (sz : Nat) : fm_MI l y_X12_shut prog_14_method_35_code 3 (Option.some Jvm.ClassFile.FieldType.int) 2 D ids kap lam RL ad sk sv S [.ref (ad r0), .int a1, .int a2] sz r u := by
  refine fm_open rfl hE (Nat.le_of_ble_eq_true rfl) (fun p e s m args below meth c ls Z hr hlk G F N hl hsz => ?_)
  subst hsz
  obtain ⟨hx, hb, hml, hown, hts⟩ := id Z
  have hl : lv_has ls 3 [(0, .ref (ad r0)), (1, .int a1), (2, .int a2)] := hl
  unfold m_X12_shut at hf
  refine lv_aload_n hx hb d_X12_shut_0 rfl (lv_at hl 0 rfl) ?_
  refine lv_iload_n hx hb d_X12_shut_1 rfl (lv_at hl 1 rfl) ?_
  obtain ⟨hk2, hf⟩ := fm_some hf
  refine fm_rcr G F hf (fun r ho => fm_runV (k := 1) Z G F N (As := [.int a1]) (rest := []) (c_X12_isPane hE ho _) (by rw [eq_of_beq hk2]; decide) (by rw [eq_of_beq hk2]; rfl) kw_1075 kw_1077 kp_37 kw_6 kw_1078 yd_X12_isPane rfl (by decide) (by decide) hl.1 (Nat.le_of_ble_eq_true rfl) d_X12_shut_2 (Nat.le_refl 0) (Nat.le_refl 0)) (fun x2 H locs _ F hf => ?_)
  refine lv_if_eq (tgt := 28) hx hb d_X12_shut_5 (by decide) (fun c5 => ?_) (fun c5 => ?_)
  · have hf := fm_ip c5 hf
    refine lv_iconst (v := (-1)) hx hb d_X12_shut_28 (by decide) ?_
    exact fm_reti Z hr hlk F d_X12_shut_29 (Prod.mk.inj (Option.some.inj hf)).1 (Prod.mk.inj (Option.some.inj hf)).2
  · have hf := fm_ig c5 hf
    refine lv_aload_n hx hb d_X12_shut_8 rfl (lv_at hl 0 rfl) ?_
    refine lv_bipush (v := 9) hx hb d_X12_shut_9 (by decide) ?_
    refine lv_iload_n hx hb d_X12_shut_11 rfl (lv_at hl 1 rfl) ?_
    refine lv_iadd hx hb d_X12_shut_12 ?_
    refine lv_iload_n hx hb d_X12_shut_13 rfl (lv_at hl 2 rfl) ?_
    refine lv_if_eq (tgt := 21) hx hb d_X12_shut_14 (by decide) (fun c14 => ?_) (fun c14 => ?_)
    · have hf := fm_ip c14 hf
      refine lv_iconst (v := 0) hx hb d_X12_shut_21 (by decide) ?_
      obtain ⟨hk22, hf⟩ := fm_some hf
      refine fm_rci G F hf (fun r u ho => fm_runV (k := 2) Z G F N (As := [.int (9 + a1), .int 0]) (rest := []) (c_X12_becomes hE ho _) (by rw [eq_of_beq hk22]; decide) (by rw [eq_of_beq hk22]; rfl) kw_1108 kw_1110 kp_43 kw_6 kw_1111 yd_X12_becomes rfl (by decide) (by decide) hl.1 (Nat.le_of_ble_eq_true rfl) d_X12_shut_22 (Nat.le_refl 0) (Nat.le_refl 0)) (fun x22 S22 H locs _ F hf => ?_)
      refine lv_goto (tgt := 29) hx hb d_X12_shut_25 (by decide) ?_
      exact fm_reti Z hr hlk F d_X12_shut_29 (Prod.mk.inj (Option.some.inj hf)).1 (Prod.mk.inj (Option.some.inj hf)).2
    · have hf := fm_ig c14 hf
      refine lv_iconst (v := 1) hx hb d_X12_shut_17 (by decide) ?_
      refine lv_goto (tgt := 22) hx hb d_X12_shut_18 (by decide) ?_
      obtain ⟨hk22, hf⟩ := fm_some hf
      refine fm_rci G F hf (fun r u ho => fm_runV (k := 2) Z G F N (As := [.int (9 + a1), .int 1]) (rest := []) (c_X12_becomes hE ho _) (by rw [eq_of_beq hk22]; decide) (by rw [eq_of_beq hk22]; rfl) kw_1108 kw_1110 kp_43 kw_6 kw_1111 yd_X12_becomes rfl (by decide) (by decide) hl.1 (Nat.le_of_ble_eq_true rfl) d_X12_shut_22 (Nat.le_refl 0) (Nat.le_refl 0)) (fun x22 S22 H locs _ F hf => ?_)
      refine lv_goto (tgt := 29) hx hb d_X12_shut_25 (by decide) ?_
      exact fm_reti Z hr hlk F d_X12_shut_29 (Prod.mk.inj (Option.some.inj hf)).1 (Prod.mk.inj (Option.some.inj hf)).2
theorem d_X12_breathes_0 : decode prog_14_method_36_code 0 = .ok (.aload_n 0, 1) := by decide +kernel
theorem d_X12_breathes_1 : decode prog_14_method_36_code 1 = .ok (.iload_n 1, 1) := by decide +kernel
theorem d_X12_breathes_2 : decode prog_14_method_36_code 2 = .ok (.invokevirtual 136, 3) := by decide +kernel
theorem d_X12_breathes_5 : decode prog_14_method_36_code 5 = .ok (.istore_n 2, 1) := by decide +kernel
theorem d_X12_breathes_6 : decode prog_14_method_36_code 6 = .ok (.aload_n 0, 1) := by decide +kernel
theorem d_X12_breathes_7 : decode prog_14_method_36_code 7 = .ok (.getfield 9, 3) := by decide +kernel
theorem d_X12_breathes_10 : decode prog_14_method_36_code 10 = .ok (.iconst 2, 1) := by decide +kernel
theorem d_X12_breathes_11 : decode prog_14_method_36_code 11 = .ok (.dup2, 1) := by decide +kernel
theorem d_X12_breathes_12 : decode prog_14_method_36_code 12 = .ok (.iaload, 1) := by decide +kernel
theorem d_X12_breathes_13 : decode prog_14_method_36_code 13 = .ok (.iload_n 2, 1) := by decide +kernel
theorem d_X12_breathes_14 : decode prog_14_method_36_code 14 = .ok (.iadd, 1) := by decide +kernel
theorem d_X12_breathes_15 : decode prog_14_method_36_code 15 = .ok (.iastore, 1) := by decide +kernel
theorem d_X12_breathes_16 : decode prog_14_method_36_code 16 = .ok (.aload_n 0, 1) := by decide +kernel
theorem d_X12_breathes_17 : decode prog_14_method_36_code 17 = .ok (.getfield 9, 3) := by decide +kernel
theorem d_X12_breathes_20 : decode prog_14_method_36_code 20 = .ok (.iconst 3, 1) := by decide +kernel
theorem d_X12_breathes_21 : decode prog_14_method_36_code 21 = .ok (.iload_n 1, 1) := by decide +kernel
theorem d_X12_breathes_22 : decode prog_14_method_36_code 22 = .ok (.iadd, 1) := by decide +kernel
theorem d_X12_breathes_23 : decode prog_14_method_36_code 23 = .ok (.iconst 0, 1) := by decide +kernel
theorem d_X12_breathes_24 : decode prog_14_method_36_code 24 = .ok (.iastore, 1) := by decide +kernel
theorem d_X12_breathes_25 : decode prog_14_method_36_code 25 = .ok (.iload_n 2, 1) := by decide +kernel
theorem d_X12_breathes_26 : decode prog_14_method_36_code 26 = .ok (.ireturn, 1) := by decide +kernel
def m_X12_breathes (kap lam : Nat → Nat) (r0 : Nat) (a1 : Int32) (S : fm_M) : Option (Int32 × fm_M) :=
  fm_ck (kap r0 == 12) <|
  fm_b1 (m_X12_offerOf kap lam r0 a1 S) fun x2 =>
  fm_gr kap 12 r0 1 S fun q7 =>
  fm_ld kap lam 13 q7 2 S fun x12 =>
  fm_st kap lam q7 2 (x12 + x2) S fun S15 =>
  fm_gr kap 12 r0 1 S15 fun q17 =>
  fm_st kap lam q17 (3 + a1) 0 S15 fun S24 =>
  some (x2, S24)
set_option maxHeartbeats 4000000 in
set_option maxRecDepth 100000 in
theorem c_X12_breathes {l : Launch} {D : va_G} {ids kap lam : Nat → Nat} {RL : List Nat} {ad sk sv : Nat → Nat} {S : fm_M} {r0 : Nat} {a1 : Int32} {r : Int32} {u : fm_M} (hE : fm_E kap RL ad) (hf : m_X12_breathes kap lam r0 a1 S = some (r, u)) (sz : Nat) : fm_MI l y_X12_breathes prog_14_method_36_code 3 (Option.some Jvm.ClassFile.FieldType.int) 2 D ids kap lam RL ad sk sv S [.ref (ad r0), .int a1] sz r u := by
  refine fm_open rfl hE (Nat.le_of_ble_eq_true rfl) (fun p e s m args below meth c ls Z hr hlk G F N hl hsz => ?_)
  subst hsz
  obtain ⟨hx, hb, hml, hown, hts⟩ := id Z
  have hl : lv_has ls 3 [(0, .ref (ad r0)), (1, .int a1)] := hl
  unfold m_X12_breathes at hf
  refine lv_aload_n hx hb d_X12_breathes_0 rfl (lv_at hl 0 rfl) ?_
  refine lv_iload_n hx hb d_X12_breathes_1 rfl (lv_at hl 1 rfl) ?_
  obtain ⟨hk2, hf⟩ := fm_some hf
  refine fm_rcr G F hf (fun r ho => fm_runV (k := 1) Z G F N (As := [.int a1]) (rest := []) (c_X12_offerOf hE ho _) (by rw [eq_of_beq hk2]; decide) (by rw [eq_of_beq hk2]; rfl) kw_1079 kw_1081 kp_38 kw_6 kw_1082 yd_X12_offerOf rfl (by decide) (by decide) hl.1 (Nat.le_of_ble_eq_true rfl) d_X12_breathes_2 (Nat.le_refl 0) (Nat.le_refl 0)) (fun x2 H locs _ F hf => ?_)
  refine lv_istore_n (lv' := [(2, .int x2), (0, .ref (ad r0)), (1, .int a1)]) hx hb d_X12_breathes_5 rfl hl (by decide) rfl (fun ls hl => ?_)
  refine lv_aload_n hx hb d_X12_breathes_6 rfl (lv_at hl 1 rfl) ?_
  refine fm_rgr Z G F hf fr_X12_9 d_X12_breathes_7 (fun q7 _ hf => ?_)
  refine lv_iconst (v := 2) hx hb d_X12_breathes_10 (by decide) ?_
  refine lv_dup2_11 hx hb d_X12_breathes_11 rfl rfl ?_
  refine fm_rld Z G F hf d_X12_breathes_12 (fun x12 _ hf => ?_)
  refine lv_iload_n hx hb d_X12_breathes_13 rfl (lv_at hl 0 rfl) ?_
  refine lv_iadd hx hb d_X12_breathes_14 ?_
  refine fm_rst Z G F hf d_X12_breathes_15 (fun S15 H locs _ F hf => ?_)
  refine lv_aload_n hx hb d_X12_breathes_16 rfl (lv_at hl 1 rfl) ?_
  refine fm_rgr Z G F hf fr_X12_9 d_X12_breathes_17 (fun q17 _ hf => ?_)
  refine lv_iconst (v := 3) hx hb d_X12_breathes_20 (by decide) ?_
  refine lv_iload_n hx hb d_X12_breathes_21 rfl (lv_at hl 2 rfl) ?_
  refine lv_iadd hx hb d_X12_breathes_22 ?_
  refine lv_iconst (v := 0) hx hb d_X12_breathes_23 (by decide) ?_
  refine fm_rst Z G F hf d_X12_breathes_24 (fun S24 H locs _ F hf => ?_)
  refine lv_iload_n hx hb d_X12_breathes_25 rfl (lv_at hl 0 rfl) ?_
  exact fm_reti Z hr hlk F d_X12_breathes_26 (Prod.mk.inj (Option.some.inj hf)).1 (Prod.mk.inj (Option.some.inj hf)).2
theorem d_X12_holds_0 : decode prog_14_method_37_code 0 = .ok (.aload_n 0, 1) := by decide +kernel
theorem d_X12_holds_1 : decode prog_14_method_37_code 1 = .ok (.getfield 9, 3) := by decide +kernel
theorem d_X12_holds_4 : decode prog_14_method_37_code 4 = .ok (.iconst 2, 1) := by decide +kernel
theorem d_X12_holds_5 : decode prog_14_method_37_code 5 = .ok (.aload_n 0, 1) := by decide +kernel
theorem d_X12_holds_6 : decode prog_14_method_37_code 6 = .ok (.getfield 9, 3) := by decide +kernel
theorem d_X12_holds_9 : decode prog_14_method_37_code 9 = .ok (.iconst 2, 1) := by decide +kernel
theorem d_X12_holds_10 : decode prog_14_method_37_code 10 = .ok (.iaload, 1) := by decide +kernel
theorem d_X12_holds_11 : decode prog_14_method_37_code 11 = .ok (.ldc 151, 2) := by decide +kernel
theorem d_X12_holds_13 : decode prog_14_method_37_code 13 = .ok (.if_icmp .le 8, 3) := by decide +kernel
theorem d_X12_holds_16 : decode prog_14_method_37_code 16 = .ok (.ldc 151, 2) := by decide +kernel
theorem d_X12_holds_18 : decode prog_14_method_37_code 18 = .ok (.goto 9, 3) := by decide +kernel
theorem d_X12_holds_21 : decode prog_14_method_37_code 21 = .ok (.aload_n 0, 1) := by decide +kernel
theorem d_X12_holds_22 : decode prog_14_method_37_code 22 = .ok (.getfield 9, 3) := by decide +kernel
theorem d_X12_holds_25 : decode prog_14_method_37_code 25 = .ok (.iconst 2, 1) := by decide +kernel
theorem d_X12_holds_26 : decode prog_14_method_37_code 26 = .ok (.iaload, 1) := by decide +kernel
theorem d_X12_holds_27 : decode prog_14_method_37_code 27 = .ok (.iastore, 1) := by decide +kernel
theorem d_X12_holds_28 : decode prog_14_method_37_code 28 = .ok (.return_, 1) := by decide +kernel
def m_X12_holds (kap lam : Nat → Nat) (r0 : Nat) (S : fm_M) : Option fm_M :=
  fm_gr kap 12 r0 1 S fun q1 =>
  fm_gr kap 12 r0 1 S fun q6 =>
  fm_ld kap lam 13 q6 2 S fun x10 =>
  if x10 ≤ 999999 then (
   fm_gr kap 12 r0 1 S fun q22 =>
   fm_ld kap lam 13 q22 2 S fun x26 =>
   fm_st kap lam q1 2 x26 S fun S27 =>
   some S27
  ) else (
   fm_st kap lam q1 2 999999 S fun S27 =>
   some S27
  )
set_option maxHeartbeats 4000000 in
set_option maxRecDepth 100000 in
theorem c_X12_holds {l : Launch} {D : va_G} {ids kap lam : Nat → Nat} {RL : List Nat} {ad sk sv : Nat → Nat} {S : fm_M} {r0 : Nat} {u : fm_M} (hE : fm_E kap RL ad) (hf : m_X12_holds kap lam r0 S = some u) (sz : Nat) : fm_MV l y_X12_holds prog_14_method_37_code 1 (Option.none : Option Jvm.ClassFile.FieldType) 0 D ids kap lam RL ad sk sv S [.ref (ad r0)] sz u := by
  refine fm_open rfl hE (Nat.le_of_ble_eq_true rfl) (fun p e s m args below meth c ls Z hr hlk G F N hl hsz => ?_)
  subst hsz
  obtain ⟨hx, hb, hml, hown, hts⟩ := id Z
  have hl : lv_has ls 1 [(0, .ref (ad r0))] := hl
  unfold m_X12_holds at hf
  refine lv_aload_n hx hb d_X12_holds_0 rfl (lv_at hl 0 rfl) ?_
  refine fm_rgr Z G F hf fr_X12_9 d_X12_holds_1 (fun q1 _ hf => ?_)
  refine lv_iconst (v := 2) hx hb d_X12_holds_4 (by decide) ?_
  refine lv_aload_n hx hb d_X12_holds_5 rfl (lv_at hl 0 rfl) ?_
  refine fm_rgr Z G F hf fr_X12_9 d_X12_holds_6 (fun q6 _ hf => ?_)
  refine lv_iconst (v := 2) hx hb d_X12_holds_9 (by decide) ?_
  refine fm_rld Z G F hf d_X12_holds_10 (fun x10 _ hf => ?_)
  refine lv_ldc (v := 999999) hx hb hown (hts _ (fm_in kw_1136 rfl)) d_X12_holds_11 ?_
  refine lv_icmp_le (tgt := 21) hx hb d_X12_holds_13 (by decide) (fun c13 => ?_) (fun c13 => ?_)
  · have hf := fm_ip c13 hf
    refine lv_aload_n hx hb d_X12_holds_21 rfl (lv_at hl 0 rfl) ?_
    refine fm_rgr Z G F hf fr_X12_9 d_X12_holds_22 (fun q22 _ hf => ?_)
    refine lv_iconst (v := 2) hx hb d_X12_holds_25 (by decide) ?_
    refine fm_rld Z G F hf d_X12_holds_26 (fun x26 _ hf => ?_)
    refine fm_rst Z G F hf d_X12_holds_27 (fun S27 H locs _ F hf => ?_)
    exact fm_retv Z hr hlk F d_X12_holds_28 (Option.some.inj hf)
  · have hf := fm_ig c13 hf
    refine lv_ldc (v := 999999) hx hb hown (hts _ (fm_in kw_1136 rfl)) d_X12_holds_16 ?_
    refine lv_goto (tgt := 27) hx hb d_X12_holds_18 (by decide) ?_
    refine fm_rst Z G F hf d_X12_holds_27 (fun S27 H locs _ F hf => ?_)
    exact fm_retv Z hr hlk F d_X12_holds_28 (Option.some.inj hf)
theorem d_X12_breathe_0 : decode prog_14_method_38_code 0 = .ok (.aload_n 0, 1) := by decide +kernel
theorem d_X12_breathe_1 : decode prog_14_method_38_code 1 = .ok (.iload_n 1, 1) := by decide +kernel
theorem d_X12_breathe_2 : decode prog_14_method_38_code 2 = .ok (.invokevirtual 140, 3) := by decide +kernel
theorem d_X12_breathe_5 : decode prog_14_method_38_code 5 = .ok (.ifCond .ne 5, 3) := by decide +kernel
theorem d_X12_breathe_8 : decode prog_14_method_38_code 8 = .ok (.iconst (-1), 1) := by decide +kernel
theorem d_X12_breathe_9 : decode prog_14_method_38_code 9 = .ok (.ireturn, 1) := by decide +kernel
theorem d_X12_breathe_10 : decode prog_14_method_38_code 10 = .ok (.aload_n 0, 1) := by decide +kernel
theorem d_X12_breathe_11 : decode prog_14_method_38_code 11 = .ok (.iload_n 1, 1) := by decide +kernel
theorem d_X12_breathe_12 : decode prog_14_method_38_code 12 = .ok (.invokevirtual 152, 3) := by decide +kernel
theorem d_X12_breathe_15 : decode prog_14_method_38_code 15 = .ok (.istore_n 2, 1) := by decide +kernel
theorem d_X12_breathe_16 : decode prog_14_method_38_code 16 = .ok (.aload_n 0, 1) := by decide +kernel
theorem d_X12_breathe_17 : decode prog_14_method_38_code 17 = .ok (.invokevirtual 155, 3) := by decide +kernel
theorem d_X12_breathe_20 : decode prog_14_method_38_code 20 = .ok (.iload_n 2, 1) := by decide +kernel
theorem d_X12_breathe_21 : decode prog_14_method_38_code 21 = .ok (.ireturn, 1) := by decide +kernel
def m_X12_breathe (kap lam : Nat → Nat) (r0 : Nat) (a1 : Int32) (S : fm_M) : Option (Int32 × fm_M) :=
  fm_ck (kap r0 == 12) <|
  fm_b1 (m_X12_isPane kap lam r0 a1 S) fun x2 =>
  if x2 = 0 then (
   some ((-1), S)
  ) else (
   fm_ck (kap r0 == 12) <|
   fm_bi (m_X12_breathes kap lam r0 a1 S) fun x12 S12 =>
   fm_ck (kap r0 == 12) <|
   fm_b1 (m_X12_holds kap lam r0 S12) fun S17 =>
   some (x12, S17)
  )
set_option maxHeartbeats 4000000 in
set_option maxRecDepth 100000 in
theorem c_X12_breathe {l : Launch} {D : va_G} {ids kap lam : Nat → Nat} {RL : List Nat} {ad sk sv : Nat → Nat} {S : fm_M} {r0 : Nat} {a1 : Int32} {r : Int32} {u : fm_M} (hE : fm_E kap RL ad) (hf : m_X12_breathe kap lam r0 a1 S = some (r, u)) (sz : Nat) : fm_MI l y_X12_breathe prog_14_method_38_code 3 (Option.some Jvm.ClassFile.FieldType.int) 3 D ids kap lam RL ad sk sv S [.ref (ad r0), .int a1] sz r u := by
  refine fm_open rfl hE (Nat.le_of_ble_eq_true rfl) (fun p e s m args below meth c ls Z hr hlk G F N hl hsz => ?_)
  subst hsz
  obtain ⟨hx, hb, hml, hown, hts⟩ := id Z
  have hl : lv_has ls 3 [(0, .ref (ad r0)), (1, .int a1)] := hl
  unfold m_X12_breathe at hf
  refine lv_aload_n hx hb d_X12_breathe_0 rfl (lv_at hl 0 rfl) ?_
  refine lv_iload_n hx hb d_X12_breathe_1 rfl (lv_at hl 1 rfl) ?_
  obtain ⟨hk2, hf⟩ := fm_some hf
  refine fm_rcr G F hf (fun r ho => fm_runV (k := 1) Z G F N (As := [.int a1]) (rest := []) (c_X12_isPane hE ho _) (by rw [eq_of_beq hk2]; decide) (by rw [eq_of_beq hk2]; rfl) kw_1075 kw_1077 kp_37 kw_6 kw_1078 yd_X12_isPane rfl (by decide) (by decide) hl.1 (Nat.le_of_ble_eq_true rfl) d_X12_breathe_2 (Nat.le_refl 0) (Nat.le_refl 0)) (fun x2 H locs _ F hf => ?_)
  refine lv_if_ne (tgt := 10) hx hb d_X12_breathe_5 (by decide) (fun c5 => ?_) (fun c5 => ?_)
  · have hf := fm_ig c5 hf
    refine lv_aload_n hx hb d_X12_breathe_10 rfl (lv_at hl 0 rfl) ?_
    refine lv_iload_n hx hb d_X12_breathe_11 rfl (lv_at hl 1 rfl) ?_
    obtain ⟨hk12, hf⟩ := fm_some hf
    refine fm_rci G F hf (fun r u ho => fm_runV (k := 1) Z G F N (As := [.int a1]) (rest := []) (c_X12_breathes hE ho _) (by rw [eq_of_beq hk12]; decide) (by rw [eq_of_beq hk12]; rfl) kw_1128 kw_1130 kp_44 kw_6 kw_1131 yd_X12_breathes rfl (by decide) (by decide) hl.1 (Nat.le_of_ble_eq_true rfl) d_X12_breathe_12 (Nat.le_refl 0) (Nat.le_refl 0)) (fun x12 S12 H locs _ F hf => ?_)
    refine lv_istore_n (lv' := [(2, .int x12), (0, .ref (ad r0)), (1, .int a1)]) hx hb d_X12_breathe_15 rfl hl (by decide) rfl (fun ls hl => ?_)
    refine lv_aload_n hx hb d_X12_breathe_16 rfl (lv_at hl 1 rfl) ?_
    obtain ⟨hk17, hf⟩ := fm_some hf
    refine fm_rcv G F hf (fun u ho => fm_runV (k := 0) Z G F N (As := []) (rest := []) (c_X12_holds hE ho _) (by rw [eq_of_beq hk17]; decide) (by rw [eq_of_beq hk17]; rfl) kw_1132 kw_1134 kp_45 kw_6 kw_1135 yd_X12_holds rfl (by decide) (by decide) hl.1 (Nat.le_of_ble_eq_true rfl) d_X12_breathe_17 (Nat.le_refl 0) (Nat.le_refl 0)) (fun S17 H locs _ F hf => ?_)
    refine lv_iload_n hx hb d_X12_breathe_20 rfl (lv_at hl 0 rfl) ?_
    exact fm_reti Z hr hlk F d_X12_breathe_21 (Prod.mk.inj (Option.some.inj hf)).1 (Prod.mk.inj (Option.some.inj hf)).2
  · have hf := fm_ip c5 hf
    refine lv_iconst (v := (-1)) hx hb d_X12_breathe_8 (by decide) ?_
    exact fm_reti Z hr hlk F d_X12_breathe_9 (Prod.mk.inj (Option.some.inj hf)).1 (Prod.mk.inj (Option.some.inj hf)).2
theorem d_X12_shutOnes_0 : decode prog_14_method_39_code 0 = .ok (.iconst 0, 1) := by decide +kernel
theorem d_X12_shutOnes_1 : decode prog_14_method_39_code 1 = .ok (.istore_n 1, 1) := by decide +kernel
theorem d_X12_shutOnes_2 : decode prog_14_method_39_code 2 = .ok (.iconst 0, 1) := by decide +kernel
theorem d_X12_shutOnes_3 : decode prog_14_method_39_code 3 = .ok (.istore_n 2, 1) := by decide +kernel
theorem d_X12_shutOnes_4 : decode prog_14_method_39_code 4 = .ok (.iload_n 2, 1) := by decide +kernel
theorem d_X12_shutOnes_5 : decode prog_14_method_39_code 5 = .ok (.aload_n 0, 1) := by decide +kernel
theorem d_X12_shutOnes_6 : decode prog_14_method_39_code 6 = .ok (.getfield 9, 3) := by decide +kernel
theorem d_X12_shutOnes_9 : decode prog_14_method_39_code 9 = .ok (.bipush 21, 2) := by decide +kernel
theorem d_X12_shutOnes_11 : decode prog_14_method_39_code 11 = .ok (.iaload, 1) := by decide +kernel
theorem d_X12_shutOnes_12 : decode prog_14_method_39_code 12 = .ok (.if_icmp .ge 23, 3) := by decide +kernel
theorem d_X12_shutOnes_15 : decode prog_14_method_39_code 15 = .ok (.iload_n 1, 1) := by decide +kernel
theorem d_X12_shutOnes_16 : decode prog_14_method_39_code 16 = .ok (.aload_n 0, 1) := by decide +kernel
theorem d_X12_shutOnes_17 : decode prog_14_method_39_code 17 = .ok (.getfield 9, 3) := by decide +kernel
theorem d_X12_shutOnes_20 : decode prog_14_method_39_code 20 = .ok (.bipush 9, 2) := by decide +kernel
theorem d_X12_shutOnes_22 : decode prog_14_method_39_code 22 = .ok (.iload_n 2, 1) := by decide +kernel
theorem d_X12_shutOnes_23 : decode prog_14_method_39_code 23 = .ok (.iadd, 1) := by decide +kernel
theorem d_X12_shutOnes_24 : decode prog_14_method_39_code 24 = .ok (.iaload, 1) := by decide +kernel
theorem d_X12_shutOnes_25 : decode prog_14_method_39_code 25 = .ok (.iload_n 2, 1) := by decide +kernel
theorem d_X12_shutOnes_26 : decode prog_14_method_39_code 26 = .ok (.ishl, 1) := by decide +kernel
theorem d_X12_shutOnes_27 : decode prog_14_method_39_code 27 = .ok (.ior, 1) := by decide +kernel
theorem d_X12_shutOnes_28 : decode prog_14_method_39_code 28 = .ok (.istore_n 1, 1) := by decide +kernel
theorem d_X12_shutOnes_29 : decode prog_14_method_39_code 29 = .ok (.iinc 2 1, 3) := by decide +kernel
theorem d_X12_shutOnes_32 : decode prog_14_method_39_code 32 = .ok (.goto (-28), 3) := by decide +kernel
theorem d_X12_shutOnes_35 : decode prog_14_method_39_code 35 = .ok (.iload_n 1, 1) := by decide +kernel
theorem d_X12_shutOnes_36 : decode prog_14_method_39_code 36 = .ok (.ireturn, 1) := by decide +kernel
def k_X12_shutOnes_4 (kap lam : Nat → Nat) (S : fm_M) (go4 : Nat → Int32 → Int32 → Option Int32) (r0 : Nat) (a1 : Int32) (a2 : Int32)  : Option Int32 :=
  fm_gr kap 12 r0 1 S fun q6 =>
  fm_ld kap lam 13 q6 21 S fun x11 =>
  if x11 ≤ a2 then (
   some a1
  ) else (
   fm_gr kap 12 r0 1 S fun q17 =>
   fm_ld kap lam 13 q17 (9 + a2) S fun x24 =>
   fm_let (a1 ||| (x24 <<< (a2 &&& 31)) : Int32) fun x28 =>
   fm_let (a2 + 1 : Int32) fun x29 =>
   go4 r0 x28 x29
  )
def b_X12_shutOnes_4 (kap lam : Nat → Nat) (S : fm_M) : Nat → Nat → Int32 → Int32 → Option Int32
  | 0 => fun _ _ _ => none
  | n + 1 => k_X12_shutOnes_4 kap lam S (b_X12_shutOnes_4 kap lam S n)
def m_X12_shutOnes (kap lam : Nat → Nat) (r0 : Nat) (S : fm_M) : Option Int32 :=
  fm_let (0 : Int32) fun x1 =>
  fm_let (0 : Int32) fun x3 =>
  b_X12_shutOnes_4 kap lam S fm_LF r0 x1 x3
set_option maxHeartbeats 4000000 in
set_option maxRecDepth 100000 in
theorem c_X12_shutOnes {l : Launch} {D : va_G} {ids kap lam : Nat → Nat} {RL : List Nat} {ad sk sv : Nat → Nat} {S : fm_M} {r0 : Nat} {r : Int32} (hE : fm_E kap RL ad) (hf : m_X12_shutOnes kap lam r0 S = some r) (sz : Nat) : fm_MI l y_X12_shutOnes prog_14_method_39_code 3 (Option.some Jvm.ClassFile.FieldType.int) 0 D ids kap lam RL ad sk sv S [.ref (ad r0)] sz r S := by
  refine fm_open rfl hE (Nat.le_of_ble_eq_true rfl) (fun p e s m args below meth c ls Z hr hlk G F N hl hsz => ?_)
  subst hsz
  obtain ⟨hx, hb, hml, hown, hts⟩ := id Z
  have hl : lv_has ls 3 [(0, .ref (ad r0))] := hl
  generalize hQ : MQ below _ args s 0 0 (fm_A RL ad s.heap.size) = Qf
  have hL : ∀ n : Nat, (∀ (r0 : Nat) (a1 : Int32) (a2 : Int32)  (H : Heap) (locs : List Loc) (ls : Array Slot), fm_F D ids kap lam RL ad S (fm_A RL ad s.heap.size) s.heap H locs → lv_has ls 3 [(0, .ref (ad r0)), (1, .int a1), (2, .int a2)] → b_X12_shutOnes_4 kap lam S n r0 a1 a2 = some r → W p l e (fm_rm 0) s m args below meth c H locs 0 0 Qf (F0 m 4 ls [])) := by
    intro n
    induction n with
    | zero => exact fun _ _ _ _ _ _ _ _ hf => absurd hf (by intro h; cases h)
    | succ n ih =>
      intro r0 a1 a2 H locs ls F hl hf
      have hf : k_X12_shutOnes_4 kap lam S (b_X12_shutOnes_4 kap lam S n) r0 a1 a2 = some r := hf
      unfold k_X12_shutOnes_4 at hf
      refine lv_iload_n hx hb d_X12_shutOnes_4 rfl (lv_at hl 2 rfl) ?_
      refine lv_aload_n hx hb d_X12_shutOnes_5 rfl (lv_at hl 0 rfl) ?_
      refine fm_rgr Z G F hf fr_X12_9 d_X12_shutOnes_6 (fun q6 _ hf => ?_)
      refine lv_bipush (v := 21) hx hb d_X12_shutOnes_9 (by decide) ?_
      refine fm_rld Z G F hf d_X12_shutOnes_11 (fun x11 _ hf => ?_)
      refine lv_icmp_ge (tgt := 35) hx hb d_X12_shutOnes_12 (by decide) (fun c12 => ?_) (fun c12 => ?_)
      · have hf := fm_ip c12 hf
        refine lv_iload_n hx hb d_X12_shutOnes_35 rfl (lv_at hl 1 rfl) ?_
        rw [← hQ]; exact fm_reti Z hr hlk F d_X12_shutOnes_36 (Option.some.inj hf) rfl
      · have hf := fm_ig c12 hf
        refine lv_iload_n hx hb d_X12_shutOnes_15 rfl (lv_at hl 1 rfl) ?_
        refine lv_aload_n hx hb d_X12_shutOnes_16 rfl (lv_at hl 0 rfl) ?_
        refine fm_rgr Z G F hf fr_X12_9 d_X12_shutOnes_17 (fun q17 _ hf => ?_)
        refine lv_bipush (v := 9) hx hb d_X12_shutOnes_20 (by decide) ?_
        refine lv_iload_n hx hb d_X12_shutOnes_22 rfl (lv_at hl 2 rfl) ?_
        refine lv_iadd hx hb d_X12_shutOnes_23 ?_
        refine fm_rld Z G F hf d_X12_shutOnes_24 (fun x24 _ hf => ?_)
        refine lv_iload_n hx hb d_X12_shutOnes_25 rfl (lv_at hl 2 rfl) ?_
        refine lv_ishl hx hb d_X12_shutOnes_26 ?_
        refine lv_ior hx hb d_X12_shutOnes_27 ?_
        refine lv_topi (fun x28 ex28 => ?_)
        have hf := fm_let_at ex28 hf
        refine lv_istore_n (lv' := [(1, .int x28), (0, .ref (ad r0)), (2, .int a2)]) hx hb d_X12_shutOnes_28 rfl hl (by decide) rfl (fun ls hl => ?_)
        obtain ⟨x29, ex29⟩ : ∃ y : Int32, y = a2 + 1 := ⟨_, rfl⟩
        have hf := fm_let_at ex29 hf
        refine lv_iinc (v := x29) (lv' := [(2, .int x29), (1, .int x28), (0, .ref (ad r0))]) hx hb d_X12_shutOnes_29 hl (k := 2) rfl (by rw [ex29]; rfl) (by decide) rfl (fun ls hl => ?_)
        refine lv_goto (tgt := 4) hx hb d_X12_shutOnes_32 (by decide) ?_
        exact ih r0 x28 x29 _ _ _ F (lv_sub hl [2, 1, 0] rfl) hf
  unfold m_X12_shutOnes at hf
  refine lv_iconst (v := 0) hx hb d_X12_shutOnes_0 (by decide) ?_
  refine lv_topi (fun x1 ex1 => ?_)
  have hf := fm_let_at ex1 hf
  refine lv_istore_n (lv' := [(1, .int x1), (0, .ref (ad r0))]) hx hb d_X12_shutOnes_1 rfl hl (by decide) rfl (fun ls hl => ?_)
  refine lv_iconst (v := 0) hx hb d_X12_shutOnes_2 (by decide) ?_
  refine lv_topi (fun x3 ex3 => ?_)
  have hf := fm_let_at ex3 hf
  refine lv_istore_n (lv' := [(2, .int x3), (1, .int x1), (0, .ref (ad r0))]) hx hb d_X12_shutOnes_3 rfl hl (by decide) rfl (fun ls hl => ?_)
  exact (hL fm_LF) r0 x1 x3 _ _ _ F (lv_sub hl [2, 1, 0] rfl) hf
theorem d_X12_told_0 : decode prog_14_method_40_code 0 = .ok (.iload_n 1, 1) := by decide +kernel
theorem d_X12_told_1 : decode prog_14_method_40_code 1 = .ok (.tableswitch 92 0 6 #[43, 50, 57, 66, 75, 82, 87], 43) := by decide +kernel
theorem d_X12_told_44 : decode prog_14_method_40_code 44 = .ok (.aload_n 0, 1) := by decide +kernel
theorem d_X12_told_45 : decode prog_14_method_40_code 45 = .ok (.getfield 9, 3) := by decide +kernel
theorem d_X12_told_48 : decode prog_14_method_40_code 48 = .ok (.iconst 0, 1) := by decide +kernel
theorem d_X12_told_49 : decode prog_14_method_40_code 49 = .ok (.iaload, 1) := by decide +kernel
theorem d_X12_told_50 : decode prog_14_method_40_code 50 = .ok (.ireturn, 1) := by decide +kernel
theorem d_X12_told_51 : decode prog_14_method_40_code 51 = .ok (.aload_n 0, 1) := by decide +kernel
theorem d_X12_told_52 : decode prog_14_method_40_code 52 = .ok (.getfield 9, 3) := by decide +kernel
theorem d_X12_told_55 : decode prog_14_method_40_code 55 = .ok (.iconst 1, 1) := by decide +kernel
theorem d_X12_told_56 : decode prog_14_method_40_code 56 = .ok (.iaload, 1) := by decide +kernel
theorem d_X12_told_57 : decode prog_14_method_40_code 57 = .ok (.ireturn, 1) := by decide +kernel
theorem d_X12_told_58 : decode prog_14_method_40_code 58 = .ok (.aload_n 0, 1) := by decide +kernel
theorem d_X12_told_59 : decode prog_14_method_40_code 59 = .ok (.sipush 211, 3) := by decide +kernel
theorem d_X12_told_62 : decode prog_14_method_40_code 62 = .ok (.iconst 3, 1) := by decide +kernel
theorem d_X12_told_63 : decode prog_14_method_40_code 63 = .ok (.invokevirtual 130, 3) := by decide +kernel
theorem d_X12_told_66 : decode prog_14_method_40_code 66 = .ok (.ireturn, 1) := by decide +kernel
theorem d_X12_told_67 : decode prog_14_method_40_code 67 = .ok (.aload_n 0, 1) := by decide +kernel
theorem d_X12_told_68 : decode prog_14_method_40_code 68 = .ok (.sipush 216, 3) := by decide +kernel
theorem d_X12_told_71 : decode prog_14_method_40_code 71 = .ok (.iconst 2, 1) := by decide +kernel
theorem d_X12_told_72 : decode prog_14_method_40_code 72 = .ok (.invokevirtual 130, 3) := by decide +kernel
theorem d_X12_told_75 : decode prog_14_method_40_code 75 = .ok (.ireturn, 1) := by decide +kernel
theorem d_X12_told_76 : decode prog_14_method_40_code 76 = .ok (.aload_n 0, 1) := by decide +kernel
theorem d_X12_told_77 : decode prog_14_method_40_code 77 = .ok (.getfield 9, 3) := by decide +kernel
theorem d_X12_told_80 : decode prog_14_method_40_code 80 = .ok (.iconst 2, 1) := by decide +kernel
theorem d_X12_told_81 : decode prog_14_method_40_code 81 = .ok (.iaload, 1) := by decide +kernel
theorem d_X12_told_82 : decode prog_14_method_40_code 82 = .ok (.ireturn, 1) := by decide +kernel
theorem d_X12_told_83 : decode prog_14_method_40_code 83 = .ok (.aload_n 0, 1) := by decide +kernel
theorem d_X12_told_84 : decode prog_14_method_40_code 84 = .ok (.invokevirtual 158, 3) := by decide +kernel
theorem d_X12_told_87 : decode prog_14_method_40_code 87 = .ok (.ireturn, 1) := by decide +kernel
theorem d_X12_told_88 : decode prog_14_method_40_code 88 = .ok (.aload_n 0, 1) := by decide +kernel
theorem d_X12_told_89 : decode prog_14_method_40_code 89 = .ok (.invokevirtual 161, 3) := by decide +kernel
theorem d_X12_told_92 : decode prog_14_method_40_code 92 = .ok (.ireturn, 1) := by decide +kernel
theorem d_X12_told_93 : decode prog_14_method_40_code 93 = .ok (.iconst (-1), 1) := by decide +kernel
theorem d_X12_told_94 : decode prog_14_method_40_code 94 = .ok (.ireturn, 1) := by decide +kernel
def m_X12_told (kap lam : Nat → Nat) (r0 : Nat) (a1 : Int32) (S : fm_M) : Option Int32 :=
  if a1 = 0 then (
   fm_gr kap 12 r0 1 S fun q45 =>
   fm_ld kap lam 13 q45 0 S fun x49 =>
   some x49
  ) else (
   if a1 = 1 then (
    fm_gr kap 12 r0 1 S fun q52 =>
    fm_ld kap lam 13 q52 1 S fun x56 =>
    some x56
   ) else (
    if a1 = 2 then (
     fm_ck (kap r0 == 12) <|
     fm_b1 (m_X12_tellsOf kap lam r0 211 3 S) fun x63 =>
     some x63
    ) else (
     if a1 = 3 then (
      fm_ck (kap r0 == 12) <|
      fm_b1 (m_X12_tellsOf kap lam r0 216 2 S) fun x72 =>
      some x72
     ) else (
      if a1 = 4 then (
       fm_gr kap 12 r0 1 S fun q77 =>
       fm_ld kap lam 13 q77 2 S fun x81 =>
       some x81
      ) else (
       if a1 = 5 then (
        fm_ck (kap r0 == 12) <|
        fm_b1 (m_X12_offers kap lam r0 S) fun x84 =>
        some x84
       ) else (
        if a1 = 6 then (
         fm_ck (kap r0 == 12) <|
         fm_b1 (m_X12_shutOnes kap lam r0 S) fun x89 =>
         some x89
        ) else (
         some (-1)
        )
       )
      )
     )
    )
   )
  )
set_option maxHeartbeats 4000000 in
set_option maxRecDepth 100000 in
theorem c_X12_told {l : Launch} {D : va_G} {ids kap lam : Nat → Nat} {RL : List Nat} {ad sk sv : Nat → Nat} {S : fm_M} {r0 : Nat} {a1 : Int32} {r : Int32} (hE : fm_E kap RL ad) (hf : m_X12_told kap lam r0 a1 S = some r) (sz : Nat) : fm_MI l y_X12_told prog_14_method_40_code 2 (Option.some Jvm.ClassFile.FieldType.int) 3 D ids kap lam RL ad sk sv S [.ref (ad r0), .int a1] sz r S := by
  refine fm_open rfl hE (Nat.le_of_ble_eq_true rfl) (fun p e s m args below meth c ls Z hr hlk G F N hl hsz => ?_)
  subst hsz
  obtain ⟨hx, hb, hml, hown, hts⟩ := id Z
  have hl : lv_has ls 2 [(0, .ref (ad r0)), (1, .int a1)] := hl
  unfold m_X12_told at hf
  refine lv_iload_n hx hb d_X12_told_0 rfl (lv_at hl 1 rfl) ?_
  by_cases w1_0 : a1 = 0
  · have hf := fm_ip w1_0 hf
    refine lv_tableIn (off := 43) (tgt := 44) hx hb d_X12_told_1 (by rw [w1_0]; decide) (by rw [w1_0]; decide) (by rw [w1_0]; rfl) (by decide) ?_
    refine lv_aload_n hx hb d_X12_told_44 rfl (lv_at hl 0 rfl) ?_
    refine fm_rgr Z G F hf fr_X12_9 d_X12_told_45 (fun q45 _ hf => ?_)
    refine lv_iconst (v := 0) hx hb d_X12_told_48 (by decide) ?_
    refine fm_rld Z G F hf d_X12_told_49 (fun x49 _ hf => ?_)
    exact fm_reti Z hr hlk F d_X12_told_50 (Option.some.inj hf) rfl
  have hf := fm_ig w1_0 hf
  by_cases w1_1 : a1 = 1
  · have hf := fm_ip w1_1 hf
    refine lv_tableIn (off := 50) (tgt := 51) hx hb d_X12_told_1 (by rw [w1_1]; decide) (by rw [w1_1]; decide) (by rw [w1_1]; rfl) (by decide) ?_
    refine lv_aload_n hx hb d_X12_told_51 rfl (lv_at hl 0 rfl) ?_
    refine fm_rgr Z G F hf fr_X12_9 d_X12_told_52 (fun q52 _ hf => ?_)
    refine lv_iconst (v := 1) hx hb d_X12_told_55 (by decide) ?_
    refine fm_rld Z G F hf d_X12_told_56 (fun x56 _ hf => ?_)
    exact fm_reti Z hr hlk F d_X12_told_57 (Option.some.inj hf) rfl
  have hf := fm_ig w1_1 hf
  by_cases w1_2 : a1 = 2
  · have hf := fm_ip w1_2 hf
    refine lv_tableIn (off := 57) (tgt := 58) hx hb d_X12_told_1 (by rw [w1_2]; decide) (by rw [w1_2]; decide) (by rw [w1_2]; rfl) (by decide) ?_
    refine lv_aload_n hx hb d_X12_told_58 rfl (lv_at hl 0 rfl) ?_
    refine lv_sipush (v := 211) hx hb d_X12_told_59 (by decide) ?_
    refine lv_iconst (v := 3) hx hb d_X12_told_62 (by decide) ?_
    obtain ⟨hk63, hf⟩ := fm_some hf
    refine fm_rcr G F hf (fun r ho => fm_runV (k := 2) Z G F N (As := [.int 211, .int 3]) (rest := []) (c_X12_tellsOf hE ho _) (by rw [eq_of_beq hk63]; decide) (by rw [eq_of_beq hk63]; rfl) kw_1083 kw_1085 kp_39 kw_6 kw_1086 yd_X12_tellsOf rfl (by decide) (by decide) hl.1 (Nat.le_of_ble_eq_true rfl) d_X12_told_63 (Nat.le_refl 0) (Nat.le_refl 0)) (fun x63 H locs _ F hf => ?_)
    exact fm_reti Z hr hlk F d_X12_told_66 (Option.some.inj hf) rfl
  have hf := fm_ig w1_2 hf
  by_cases w1_3 : a1 = 3
  · have hf := fm_ip w1_3 hf
    refine lv_tableIn (off := 66) (tgt := 67) hx hb d_X12_told_1 (by rw [w1_3]; decide) (by rw [w1_3]; decide) (by rw [w1_3]; rfl) (by decide) ?_
    refine lv_aload_n hx hb d_X12_told_67 rfl (lv_at hl 0 rfl) ?_
    refine lv_sipush (v := 216) hx hb d_X12_told_68 (by decide) ?_
    refine lv_iconst (v := 2) hx hb d_X12_told_71 (by decide) ?_
    obtain ⟨hk72, hf⟩ := fm_some hf
    refine fm_rcr G F hf (fun r ho => fm_runV (k := 2) Z G F N (As := [.int 216, .int 2]) (rest := []) (c_X12_tellsOf hE ho _) (by rw [eq_of_beq hk72]; decide) (by rw [eq_of_beq hk72]; rfl) kw_1083 kw_1085 kp_39 kw_6 kw_1086 yd_X12_tellsOf rfl (by decide) (by decide) hl.1 (Nat.le_of_ble_eq_true rfl) d_X12_told_72 (Nat.le_refl 0) (Nat.le_refl 0)) (fun x72 H locs _ F hf => ?_)
    exact fm_reti Z hr hlk F d_X12_told_75 (Option.some.inj hf) rfl
  have hf := fm_ig w1_3 hf
  by_cases w1_4 : a1 = 4
  · have hf := fm_ip w1_4 hf
    refine lv_tableIn (off := 75) (tgt := 76) hx hb d_X12_told_1 (by rw [w1_4]; decide) (by rw [w1_4]; decide) (by rw [w1_4]; rfl) (by decide) ?_
    refine lv_aload_n hx hb d_X12_told_76 rfl (lv_at hl 0 rfl) ?_
    refine fm_rgr Z G F hf fr_X12_9 d_X12_told_77 (fun q77 _ hf => ?_)
    refine lv_iconst (v := 2) hx hb d_X12_told_80 (by decide) ?_
    refine fm_rld Z G F hf d_X12_told_81 (fun x81 _ hf => ?_)
    exact fm_reti Z hr hlk F d_X12_told_82 (Option.some.inj hf) rfl
  have hf := fm_ig w1_4 hf
  by_cases w1_5 : a1 = 5
  · have hf := fm_ip w1_5 hf
    refine lv_tableIn (off := 82) (tgt := 83) hx hb d_X12_told_1 (by rw [w1_5]; decide) (by rw [w1_5]; decide) (by rw [w1_5]; rfl) (by decide) ?_
    refine lv_aload_n hx hb d_X12_told_83 rfl (lv_at hl 0 rfl) ?_
    obtain ⟨hk84, hf⟩ := fm_some hf
    refine fm_rcr G F hf (fun r ho => fm_runV (k := 0) Z G F N (As := []) (rest := []) (c_X12_offers hE ho _) (by rw [eq_of_beq hk84]; decide) (by rw [eq_of_beq hk84]; rfl) kw_1141 kw_1143 kp_46 kw_6 kw_1144 yd_X12_offers rfl (by decide) (by decide) hl.1 (Nat.le_of_ble_eq_true rfl) d_X12_told_84 (Nat.le_refl 0) (Nat.le_refl 0)) (fun x84 H locs _ F hf => ?_)
    exact fm_reti Z hr hlk F d_X12_told_87 (Option.some.inj hf) rfl
  have hf := fm_ig w1_5 hf
  by_cases w1_6 : a1 = 6
  · have hf := fm_ip w1_6 hf
    refine lv_tableIn (off := 87) (tgt := 88) hx hb d_X12_told_1 (by rw [w1_6]; decide) (by rw [w1_6]; decide) (by rw [w1_6]; rfl) (by decide) ?_
    refine lv_aload_n hx hb d_X12_told_88 rfl (lv_at hl 0 rfl) ?_
    obtain ⟨hk89, hf⟩ := fm_some hf
    refine fm_rcr G F hf (fun r ho => fm_runV (k := 0) Z G F N (As := []) (rest := []) (c_X12_shutOnes hE ho _) (by rw [eq_of_beq hk89]; decide) (by rw [eq_of_beq hk89]; rfl) kw_1145 kw_1147 kp_47 kw_6 kw_1148 yd_X12_shutOnes rfl (by decide) (by decide) hl.1 (Nat.le_of_ble_eq_true rfl) d_X12_told_89 (Nat.le_refl 0) (Nat.le_refl 0)) (fun x89 H locs _ F hf => ?_)
    exact fm_reti Z hr hlk F d_X12_told_92 (Option.some.inj hf) rfl
  have hf := fm_ig w1_6 hf
  have z1_0 := lv_neT (a := 0) w1_0 (by decide)
  have z1_1 := lv_neT (a := 1) w1_1 (by decide)
  have z1_2 := lv_neT (a := 2) w1_2 (by decide)
  have z1_3 := lv_neT (a := 3) w1_3 (by decide)
  have z1_4 := lv_neT (a := 4) w1_4 (by decide)
  have z1_5 := lv_neT (a := 5) w1_5 (by decide)
  have z1_6 := lv_neT (a := 6) w1_6 (by decide)
  refine lv_tableOut (tgt := 93) hx hb d_X12_told_1 (by omega) (by decide) ?_
  refine lv_iconst (v := (-1)) hx hb d_X12_told_93 (by decide) ?_
  exact fm_reti Z hr hlk F d_X12_told_94 (Option.some.inj hf) rfl
theorem d_X12_willBe_0 : decode prog_14_method_41_code 0 = .ok (.aload_n 0, 1) := by decide +kernel
theorem d_X12_willBe_1 : decode prog_14_method_41_code 1 = .ok (.getfield 9, 3) := by decide +kernel
theorem d_X12_willBe_4 : decode prog_14_method_41_code 4 = .ok (.iconst 3, 1) := by decide +kernel
theorem d_X12_willBe_5 : decode prog_14_method_41_code 5 = .ok (.iload_n 1, 1) := by decide +kernel
theorem d_X12_willBe_6 : decode prog_14_method_41_code 6 = .ok (.iadd, 1) := by decide +kernel
theorem d_X12_willBe_7 : decode prog_14_method_41_code 7 = .ok (.iaload, 1) := by decide +kernel
theorem d_X12_willBe_8 : decode prog_14_method_41_code 8 = .ok (.iload_n 2, 1) := by decide +kernel
theorem d_X12_willBe_9 : decode prog_14_method_41_code 9 = .ok (.ishr, 1) := by decide +kernel
theorem d_X12_willBe_10 : decode prog_14_method_41_code 10 = .ok (.iconst 1, 1) := by decide +kernel
theorem d_X12_willBe_11 : decode prog_14_method_41_code 11 = .ok (.iand, 1) := by decide +kernel
theorem d_X12_willBe_12 : decode prog_14_method_41_code 12 = .ok (.iconst 1, 1) := by decide +kernel
theorem d_X12_willBe_13 : decode prog_14_method_41_code 13 = .ok (.if_icmp .ne 7, 3) := by decide +kernel
theorem d_X12_willBe_16 : decode prog_14_method_41_code 16 = .ok (.iconst 1, 1) := by decide +kernel
theorem d_X12_willBe_17 : decode prog_14_method_41_code 17 = .ok (.goto 4, 3) := by decide +kernel
theorem d_X12_willBe_20 : decode prog_14_method_41_code 20 = .ok (.iconst 0, 1) := by decide +kernel
theorem d_X12_willBe_21 : decode prog_14_method_41_code 21 = .ok (.istore_n 3, 1) := by decide +kernel
theorem d_X12_willBe_22 : decode prog_14_method_41_code 22 = .ok (.aload_n 0, 1) := by decide +kernel
theorem d_X12_willBe_23 : decode prog_14_method_41_code 23 = .ok (.iload_n 1, 1) := by decide +kernel
theorem d_X12_willBe_24 : decode prog_14_method_41_code 24 = .ok (.iload_n 2, 1) := by decide +kernel
theorem d_X12_willBe_25 : decode prog_14_method_41_code 25 = .ok (.invokevirtual 144, 3) := by decide +kernel
theorem d_X12_willBe_28 : decode prog_14_method_41_code 28 = .ok (.istore 4, 2) := by decide +kernel
theorem d_X12_willBe_30 : decode prog_14_method_41_code 30 = .ok (.iload_n 3, 1) := by decide +kernel
theorem d_X12_willBe_31 : decode prog_14_method_41_code 31 = .ok (.ifCond .eq 18, 3) := by decide +kernel
theorem d_X12_willBe_34 : decode prog_14_method_41_code 34 = .ok (.iload 4, 2) := by decide +kernel
theorem d_X12_willBe_36 : decode prog_14_method_41_code 36 = .ok (.bipush (-10), 2) := by decide +kernel
theorem d_X12_willBe_38 : decode prog_14_method_41_code 38 = .ok (.if_icmp .le 7, 3) := by decide +kernel
theorem d_X12_willBe_41 : decode prog_14_method_41_code 41 = .ok (.iconst 1, 1) := by decide +kernel
theorem d_X12_willBe_42 : decode prog_14_method_41_code 42 = .ok (.goto 30, 3) := by decide +kernel
theorem d_X12_willBe_45 : decode prog_14_method_41_code 45 = .ok (.iconst 0, 1) := by decide +kernel
theorem d_X12_willBe_46 : decode prog_14_method_41_code 46 = .ok (.goto 26, 3) := by decide +kernel
theorem d_X12_willBe_49 : decode prog_14_method_41_code 49 = .ok (.iload 4, 2) := by decide +kernel
theorem d_X12_willBe_51 : decode prog_14_method_41_code 51 = .ok (.ifCond .le 20, 3) := by decide +kernel
theorem d_X12_willBe_54 : decode prog_14_method_41_code 54 = .ok (.iload_n 2, 1) := by decide +kernel
theorem d_X12_willBe_55 : decode prog_14_method_41_code 55 = .ok (.ifCond .eq 12, 3) := by decide +kernel
theorem d_X12_willBe_58 : decode prog_14_method_41_code 58 = .ok (.aload_n 0, 1) := by decide +kernel
theorem d_X12_willBe_59 : decode prog_14_method_41_code 59 = .ok (.iload_n 1, 1) := by decide +kernel
theorem d_X12_willBe_60 : decode prog_14_method_41_code 60 = .ok (.iload_n 2, 1) := by decide +kernel
theorem d_X12_willBe_61 : decode prog_14_method_41_code 61 = .ok (.invokevirtual 126, 3) := by decide +kernel
theorem d_X12_willBe_64 : decode prog_14_method_41_code 64 = .ok (.ifCond .le 7, 3) := by decide +kernel
theorem d_X12_willBe_67 : decode prog_14_method_41_code 67 = .ok (.iconst 1, 1) := by decide +kernel
theorem d_X12_willBe_68 : decode prog_14_method_41_code 68 = .ok (.goto 4, 3) := by decide +kernel
theorem d_X12_willBe_71 : decode prog_14_method_41_code 71 = .ok (.iconst 0, 1) := by decide +kernel
theorem d_X12_willBe_72 : decode prog_14_method_41_code 72 = .ok (.ireturn, 1) := by decide +kernel
def m_X12_willBe (kap lam : Nat → Nat) (r0 : Nat) (a1 : Int32) (a2 : Int32) (S : fm_M) : Option (Int32 × fm_M) :=
  fm_gr kap 12 r0 1 S fun q1 =>
  fm_ld kap lam 13 q1 (3 + a1) S fun x7 =>
  if ((x7 >>> (a2 &&& 31)) &&& 1) = 1 then (
   fm_let (1 : Int32) fun x21 =>
   fm_ck (kap r0 == 12) <|
   fm_bi (m_X12_growsOf kap lam r0 a1 a2 S) fun x25 S25 =>
   if x21 = 0 then (
    if x25 ≤ 0 then (
     fm_z 0 (some (0, S25))
    ) else (
     if a2 = 0 then (
      fm_z 1 (some (1, S25))
     ) else (
      fm_ck (kap r0 == 12) <|
      fm_b1 (m_X12_besides kap lam r0 a1 a2 S25) fun x61 =>
      if x61 ≤ 0 then (
       fm_z 0 (some (0, S25))
      ) else (
       fm_z 1 (some (1, S25))
      )
     )
    )
   ) else (
    if x25 ≤ (-10) then (
     fm_z 0 (some (0, S25))
    ) else (
     fm_z 1 (some (1, S25))
    )
   )
  ) else (
   fm_let (0 : Int32) fun x21 =>
   fm_ck (kap r0 == 12) <|
   fm_bi (m_X12_growsOf kap lam r0 a1 a2 S) fun x25 S25 =>
   if x21 = 0 then (
    if x25 ≤ 0 then (
     fm_z 0 (some (0, S25))
    ) else (
     if a2 = 0 then (
      fm_z 1 (some (1, S25))
     ) else (
      fm_ck (kap r0 == 12) <|
      fm_b1 (m_X12_besides kap lam r0 a1 a2 S25) fun x61 =>
      if x61 ≤ 0 then (
       fm_z 0 (some (0, S25))
      ) else (
       fm_z 1 (some (1, S25))
      )
     )
    )
   ) else (
    if x25 ≤ (-10) then (
     fm_z 0 (some (0, S25))
    ) else (
     fm_z 1 (some (1, S25))
    )
   )
  )
set_option maxHeartbeats 4000000 in
set_option maxRecDepth 100000 in
theorem c_X12_willBe {l : Launch} {D : va_G} {ids kap lam : Nat → Nat} {RL : List Nat} {ad sk sv : Nat → Nat} {S : fm_M} {r0 : Nat} {a1 : Int32} {a2 : Int32} {r : Int32} {u : fm_M} (hE : fm_E kap RL ad) (hf : m_X12_willBe kap lam r0 a1 a2 S = some (r, u)) (sz : Nat) : fm_MI l y_X12_willBe prog_14_method_41_code 5 (Option.some Jvm.ClassFile.FieldType.boolean) 3 D ids kap lam RL ad sk sv S [.ref (ad r0), .int a1, .int a2] sz r u := by
  refine fm_open rfl hE (Nat.le_of_ble_eq_true rfl) (fun p e s m args below meth c ls Z hr hlk G F N hl hsz => ?_)
  subst hsz
  obtain ⟨hx, hb, hml, hown, hts⟩ := id Z
  have hl : lv_has ls 5 [(0, .ref (ad r0)), (1, .int a1), (2, .int a2)] := hl
  unfold m_X12_willBe at hf
  refine lv_aload_n hx hb d_X12_willBe_0 rfl (lv_at hl 0 rfl) ?_
  refine fm_rgr Z G F hf fr_X12_9 d_X12_willBe_1 (fun q1 _ hf => ?_)
  refine lv_iconst (v := 3) hx hb d_X12_willBe_4 (by decide) ?_
  refine lv_iload_n hx hb d_X12_willBe_5 rfl (lv_at hl 1 rfl) ?_
  refine lv_iadd hx hb d_X12_willBe_6 ?_
  refine fm_rld Z G F hf d_X12_willBe_7 (fun x7 _ hf => ?_)
  refine lv_iload_n hx hb d_X12_willBe_8 rfl (lv_at hl 2 rfl) ?_
  refine lv_ishr hx hb d_X12_willBe_9 ?_
  refine lv_iconst (v := 1) hx hb d_X12_willBe_10 (by decide) ?_
  refine lv_iand hx hb d_X12_willBe_11 ?_
  refine lv_iconst (v := 1) hx hb d_X12_willBe_12 (by decide) ?_
  refine lv_icmp_ne (tgt := 20) hx hb d_X12_willBe_13 (by decide) (fun c13 => ?_) (fun c13 => ?_)
  · have hf := fm_ig c13 hf
    refine lv_iconst (v := 0) hx hb d_X12_willBe_20 (by decide) ?_
    refine lv_topi (fun x21 ex21 => ?_)
    have hf := fm_let_at ex21 hf
    refine lv_istore_n (lv' := [(3, .int x21), (0, .ref (ad r0)), (1, .int a1), (2, .int a2)]) hx hb d_X12_willBe_21 rfl hl (by decide) rfl (fun ls hl => ?_)
    refine lv_aload_n hx hb d_X12_willBe_22 rfl (lv_at hl 1 rfl) ?_
    refine lv_iload_n hx hb d_X12_willBe_23 rfl (lv_at hl 2 rfl) ?_
    refine lv_iload_n hx hb d_X12_willBe_24 rfl (lv_at hl 3 rfl) ?_
    obtain ⟨hk25, hf⟩ := fm_some hf
    refine fm_rci G F hf (fun r u ho => fm_runV (k := 2) Z G F N (As := [.int a1, .int a2]) (rest := []) (c_X12_growsOf hE ho _) (by rw [eq_of_beq hk25]; decide) (by rw [eq_of_beq hk25]; rfl) kw_1091 kw_1093 kp_40 kw_6 kw_1094 yd_X12_growsOf rfl (by decide) (by decide) hl.1 (Nat.le_of_ble_eq_true rfl) d_X12_willBe_25 (Nat.le_refl 0) (Nat.le_refl 0)) (fun x25 S25 H locs _ F hf => ?_)
    refine lv_istore (lv' := [(4, .int x25), (3, .int x21), (0, .ref (ad r0)), (1, .int a1), (2, .int a2)]) hx hb d_X12_willBe_28 hl (by decide) rfl (fun ls hl => ?_)
    refine lv_iload_n hx hb d_X12_willBe_30 rfl (lv_at hl 1 rfl) ?_
    refine lv_if_eq (tgt := 49) hx hb d_X12_willBe_31 (by decide) (fun c31 => ?_) (fun c31 => ?_)
    · have hf := fm_ip c31 hf
      refine lv_iload hx hb d_X12_willBe_49 (lv_at hl 0 rfl) ?_
      refine lv_if_le (tgt := 71) hx hb d_X12_willBe_51 (by decide) (fun c51 => ?_) (fun c51 => ?_)
      · have hf := fm_ip c51 hf
        refine lv_iconst (v := 0) hx hb d_X12_willBe_71 (by decide) ?_
        obtain ⟨hz, hf⟩ := fm_some hf
        exact fm_retz Z hr hlk F d_X12_willBe_72 hz (Prod.mk.inj (Option.some.inj hf)).1 (Prod.mk.inj (Option.some.inj hf)).2
      · have hf := fm_ig c51 hf
        refine lv_iload_n hx hb d_X12_willBe_54 rfl (lv_at hl 4 rfl) ?_
        refine lv_if_eq (tgt := 67) hx hb d_X12_willBe_55 (by decide) (fun c55 => ?_) (fun c55 => ?_)
        · have hf := fm_ip c55 hf
          refine lv_iconst (v := 1) hx hb d_X12_willBe_67 (by decide) ?_
          refine lv_goto (tgt := 72) hx hb d_X12_willBe_68 (by decide) ?_
          obtain ⟨hz, hf⟩ := fm_some hf
          exact fm_retz Z hr hlk F d_X12_willBe_72 hz (Prod.mk.inj (Option.some.inj hf)).1 (Prod.mk.inj (Option.some.inj hf)).2
        · have hf := fm_ig c55 hf
          refine lv_aload_n hx hb d_X12_willBe_58 rfl (lv_at hl 2 rfl) ?_
          refine lv_iload_n hx hb d_X12_willBe_59 rfl (lv_at hl 3 rfl) ?_
          refine lv_iload_n hx hb d_X12_willBe_60 rfl (lv_at hl 4 rfl) ?_
          obtain ⟨hk61, hf⟩ := fm_some hf
          refine fm_rcr G F hf (fun r ho => fm_runV (k := 2) Z G F N (As := [.int a1, .int a2]) (rest := []) (c_X12_besides hE ho _) (by rw [eq_of_beq hk61]; decide) (by rw [eq_of_beq hk61]; rfl) kw_1099 kw_1101 kp_42 kw_6 kw_1102 yd_X12_besides rfl (by decide) (by decide) hl.1 (Nat.le_of_ble_eq_true rfl) d_X12_willBe_61 (Nat.le_refl 0) (Nat.le_refl 0)) (fun x61 H locs _ F hf => ?_)
          refine lv_if_le (tgt := 71) hx hb d_X12_willBe_64 (by decide) (fun c64 => ?_) (fun c64 => ?_)
          · have hf := fm_ip c64 hf
            refine lv_iconst (v := 0) hx hb d_X12_willBe_71 (by decide) ?_
            obtain ⟨hz, hf⟩ := fm_some hf
            exact fm_retz Z hr hlk F d_X12_willBe_72 hz (Prod.mk.inj (Option.some.inj hf)).1 (Prod.mk.inj (Option.some.inj hf)).2
          · have hf := fm_ig c64 hf
            refine lv_iconst (v := 1) hx hb d_X12_willBe_67 (by decide) ?_
            refine lv_goto (tgt := 72) hx hb d_X12_willBe_68 (by decide) ?_
            obtain ⟨hz, hf⟩ := fm_some hf
            exact fm_retz Z hr hlk F d_X12_willBe_72 hz (Prod.mk.inj (Option.some.inj hf)).1 (Prod.mk.inj (Option.some.inj hf)).2
    · have hf := fm_ig c31 hf
      refine lv_iload hx hb d_X12_willBe_34 (lv_at hl 0 rfl) ?_
      refine lv_bipush (v := (-10)) hx hb d_X12_willBe_36 (by decide) ?_
      refine lv_icmp_le (tgt := 45) hx hb d_X12_willBe_38 (by decide) (fun c38 => ?_) (fun c38 => ?_)
      · have hf := fm_ip c38 hf
        refine lv_iconst (v := 0) hx hb d_X12_willBe_45 (by decide) ?_
        refine lv_goto (tgt := 72) hx hb d_X12_willBe_46 (by decide) ?_
        obtain ⟨hz, hf⟩ := fm_some hf
        exact fm_retz Z hr hlk F d_X12_willBe_72 hz (Prod.mk.inj (Option.some.inj hf)).1 (Prod.mk.inj (Option.some.inj hf)).2
      · have hf := fm_ig c38 hf
        refine lv_iconst (v := 1) hx hb d_X12_willBe_41 (by decide) ?_
        refine lv_goto (tgt := 72) hx hb d_X12_willBe_42 (by decide) ?_
        obtain ⟨hz, hf⟩ := fm_some hf
        exact fm_retz Z hr hlk F d_X12_willBe_72 hz (Prod.mk.inj (Option.some.inj hf)).1 (Prod.mk.inj (Option.some.inj hf)).2
  · have hf := fm_ip c13 hf
    refine lv_iconst (v := 1) hx hb d_X12_willBe_16 (by decide) ?_
    refine lv_goto (tgt := 21) hx hb d_X12_willBe_17 (by decide) ?_
    refine lv_topi (fun x21 ex21 => ?_)
    have hf := fm_let_at ex21 hf
    refine lv_istore_n (lv' := [(3, .int x21), (0, .ref (ad r0)), (1, .int a1), (2, .int a2)]) hx hb d_X12_willBe_21 rfl hl (by decide) rfl (fun ls hl => ?_)
    refine lv_aload_n hx hb d_X12_willBe_22 rfl (lv_at hl 1 rfl) ?_
    refine lv_iload_n hx hb d_X12_willBe_23 rfl (lv_at hl 2 rfl) ?_
    refine lv_iload_n hx hb d_X12_willBe_24 rfl (lv_at hl 3 rfl) ?_
    obtain ⟨hk25, hf⟩ := fm_some hf
    refine fm_rci G F hf (fun r u ho => fm_runV (k := 2) Z G F N (As := [.int a1, .int a2]) (rest := []) (c_X12_growsOf hE ho _) (by rw [eq_of_beq hk25]; decide) (by rw [eq_of_beq hk25]; rfl) kw_1091 kw_1093 kp_40 kw_6 kw_1094 yd_X12_growsOf rfl (by decide) (by decide) hl.1 (Nat.le_of_ble_eq_true rfl) d_X12_willBe_25 (Nat.le_refl 0) (Nat.le_refl 0)) (fun x25 S25 H locs _ F hf => ?_)
    refine lv_istore (lv' := [(4, .int x25), (3, .int x21), (0, .ref (ad r0)), (1, .int a1), (2, .int a2)]) hx hb d_X12_willBe_28 hl (by decide) rfl (fun ls hl => ?_)
    refine lv_iload_n hx hb d_X12_willBe_30 rfl (lv_at hl 1 rfl) ?_
    refine lv_if_eq (tgt := 49) hx hb d_X12_willBe_31 (by decide) (fun c31 => ?_) (fun c31 => ?_)
    · have hf := fm_ip c31 hf
      refine lv_iload hx hb d_X12_willBe_49 (lv_at hl 0 rfl) ?_
      refine lv_if_le (tgt := 71) hx hb d_X12_willBe_51 (by decide) (fun c51 => ?_) (fun c51 => ?_)
      · have hf := fm_ip c51 hf
        refine lv_iconst (v := 0) hx hb d_X12_willBe_71 (by decide) ?_
        obtain ⟨hz, hf⟩ := fm_some hf
        exact fm_retz Z hr hlk F d_X12_willBe_72 hz (Prod.mk.inj (Option.some.inj hf)).1 (Prod.mk.inj (Option.some.inj hf)).2
      · have hf := fm_ig c51 hf
        refine lv_iload_n hx hb d_X12_willBe_54 rfl (lv_at hl 4 rfl) ?_
        refine lv_if_eq (tgt := 67) hx hb d_X12_willBe_55 (by decide) (fun c55 => ?_) (fun c55 => ?_)
        · have hf := fm_ip c55 hf
          refine lv_iconst (v := 1) hx hb d_X12_willBe_67 (by decide) ?_
          refine lv_goto (tgt := 72) hx hb d_X12_willBe_68 (by decide) ?_
          obtain ⟨hz, hf⟩ := fm_some hf
          exact fm_retz Z hr hlk F d_X12_willBe_72 hz (Prod.mk.inj (Option.some.inj hf)).1 (Prod.mk.inj (Option.some.inj hf)).2
        · have hf := fm_ig c55 hf
          refine lv_aload_n hx hb d_X12_willBe_58 rfl (lv_at hl 2 rfl) ?_
          refine lv_iload_n hx hb d_X12_willBe_59 rfl (lv_at hl 3 rfl) ?_
          refine lv_iload_n hx hb d_X12_willBe_60 rfl (lv_at hl 4 rfl) ?_
          obtain ⟨hk61, hf⟩ := fm_some hf
          refine fm_rcr G F hf (fun r ho => fm_runV (k := 2) Z G F N (As := [.int a1, .int a2]) (rest := []) (c_X12_besides hE ho _) (by rw [eq_of_beq hk61]; decide) (by rw [eq_of_beq hk61]; rfl) kw_1099 kw_1101 kp_42 kw_6 kw_1102 yd_X12_besides rfl (by decide) (by decide) hl.1 (Nat.le_of_ble_eq_true rfl) d_X12_willBe_61 (Nat.le_refl 0) (Nat.le_refl 0)) (fun x61 H locs _ F hf => ?_)
          refine lv_if_le (tgt := 71) hx hb d_X12_willBe_64 (by decide) (fun c64 => ?_) (fun c64 => ?_)
          · have hf := fm_ip c64 hf
            refine lv_iconst (v := 0) hx hb d_X12_willBe_71 (by decide) ?_
            obtain ⟨hz, hf⟩ := fm_some hf
            exact fm_retz Z hr hlk F d_X12_willBe_72 hz (Prod.mk.inj (Option.some.inj hf)).1 (Prod.mk.inj (Option.some.inj hf)).2
          · have hf := fm_ig c64 hf
            refine lv_iconst (v := 1) hx hb d_X12_willBe_67 (by decide) ?_
            refine lv_goto (tgt := 72) hx hb d_X12_willBe_68 (by decide) ?_
            obtain ⟨hz, hf⟩ := fm_some hf
            exact fm_retz Z hr hlk F d_X12_willBe_72 hz (Prod.mk.inj (Option.some.inj hf)).1 (Prod.mk.inj (Option.some.inj hf)).2
    · have hf := fm_ig c31 hf
      refine lv_iload hx hb d_X12_willBe_34 (lv_at hl 0 rfl) ?_
      refine lv_bipush (v := (-10)) hx hb d_X12_willBe_36 (by decide) ?_
      refine lv_icmp_le (tgt := 45) hx hb d_X12_willBe_38 (by decide) (fun c38 => ?_) (fun c38 => ?_)
      · have hf := fm_ip c38 hf
        refine lv_iconst (v := 0) hx hb d_X12_willBe_45 (by decide) ?_
        refine lv_goto (tgt := 72) hx hb d_X12_willBe_46 (by decide) ?_
        obtain ⟨hz, hf⟩ := fm_some hf
        exact fm_retz Z hr hlk F d_X12_willBe_72 hz (Prod.mk.inj (Option.some.inj hf)).1 (Prod.mk.inj (Option.some.inj hf)).2
      · have hf := fm_ig c38 hf
        refine lv_iconst (v := 1) hx hb d_X12_willBe_41 (by decide) ?_
        refine lv_goto (tgt := 72) hx hb d_X12_willBe_42 (by decide) ?_
        obtain ⟨hz, hf⟩ := fm_some hf
        exact fm_retz Z hr hlk F d_X12_willBe_72 hz (Prod.mk.inj (Option.some.inj hf)).1 (Prod.mk.inj (Option.some.inj hf)).2
theorem d_X12_freezes_0 : decode prog_14_method_42_code 0 = .ok (.iconst 0, 1) := by decide +kernel
theorem d_X12_freezes_1 : decode prog_14_method_42_code 1 = .ok (.istore_n 2, 1) := by decide +kernel
theorem d_X12_freezes_2 : decode prog_14_method_42_code 2 = .ok (.iconst 0, 1) := by decide +kernel
theorem d_X12_freezes_3 : decode prog_14_method_42_code 3 = .ok (.istore_n 3, 1) := by decide +kernel
theorem d_X12_freezes_4 : decode prog_14_method_42_code 4 = .ok (.iload_n 3, 1) := by decide +kernel
theorem d_X12_freezes_5 : decode prog_14_method_42_code 5 = .ok (.bipush 12, 2) := by decide +kernel
theorem d_X12_freezes_7 : decode prog_14_method_42_code 7 = .ok (.if_icmp .ge 40, 3) := by decide +kernel
theorem d_X12_freezes_10 : decode prog_14_method_42_code 10 = .ok (.aload_n 0, 1) := by decide +kernel
theorem d_X12_freezes_11 : decode prog_14_method_42_code 11 = .ok (.getfield 9, 3) := by decide +kernel
theorem d_X12_freezes_14 : decode prog_14_method_42_code 14 = .ok (.bipush 9, 2) := by decide +kernel
theorem d_X12_freezes_16 : decode prog_14_method_42_code 16 = .ok (.iload_n 1, 1) := by decide +kernel
theorem d_X12_freezes_17 : decode prog_14_method_42_code 17 = .ok (.iadd, 1) := by decide +kernel
theorem d_X12_freezes_18 : decode prog_14_method_42_code 18 = .ok (.iaload, 1) := by decide +kernel
theorem d_X12_freezes_19 : decode prog_14_method_42_code 19 = .ok (.ifCond .ne 28, 3) := by decide +kernel
theorem d_X12_freezes_22 : decode prog_14_method_42_code 22 = .ok (.iload_n 2, 1) := by decide +kernel
theorem d_X12_freezes_23 : decode prog_14_method_42_code 23 = .ok (.aload_n 0, 1) := by decide +kernel
theorem d_X12_freezes_24 : decode prog_14_method_42_code 24 = .ok (.iload_n 1, 1) := by decide +kernel
theorem d_X12_freezes_25 : decode prog_14_method_42_code 25 = .ok (.iload_n 3, 1) := by decide +kernel
theorem d_X12_freezes_26 : decode prog_14_method_42_code 26 = .ok (.invokevirtual 164, 3) := by decide +kernel
theorem d_X12_freezes_29 : decode prog_14_method_42_code 29 = .ok (.ifCond .eq 9, 3) := by decide +kernel
theorem d_X12_freezes_32 : decode prog_14_method_42_code 32 = .ok (.iconst 1, 1) := by decide +kernel
theorem d_X12_freezes_33 : decode prog_14_method_42_code 33 = .ok (.iload_n 3, 1) := by decide +kernel
theorem d_X12_freezes_34 : decode prog_14_method_42_code 34 = .ok (.ishl, 1) := by decide +kernel
theorem d_X12_freezes_35 : decode prog_14_method_42_code 35 = .ok (.goto 4, 3) := by decide +kernel
theorem d_X12_freezes_38 : decode prog_14_method_42_code 38 = .ok (.iconst 0, 1) := by decide +kernel
theorem d_X12_freezes_39 : decode prog_14_method_42_code 39 = .ok (.ior, 1) := by decide +kernel
theorem d_X12_freezes_40 : decode prog_14_method_42_code 40 = .ok (.istore_n 2, 1) := by decide +kernel
theorem d_X12_freezes_41 : decode prog_14_method_42_code 41 = .ok (.iinc 3 1, 3) := by decide +kernel
theorem d_X12_freezes_44 : decode prog_14_method_42_code 44 = .ok (.goto (-40), 3) := by decide +kernel
theorem d_X12_freezes_47 : decode prog_14_method_42_code 47 = .ok (.aload_n 0, 1) := by decide +kernel
theorem d_X12_freezes_48 : decode prog_14_method_42_code 48 = .ok (.getfield 9, 3) := by decide +kernel
theorem d_X12_freezes_51 : decode prog_14_method_42_code 51 = .ok (.iconst 3, 1) := by decide +kernel
theorem d_X12_freezes_52 : decode prog_14_method_42_code 52 = .ok (.iload_n 1, 1) := by decide +kernel
theorem d_X12_freezes_53 : decode prog_14_method_42_code 53 = .ok (.iadd, 1) := by decide +kernel
theorem d_X12_freezes_54 : decode prog_14_method_42_code 54 = .ok (.aload_n 0, 1) := by decide +kernel
theorem d_X12_freezes_55 : decode prog_14_method_42_code 55 = .ok (.getfield 9, 3) := by decide +kernel
theorem d_X12_freezes_58 : decode prog_14_method_42_code 58 = .ok (.bipush 9, 2) := by decide +kernel
theorem d_X12_freezes_60 : decode prog_14_method_42_code 60 = .ok (.iload_n 1, 1) := by decide +kernel
theorem d_X12_freezes_61 : decode prog_14_method_42_code 61 = .ok (.iadd, 1) := by decide +kernel
theorem d_X12_freezes_62 : decode prog_14_method_42_code 62 = .ok (.iaload, 1) := by decide +kernel
theorem d_X12_freezes_63 : decode prog_14_method_42_code 63 = .ok (.ifCond .ne 7, 3) := by decide +kernel
theorem d_X12_freezes_66 : decode prog_14_method_42_code 66 = .ok (.iload_n 2, 1) := by decide +kernel
theorem d_X12_freezes_67 : decode prog_14_method_42_code 67 = .ok (.goto 11, 3) := by decide +kernel
theorem d_X12_freezes_70 : decode prog_14_method_42_code 70 = .ok (.aload_n 0, 1) := by decide +kernel
theorem d_X12_freezes_71 : decode prog_14_method_42_code 71 = .ok (.getfield 9, 3) := by decide +kernel
theorem d_X12_freezes_74 : decode prog_14_method_42_code 74 = .ok (.iconst 3, 1) := by decide +kernel
theorem d_X12_freezes_75 : decode prog_14_method_42_code 75 = .ok (.iload_n 1, 1) := by decide +kernel
theorem d_X12_freezes_76 : decode prog_14_method_42_code 76 = .ok (.iadd, 1) := by decide +kernel
theorem d_X12_freezes_77 : decode prog_14_method_42_code 77 = .ok (.iaload, 1) := by decide +kernel
theorem d_X12_freezes_78 : decode prog_14_method_42_code 78 = .ok (.iastore, 1) := by decide +kernel
theorem d_X12_freezes_79 : decode prog_14_method_42_code 79 = .ok (.return_, 1) := by decide +kernel
def k_X12_freezes_4 (kap lam : Nat → Nat) (go4 : Nat → Int32 → Int32 → Int32 → fm_M → Option fm_M) (r0 : Nat) (a1 : Int32) (a2 : Int32) (a3 : Int32)  (S : fm_M) : Option fm_M :=
  if 12 ≤ a3 then (
   fm_gr kap 12 r0 1 S fun q48 =>
   fm_gr kap 12 r0 1 S fun q55 =>
   fm_ld kap lam 13 q55 (9 + a1) S fun x62 =>
   if x62 = 0 then (
    fm_st kap lam q48 (3 + a1) a2 S fun S78 =>
    some S78
   ) else (
    fm_gr kap 12 r0 1 S fun q71 =>
    fm_ld kap lam 13 q71 (3 + a1) S fun x77 =>
    fm_st kap lam q48 (3 + a1) x77 S fun S78 =>
    some S78
   )
  ) else (
   fm_gr kap 12 r0 1 S fun q11 =>
   fm_ld kap lam 13 q11 (9 + a1) S fun x18 =>
   if x18 = 0 then (
    fm_ck (kap r0 == 12) <|
    fm_bi (m_X12_willBe kap lam r0 a1 a3 S) fun x26 S26 =>
    if x26 = 0 then (
     fm_let (a2 ||| 0 : Int32) fun x40 =>
     fm_let (a3 + 1 : Int32) fun x41 =>
     go4 r0 a1 x40 x41 S26
    ) else (
     fm_let (a2 ||| ((1 : Int32) <<< (a3 &&& 31)) : Int32) fun x40 =>
     fm_let (a3 + 1 : Int32) fun x41 =>
     go4 r0 a1 x40 x41 S26
    )
   ) else (
    fm_gr kap 12 r0 1 S fun q48 =>
    fm_gr kap 12 r0 1 S fun q55 =>
    fm_ld kap lam 13 q55 (9 + a1) S fun x62 =>
    if x62 = 0 then (
     fm_st kap lam q48 (3 + a1) a2 S fun S78 =>
     some S78
    ) else (
     fm_gr kap 12 r0 1 S fun q71 =>
     fm_ld kap lam 13 q71 (3 + a1) S fun x77 =>
     fm_st kap lam q48 (3 + a1) x77 S fun S78 =>
     some S78
    )
   )
  )
def b_X12_freezes_4 (kap lam : Nat → Nat) : Nat → Nat → Int32 → Int32 → Int32 → fm_M → Option fm_M
  | 0 => fun _ _ _ _ _ => none
  | n + 1 => k_X12_freezes_4 kap lam (b_X12_freezes_4 kap lam n)
def m_X12_freezes (kap lam : Nat → Nat) (r0 : Nat) (a1 : Int32) (S : fm_M) : Option fm_M :=
  fm_let (0 : Int32) fun x1 =>
  fm_let (0 : Int32) fun x3 =>
  b_X12_freezes_4 kap lam fm_LF r0 a1 x1 x3 S
set_option maxHeartbeats 4000000 in
set_option maxRecDepth 100000 in
theorem c_X12_freezes {l : Launch} {D : va_G} {ids kap lam : Nat → Nat} {RL : List Nat} {ad sk sv : Nat → Nat} {S : fm_M} {r0 : Nat} {a1 : Int32} {u : fm_M} (hE : fm_E kap RL ad) (hf : m_X12_freezes kap lam r0 a1 S = some u) (sz : Nat) : fm_MV l y_X12_freezes prog_14_method_42_code 4 (Option.none : Option Jvm.ClassFile.FieldType) 4 D ids kap lam RL ad sk sv S [.ref (ad r0), .int a1] sz u := by
  refine fm_open rfl hE (Nat.le_of_ble_eq_true rfl) (fun p e s m args below meth c ls Z hr hlk G F N hl hsz => ?_)
  subst hsz
  obtain ⟨hx, hb, hml, hown, hts⟩ := id Z
  have hl : lv_has ls 4 [(0, .ref (ad r0)), (1, .int a1)] := hl
  generalize hQ : MQ below _ args s 0 0 (fm_A RL ad s.heap.size) = Qf
  have hL : ∀ n : Nat, (∀ (r0 : Nat) (a1 : Int32) (a2 : Int32) (a3 : Int32)  (S : fm_M) (H : Heap) (locs : List Loc) (ls : Array Slot), fm_F D ids kap lam RL ad S (fm_A RL ad s.heap.size) s.heap H locs → lv_has ls 4 [(0, .ref (ad r0)), (1, .int a1), (2, .int a2), (3, .int a3)] → b_X12_freezes_4 kap lam n r0 a1 a2 a3 S = some u → W p l e (fm_rm 4) s m args below meth c H locs 0 0 Qf (F0 m 4 ls [])) := by
    intro n
    induction n with
    | zero => exact fun _ _ _ _ _ _ _ _ _ _ hf => absurd hf (by intro h; cases h)
    | succ n ih =>
      intro r0 a1 a2 a3 S H locs ls F hl hf
      have hf : k_X12_freezes_4 kap lam (b_X12_freezes_4 kap lam n) r0 a1 a2 a3 S = some u := hf
      unfold k_X12_freezes_4 at hf
      refine lv_iload_n hx hb d_X12_freezes_4 rfl (lv_at hl 3 rfl) ?_
      refine lv_bipush (v := 12) hx hb d_X12_freezes_5 (by decide) ?_
      refine lv_icmp_ge (tgt := 47) hx hb d_X12_freezes_7 (by decide) (fun c7 => ?_) (fun c7 => ?_)
      · have hf := fm_ip c7 hf
        refine lv_aload_n hx hb d_X12_freezes_47 rfl (lv_at hl 0 rfl) ?_
        refine fm_rgr Z G F hf fr_X12_9 d_X12_freezes_48 (fun q48 _ hf => ?_)
        refine lv_iconst (v := 3) hx hb d_X12_freezes_51 (by decide) ?_
        refine lv_iload_n hx hb d_X12_freezes_52 rfl (lv_at hl 1 rfl) ?_
        refine lv_iadd hx hb d_X12_freezes_53 ?_
        refine lv_aload_n hx hb d_X12_freezes_54 rfl (lv_at hl 0 rfl) ?_
        refine fm_rgr Z G F hf fr_X12_9 d_X12_freezes_55 (fun q55 _ hf => ?_)
        refine lv_bipush (v := 9) hx hb d_X12_freezes_58 (by decide) ?_
        refine lv_iload_n hx hb d_X12_freezes_60 rfl (lv_at hl 1 rfl) ?_
        refine lv_iadd hx hb d_X12_freezes_61 ?_
        refine fm_rld Z G F hf d_X12_freezes_62 (fun x62 _ hf => ?_)
        refine lv_if_ne (tgt := 70) hx hb d_X12_freezes_63 (by decide) (fun c63 => ?_) (fun c63 => ?_)
        · have hf := fm_ig c63 hf
          refine lv_aload_n hx hb d_X12_freezes_70 rfl (lv_at hl 0 rfl) ?_
          refine fm_rgr Z G F hf fr_X12_9 d_X12_freezes_71 (fun q71 _ hf => ?_)
          refine lv_iconst (v := 3) hx hb d_X12_freezes_74 (by decide) ?_
          refine lv_iload_n hx hb d_X12_freezes_75 rfl (lv_at hl 1 rfl) ?_
          refine lv_iadd hx hb d_X12_freezes_76 ?_
          refine fm_rld Z G F hf d_X12_freezes_77 (fun x77 _ hf => ?_)
          refine fm_rst Z G F hf d_X12_freezes_78 (fun S78 H locs _ F hf => ?_)
          rw [← hQ]; exact fm_retv Z hr hlk F d_X12_freezes_79 (Option.some.inj hf)
        · have hf := fm_ip c63 hf
          refine lv_iload_n hx hb d_X12_freezes_66 rfl (lv_at hl 2 rfl) ?_
          refine lv_goto (tgt := 78) hx hb d_X12_freezes_67 (by decide) ?_
          refine fm_rst Z G F hf d_X12_freezes_78 (fun S78 H locs _ F hf => ?_)
          rw [← hQ]; exact fm_retv Z hr hlk F d_X12_freezes_79 (Option.some.inj hf)
      · have hf := fm_ig c7 hf
        refine lv_aload_n hx hb d_X12_freezes_10 rfl (lv_at hl 0 rfl) ?_
        refine fm_rgr Z G F hf fr_X12_9 d_X12_freezes_11 (fun q11 _ hf => ?_)
        refine lv_bipush (v := 9) hx hb d_X12_freezes_14 (by decide) ?_
        refine lv_iload_n hx hb d_X12_freezes_16 rfl (lv_at hl 1 rfl) ?_
        refine lv_iadd hx hb d_X12_freezes_17 ?_
        refine fm_rld Z G F hf d_X12_freezes_18 (fun x18 _ hf => ?_)
        refine lv_if_ne (tgt := 47) hx hb d_X12_freezes_19 (by decide) (fun c19 => ?_) (fun c19 => ?_)
        · have hf := fm_ig c19 hf
          refine lv_aload_n hx hb d_X12_freezes_47 rfl (lv_at hl 0 rfl) ?_
          refine fm_rgr Z G F hf fr_X12_9 d_X12_freezes_48 (fun q48 _ hf => ?_)
          refine lv_iconst (v := 3) hx hb d_X12_freezes_51 (by decide) ?_
          refine lv_iload_n hx hb d_X12_freezes_52 rfl (lv_at hl 1 rfl) ?_
          refine lv_iadd hx hb d_X12_freezes_53 ?_
          refine lv_aload_n hx hb d_X12_freezes_54 rfl (lv_at hl 0 rfl) ?_
          refine fm_rgr Z G F hf fr_X12_9 d_X12_freezes_55 (fun q55 _ hf => ?_)
          refine lv_bipush (v := 9) hx hb d_X12_freezes_58 (by decide) ?_
          refine lv_iload_n hx hb d_X12_freezes_60 rfl (lv_at hl 1 rfl) ?_
          refine lv_iadd hx hb d_X12_freezes_61 ?_
          refine fm_rld Z G F hf d_X12_freezes_62 (fun x62 _ hf => ?_)
          refine lv_if_ne (tgt := 70) hx hb d_X12_freezes_63 (by decide) (fun c63 => ?_) (fun c63 => ?_)
          · have hf := fm_ig c63 hf
            refine lv_aload_n hx hb d_X12_freezes_70 rfl (lv_at hl 0 rfl) ?_
            refine fm_rgr Z G F hf fr_X12_9 d_X12_freezes_71 (fun q71 _ hf => ?_)
            refine lv_iconst (v := 3) hx hb d_X12_freezes_74 (by decide) ?_
            refine lv_iload_n hx hb d_X12_freezes_75 rfl (lv_at hl 1 rfl) ?_
            refine lv_iadd hx hb d_X12_freezes_76 ?_
            refine fm_rld Z G F hf d_X12_freezes_77 (fun x77 _ hf => ?_)
            refine fm_rst Z G F hf d_X12_freezes_78 (fun S78 H locs _ F hf => ?_)
            rw [← hQ]; exact fm_retv Z hr hlk F d_X12_freezes_79 (Option.some.inj hf)
          · have hf := fm_ip c63 hf
            refine lv_iload_n hx hb d_X12_freezes_66 rfl (lv_at hl 2 rfl) ?_
            refine lv_goto (tgt := 78) hx hb d_X12_freezes_67 (by decide) ?_
            refine fm_rst Z G F hf d_X12_freezes_78 (fun S78 H locs _ F hf => ?_)
            rw [← hQ]; exact fm_retv Z hr hlk F d_X12_freezes_79 (Option.some.inj hf)
        · have hf := fm_ip c19 hf
          refine lv_iload_n hx hb d_X12_freezes_22 rfl (lv_at hl 2 rfl) ?_
          refine lv_aload_n hx hb d_X12_freezes_23 rfl (lv_at hl 0 rfl) ?_
          refine lv_iload_n hx hb d_X12_freezes_24 rfl (lv_at hl 1 rfl) ?_
          refine lv_iload_n hx hb d_X12_freezes_25 rfl (lv_at hl 3 rfl) ?_
          obtain ⟨hk26, hf⟩ := fm_some hf
          refine fm_rci G F hf (fun r u ho => fm_runV (k := 2) Z G F N (As := [.int a1, .int a3]) (rest := [.int a2]) (c_X12_willBe hE ho _) (by rw [eq_of_beq hk26]; decide) (by rw [eq_of_beq hk26]; rfl) kw_1165 kw_1167 kp_51 kw_6 kw_1168 yd_X12_willBe rfl (by decide) (by decide) hl.1 (Nat.le_of_ble_eq_true rfl) d_X12_freezes_26 (Nat.le_refl 0) (Nat.le_refl 0)) (fun x26 S26 H locs _ F hf => ?_)
          refine lv_if_eq (tgt := 38) hx hb d_X12_freezes_29 (by decide) (fun c29 => ?_) (fun c29 => ?_)
          · have hf := fm_ip c29 hf
            refine lv_iconst (v := 0) hx hb d_X12_freezes_38 (by decide) ?_
            refine lv_ior hx hb d_X12_freezes_39 ?_
            refine lv_topi (fun x40 ex40 => ?_)
            have hf := fm_let_at ex40 hf
            refine lv_istore_n (lv' := [(2, .int x40), (0, .ref (ad r0)), (1, .int a1), (3, .int a3)]) hx hb d_X12_freezes_40 rfl hl (by decide) rfl (fun ls hl => ?_)
            obtain ⟨x41, ex41⟩ : ∃ y : Int32, y = a3 + 1 := ⟨_, rfl⟩
            have hf := fm_let_at ex41 hf
            refine lv_iinc (v := x41) (lv' := [(3, .int x41), (2, .int x40), (0, .ref (ad r0)), (1, .int a1)]) hx hb d_X12_freezes_41 hl (k := 3) rfl (by rw [ex41]; rfl) (by decide) rfl (fun ls hl => ?_)
            refine lv_goto (tgt := 4) hx hb d_X12_freezes_44 (by decide) ?_
            exact ih r0 a1 x40 x41 S26 _ _ _ F (lv_sub hl [2, 3, 1, 0] rfl) hf
          · have hf := fm_ig c29 hf
            refine lv_iconst (v := 1) hx hb d_X12_freezes_32 (by decide) ?_
            refine lv_iload_n hx hb d_X12_freezes_33 rfl (lv_at hl 3 rfl) ?_
            refine lv_ishl hx hb d_X12_freezes_34 ?_
            refine lv_goto (tgt := 39) hx hb d_X12_freezes_35 (by decide) ?_
            refine lv_ior hx hb d_X12_freezes_39 ?_
            refine lv_topi (fun x40 ex40 => ?_)
            have hf := fm_let_at ex40 hf
            refine lv_istore_n (lv' := [(2, .int x40), (0, .ref (ad r0)), (1, .int a1), (3, .int a3)]) hx hb d_X12_freezes_40 rfl hl (by decide) rfl (fun ls hl => ?_)
            obtain ⟨x41, ex41⟩ : ∃ y : Int32, y = a3 + 1 := ⟨_, rfl⟩
            have hf := fm_let_at ex41 hf
            refine lv_iinc (v := x41) (lv' := [(3, .int x41), (2, .int x40), (0, .ref (ad r0)), (1, .int a1)]) hx hb d_X12_freezes_41 hl (k := 3) rfl (by rw [ex41]; rfl) (by decide) rfl (fun ls hl => ?_)
            refine lv_goto (tgt := 4) hx hb d_X12_freezes_44 (by decide) ?_
            exact ih r0 a1 x40 x41 S26 _ _ _ F (lv_sub hl [2, 3, 1, 0] rfl) hf
  unfold m_X12_freezes at hf
  refine lv_iconst (v := 0) hx hb d_X12_freezes_0 (by decide) ?_
  refine lv_topi (fun x1 ex1 => ?_)
  have hf := fm_let_at ex1 hf
  refine lv_istore_n (lv' := [(2, .int x1), (0, .ref (ad r0)), (1, .int a1)]) hx hb d_X12_freezes_1 rfl hl (by decide) rfl (fun ls hl => ?_)
  refine lv_iconst (v := 0) hx hb d_X12_freezes_2 (by decide) ?_
  refine lv_topi (fun x3 ex3 => ?_)
  have hf := fm_let_at ex3 hf
  refine lv_istore_n (lv' := [(3, .int x3), (2, .int x1), (0, .ref (ad r0)), (1, .int a1)]) hx hb d_X12_freezes_3 rfl hl (by decide) rfl (fun ls hl => ?_)
  exact (hL fm_LF) r0 a1 x1 x3 S _ _ _ F (lv_sub hl [2, 3, 1, 0] rfl) hf
theorem d_X12_goes_0 : decode prog_14_method_43_code 0 = .ok (.iconst 0, 1) := by decide +kernel
theorem d_X12_goes_1 : decode prog_14_method_43_code 1 = .ok (.istore_n 1, 1) := by decide +kernel
theorem d_X12_goes_2 : decode prog_14_method_43_code 2 = .ok (.iload_n 1, 1) := by decide +kernel
theorem d_X12_goes_3 : decode prog_14_method_43_code 3 = .ok (.aload_n 0, 1) := by decide +kernel
theorem d_X12_goes_4 : decode prog_14_method_43_code 4 = .ok (.getfield 9, 3) := by decide +kernel
theorem d_X12_goes_7 : decode prog_14_method_43_code 7 = .ok (.bipush 21, 2) := by decide +kernel
theorem d_X12_goes_9 : decode prog_14_method_43_code 9 = .ok (.iaload, 1) := by decide +kernel
theorem d_X12_goes_10 : decode prog_14_method_43_code 10 = .ok (.if_icmp .ge 14, 3) := by decide +kernel
theorem d_X12_goes_13 : decode prog_14_method_43_code 13 = .ok (.aload_n 0, 1) := by decide +kernel
theorem d_X12_goes_14 : decode prog_14_method_43_code 14 = .ok (.iload_n 1, 1) := by decide +kernel
theorem d_X12_goes_15 : decode prog_14_method_43_code 15 = .ok (.invokevirtual 168, 3) := by decide +kernel
theorem d_X12_goes_18 : decode prog_14_method_43_code 18 = .ok (.iinc 1 1, 3) := by decide +kernel
theorem d_X12_goes_21 : decode prog_14_method_43_code 21 = .ok (.goto (-19), 3) := by decide +kernel
theorem d_X12_goes_24 : decode prog_14_method_43_code 24 = .ok (.aload_n 0, 1) := by decide +kernel
theorem d_X12_goes_25 : decode prog_14_method_43_code 25 = .ok (.getfield 9, 3) := by decide +kernel
theorem d_X12_goes_28 : decode prog_14_method_43_code 28 = .ok (.iconst 0, 1) := by decide +kernel
theorem d_X12_goes_29 : decode prog_14_method_43_code 29 = .ok (.dup2, 1) := by decide +kernel
theorem d_X12_goes_30 : decode prog_14_method_43_code 30 = .ok (.iaload, 1) := by decide +kernel
theorem d_X12_goes_31 : decode prog_14_method_43_code 31 = .ok (.iconst 1, 1) := by decide +kernel
theorem d_X12_goes_32 : decode prog_14_method_43_code 32 = .ok (.iadd, 1) := by decide +kernel
theorem d_X12_goes_33 : decode prog_14_method_43_code 33 = .ok (.iastore, 1) := by decide +kernel
theorem d_X12_goes_34 : decode prog_14_method_43_code 34 = .ok (.return_, 1) := by decide +kernel
def k_X12_goes_2 (kap lam : Nat → Nat) (go2 : Nat → Int32 → fm_M → Option fm_M) (r0 : Nat) (a1 : Int32)  (S : fm_M) : Option fm_M :=
  fm_gr kap 12 r0 1 S fun q4 =>
  fm_ld kap lam 13 q4 21 S fun x9 =>
  if x9 ≤ a1 then (
   fm_gr kap 12 r0 1 S fun q25 =>
   fm_ld kap lam 13 q25 0 S fun x30 =>
   fm_st kap lam q25 0 (x30 + 1) S fun S33 =>
   some S33
  ) else (
   fm_ck (kap r0 == 12) <|
   fm_b1 (m_X12_freezes kap lam r0 a1 S) fun S15 =>
   fm_let (a1 + 1 : Int32) fun x18 =>
   go2 r0 x18 S15
  )
def b_X12_goes_2 (kap lam : Nat → Nat) : Nat → Nat → Int32 → fm_M → Option fm_M
  | 0 => fun _ _ _ => none
  | n + 1 => k_X12_goes_2 kap lam (b_X12_goes_2 kap lam n)
def m_X12_goes (kap lam : Nat → Nat) (r0 : Nat) (S : fm_M) : Option fm_M :=
  fm_let (0 : Int32) fun x1 =>
  b_X12_goes_2 kap lam fm_LF r0 x1 S
set_option maxHeartbeats 4000000 in
set_option maxRecDepth 100000 in
theorem c_X12_goes {l : Launch} {D : va_G} {ids kap lam : Nat → Nat} {RL : List Nat} {ad sk sv : Nat → Nat} {S : fm_M} {r0 : Nat} {u : fm_M} (hE : fm_E kap RL ad) (hf : m_X12_goes kap lam r0 S = some u) (sz : Nat) : fm_MV l y_X12_goes prog_14_method_43_code 2 (Option.none : Option Jvm.ClassFile.FieldType) 5 D ids kap lam RL ad sk sv S [.ref (ad r0)] sz u := by
  refine fm_open rfl hE (Nat.le_of_ble_eq_true rfl) (fun p e s m args below meth c ls Z hr hlk G F N hl hsz => ?_)
  subst hsz
  obtain ⟨hx, hb, hml, hown, hts⟩ := id Z
  have hl : lv_has ls 2 [(0, .ref (ad r0))] := hl
  generalize hQ : MQ below _ args s 0 0 (fm_A RL ad s.heap.size) = Qf
  have hL : ∀ n : Nat, (∀ (r0 : Nat) (a1 : Int32)  (S : fm_M) (H : Heap) (locs : List Loc) (ls : Array Slot), fm_F D ids kap lam RL ad S (fm_A RL ad s.heap.size) s.heap H locs → lv_has ls 2 [(0, .ref (ad r0)), (1, .int a1)] → b_X12_goes_2 kap lam n r0 a1 S = some u → W p l e (fm_rm 5) s m args below meth c H locs 0 0 Qf (F0 m 2 ls [])) := by
    intro n
    induction n with
    | zero => exact fun _ _ _ _ _ _ _ _ hf => absurd hf (by intro h; cases h)
    | succ n ih =>
      intro r0 a1 S H locs ls F hl hf
      have hf : k_X12_goes_2 kap lam (b_X12_goes_2 kap lam n) r0 a1 S = some u := hf
      unfold k_X12_goes_2 at hf
      refine lv_iload_n hx hb d_X12_goes_2 rfl (lv_at hl 1 rfl) ?_
      refine lv_aload_n hx hb d_X12_goes_3 rfl (lv_at hl 0 rfl) ?_
      refine fm_rgr Z G F hf fr_X12_9 d_X12_goes_4 (fun q4 _ hf => ?_)
      refine lv_bipush (v := 21) hx hb d_X12_goes_7 (by decide) ?_
      refine fm_rld Z G F hf d_X12_goes_9 (fun x9 _ hf => ?_)
      refine lv_icmp_ge (tgt := 24) hx hb d_X12_goes_10 (by decide) (fun c10 => ?_) (fun c10 => ?_)
      · have hf := fm_ip c10 hf
        refine lv_aload_n hx hb d_X12_goes_24 rfl (lv_at hl 0 rfl) ?_
        refine fm_rgr Z G F hf fr_X12_9 d_X12_goes_25 (fun q25 _ hf => ?_)
        refine lv_iconst (v := 0) hx hb d_X12_goes_28 (by decide) ?_
        refine lv_dup2_11 hx hb d_X12_goes_29 rfl rfl ?_
        refine fm_rld Z G F hf d_X12_goes_30 (fun x30 _ hf => ?_)
        refine lv_iconst (v := 1) hx hb d_X12_goes_31 (by decide) ?_
        refine lv_iadd hx hb d_X12_goes_32 ?_
        refine fm_rst Z G F hf d_X12_goes_33 (fun S33 H locs _ F hf => ?_)
        rw [← hQ]; exact fm_retv Z hr hlk F d_X12_goes_34 (Option.some.inj hf)
      · have hf := fm_ig c10 hf
        refine lv_aload_n hx hb d_X12_goes_13 rfl (lv_at hl 0 rfl) ?_
        refine lv_iload_n hx hb d_X12_goes_14 rfl (lv_at hl 1 rfl) ?_
        obtain ⟨hk15, hf⟩ := fm_some hf
        refine fm_rcv G F hf (fun u ho => fm_runV (k := 1) Z G F N (As := [.int a1]) (rest := []) (c_X12_freezes hE ho _) (by rw [eq_of_beq hk15]; decide) (by rw [eq_of_beq hk15]; rfl) kw_1161 kw_1163 kp_50 kw_6 kw_1164 yd_X12_freezes rfl (by decide) (by decide) hl.1 (Nat.le_of_ble_eq_true rfl) d_X12_goes_15 (Nat.le_refl 0) (Nat.le_refl 0)) (fun S15 H locs _ F hf => ?_)
        obtain ⟨x18, ex18⟩ : ∃ y : Int32, y = a1 + 1 := ⟨_, rfl⟩
        have hf := fm_let_at ex18 hf
        refine lv_iinc (v := x18) (lv' := [(1, .int x18), (0, .ref (ad r0))]) hx hb d_X12_goes_18 hl (k := 1) rfl (by rw [ex18]; rfl) (by decide) rfl (fun ls hl => ?_)
        refine lv_goto (tgt := 2) hx hb d_X12_goes_21 (by decide) ?_
        exact ih r0 x18 S15 _ _ _ F (lv_sub hl [1, 0] rfl) hf
  unfold m_X12_goes at hf
  refine lv_iconst (v := 0) hx hb d_X12_goes_0 (by decide) ?_
  refine lv_topi (fun x1 ex1 => ?_)
  have hf := fm_let_at ex1 hf
  refine lv_istore_n (lv' := [(1, .int x1), (0, .ref (ad r0))]) hx hb d_X12_goes_1 rfl hl (by decide) rfl (fun ls hl => ?_)
  exact (hL fm_LF) r0 x1 S _ _ _ F (lv_sub hl [1, 0] rfl) hf
theorem d_X12_goesOn_0 : decode prog_14_method_44_code 0 = .ok (.iconst 0, 1) := by decide +kernel
theorem d_X12_goesOn_1 : decode prog_14_method_44_code 1 = .ok (.istore_n 2, 1) := by decide +kernel
theorem d_X12_goesOn_2 : decode prog_14_method_44_code 2 = .ok (.iload_n 2, 1) := by decide +kernel
theorem d_X12_goesOn_3 : decode prog_14_method_44_code 3 = .ok (.iload_n 1, 1) := by decide +kernel
theorem d_X12_goesOn_4 : decode prog_14_method_44_code 4 = .ok (.if_icmp .ge 13, 3) := by decide +kernel
theorem d_X12_goesOn_7 : decode prog_14_method_44_code 7 = .ok (.aload_n 0, 1) := by decide +kernel
theorem d_X12_goesOn_8 : decode prog_14_method_44_code 8 = .ok (.invokevirtual 171, 3) := by decide +kernel
theorem d_X12_goesOn_11 : decode prog_14_method_44_code 11 = .ok (.iinc 2 1, 3) := by decide +kernel
theorem d_X12_goesOn_14 : decode prog_14_method_44_code 14 = .ok (.goto (-12), 3) := by decide +kernel
theorem d_X12_goesOn_17 : decode prog_14_method_44_code 17 = .ok (.return_, 1) := by decide +kernel
def k_X12_goesOn_2 (kap lam : Nat → Nat) (go2 : Nat → Int32 → Int32 → fm_M → Option fm_M) (r0 : Nat) (a1 : Int32) (a2 : Int32)  (S : fm_M) : Option fm_M :=
  if a1 ≤ a2 then (
   some S
  ) else (
   fm_ck (kap r0 == 12) <|
   fm_b1 (m_X12_goes kap lam r0 S) fun S8 =>
   fm_let (a2 + 1 : Int32) fun x11 =>
   go2 r0 a1 x11 S8
  )
def b_X12_goesOn_2 (kap lam : Nat → Nat) : Nat → Nat → Int32 → Int32 → fm_M → Option fm_M
  | 0 => fun _ _ _ _ => none
  | n + 1 => k_X12_goesOn_2 kap lam (b_X12_goesOn_2 kap lam n)
def m_X12_goesOn (kap lam : Nat → Nat) (r0 : Nat) (a1 : Int32) (S : fm_M) : Option fm_M :=
  fm_let (0 : Int32) fun x1 =>
  b_X12_goesOn_2 kap lam fm_LF r0 a1 x1 S
set_option maxHeartbeats 4000000 in
set_option maxRecDepth 100000 in
theorem c_X12_goesOn {l : Launch} {D : va_G} {ids kap lam : Nat → Nat} {RL : List Nat} {ad sk sv : Nat → Nat} {S : fm_M} {r0 : Nat} {a1 : Int32} {u : fm_M} (hE : fm_E kap RL ad) (hf : m_X12_goesOn kap lam r0 a1 S = some u) (sz : Nat) : fm_MV l y_X12_goesOn prog_14_method_44_code 3 (Option.none : Option Jvm.ClassFile.FieldType) 6 D ids kap lam RL ad sk sv S [.ref (ad r0), .int a1] sz u := by
  refine fm_open rfl hE (Nat.le_of_ble_eq_true rfl) (fun p e s m args below meth c ls Z hr hlk G F N hl hsz => ?_)
  subst hsz
  obtain ⟨hx, hb, hml, hown, hts⟩ := id Z
  have hl : lv_has ls 3 [(0, .ref (ad r0)), (1, .int a1)] := hl
  generalize hQ : MQ below _ args s 0 0 (fm_A RL ad s.heap.size) = Qf
  have hL : ∀ n : Nat, (∀ (r0 : Nat) (a1 : Int32) (a2 : Int32)  (S : fm_M) (H : Heap) (locs : List Loc) (ls : Array Slot), fm_F D ids kap lam RL ad S (fm_A RL ad s.heap.size) s.heap H locs → lv_has ls 3 [(0, .ref (ad r0)), (1, .int a1), (2, .int a2)] → b_X12_goesOn_2 kap lam n r0 a1 a2 S = some u → W p l e (fm_rm 6) s m args below meth c H locs 0 0 Qf (F0 m 2 ls [])) := by
    intro n
    induction n with
    | zero => exact fun _ _ _ _ _ _ _ _ _ hf => absurd hf (by intro h; cases h)
    | succ n ih =>
      intro r0 a1 a2 S H locs ls F hl hf
      have hf : k_X12_goesOn_2 kap lam (b_X12_goesOn_2 kap lam n) r0 a1 a2 S = some u := hf
      unfold k_X12_goesOn_2 at hf
      refine lv_iload_n hx hb d_X12_goesOn_2 rfl (lv_at hl 2 rfl) ?_
      refine lv_iload_n hx hb d_X12_goesOn_3 rfl (lv_at hl 1 rfl) ?_
      refine lv_icmp_ge (tgt := 17) hx hb d_X12_goesOn_4 (by decide) (fun c4 => ?_) (fun c4 => ?_)
      · have hf := fm_ip c4 hf
        rw [← hQ]; exact fm_retv Z hr hlk F d_X12_goesOn_17 (Option.some.inj hf)
      · have hf := fm_ig c4 hf
        refine lv_aload_n hx hb d_X12_goesOn_7 rfl (lv_at hl 0 rfl) ?_
        obtain ⟨hk8, hf⟩ := fm_some hf
        refine fm_rcv G F hf (fun u ho => fm_runV (k := 0) Z G F N (As := []) (rest := []) (c_X12_goes hE ho _) (by rw [eq_of_beq hk8]; decide) (by rw [eq_of_beq hk8]; rfl) kw_1157 kw_1159 kp_49 kw_6 kw_1160 yd_X12_goes rfl (by decide) (by decide) hl.1 (Nat.le_of_ble_eq_true rfl) d_X12_goesOn_8 (Nat.le_refl 0) (Nat.le_refl 0)) (fun S8 H locs _ F hf => ?_)
        obtain ⟨x11, ex11⟩ : ∃ y : Int32, y = a2 + 1 := ⟨_, rfl⟩
        have hf := fm_let_at ex11 hf
        refine lv_iinc (v := x11) (lv' := [(2, .int x11), (0, .ref (ad r0)), (1, .int a1)]) hx hb d_X12_goesOn_11 hl (k := 2) rfl (by rw [ex11]; rfl) (by decide) rfl (fun ls hl => ?_)
        refine lv_goto (tgt := 2) hx hb d_X12_goesOn_14 (by decide) ?_
        exact ih r0 a1 x11 S8 _ _ _ F (lv_sub hl [1, 2, 0] rfl) hf
  unfold m_X12_goesOn at hf
  refine lv_iconst (v := 0) hx hb d_X12_goesOn_0 (by decide) ?_
  refine lv_topi (fun x1 ex1 => ?_)
  have hf := fm_let_at ex1 hf
  refine lv_istore_n (lv' := [(2, .int x1), (0, .ref (ad r0)), (1, .int a1)]) hx hb d_X12_goesOn_1 rfl hl (by decide) rfl (fun ls hl => ?_)
  exact (hL fm_LF) r0 a1 x1 S _ _ _ F (lv_sub hl [1, 2, 0] rfl) hf
theorem d_X12_freezesOn_0 : decode prog_14_method_45_code 0 = .ok (.iconst 0, 1) := by decide +kernel
theorem d_X12_freezesOn_1 : decode prog_14_method_45_code 1 = .ok (.istore_n 3, 1) := by decide +kernel
theorem d_X12_freezesOn_2 : decode prog_14_method_45_code 2 = .ok (.iload_n 3, 1) := by decide +kernel
theorem d_X12_freezesOn_3 : decode prog_14_method_45_code 3 = .ok (.iload_n 2, 1) := by decide +kernel
theorem d_X12_freezesOn_4 : decode prog_14_method_45_code 4 = .ok (.if_icmp .ge 24, 3) := by decide +kernel
theorem d_X12_freezesOn_7 : decode prog_14_method_45_code 7 = .ok (.aload_n 0, 1) := by decide +kernel
theorem d_X12_freezesOn_8 : decode prog_14_method_45_code 8 = .ok (.iload_n 1, 1) := by decide +kernel
theorem d_X12_freezesOn_9 : decode prog_14_method_45_code 9 = .ok (.invokevirtual 168, 3) := by decide +kernel
theorem d_X12_freezesOn_12 : decode prog_14_method_45_code 12 = .ok (.aload_n 0, 1) := by decide +kernel
theorem d_X12_freezesOn_13 : decode prog_14_method_45_code 13 = .ok (.getfield 9, 3) := by decide +kernel
theorem d_X12_freezesOn_16 : decode prog_14_method_45_code 16 = .ok (.iconst 0, 1) := by decide +kernel
theorem d_X12_freezesOn_17 : decode prog_14_method_45_code 17 = .ok (.dup2, 1) := by decide +kernel
theorem d_X12_freezesOn_18 : decode prog_14_method_45_code 18 = .ok (.iaload, 1) := by decide +kernel
theorem d_X12_freezesOn_19 : decode prog_14_method_45_code 19 = .ok (.iconst 1, 1) := by decide +kernel
theorem d_X12_freezesOn_20 : decode prog_14_method_45_code 20 = .ok (.iadd, 1) := by decide +kernel
theorem d_X12_freezesOn_21 : decode prog_14_method_45_code 21 = .ok (.iastore, 1) := by decide +kernel
theorem d_X12_freezesOn_22 : decode prog_14_method_45_code 22 = .ok (.iinc 3 1, 3) := by decide +kernel
theorem d_X12_freezesOn_25 : decode prog_14_method_45_code 25 = .ok (.goto (-23), 3) := by decide +kernel
theorem d_X12_freezesOn_28 : decode prog_14_method_45_code 28 = .ok (.return_, 1) := by decide +kernel
def k_X12_freezesOn_2 (kap lam : Nat → Nat) (go2 : Nat → Int32 → Int32 → Int32 → fm_M → Option fm_M) (r0 : Nat) (a1 : Int32) (a2 : Int32) (a3 : Int32)  (S : fm_M) : Option fm_M :=
  if a2 ≤ a3 then (
   some S
  ) else (
   fm_ck (kap r0 == 12) <|
   fm_b1 (m_X12_freezes kap lam r0 a1 S) fun S9 =>
   fm_gr kap 12 r0 1 S9 fun q13 =>
   fm_ld kap lam 13 q13 0 S9 fun x18 =>
   fm_st kap lam q13 0 (x18 + 1) S9 fun S21 =>
   fm_let (a3 + 1 : Int32) fun x22 =>
   go2 r0 a1 a2 x22 S21
  )
def b_X12_freezesOn_2 (kap lam : Nat → Nat) : Nat → Nat → Int32 → Int32 → Int32 → fm_M → Option fm_M
  | 0 => fun _ _ _ _ _ => none
  | n + 1 => k_X12_freezesOn_2 kap lam (b_X12_freezesOn_2 kap lam n)
def m_X12_freezesOn (kap lam : Nat → Nat) (r0 : Nat) (a1 : Int32) (a2 : Int32) (S : fm_M) : Option fm_M :=
  fm_let (0 : Int32) fun x1 =>
  b_X12_freezesOn_2 kap lam fm_LF r0 a1 a2 x1 S
set_option maxHeartbeats 4000000 in
set_option maxRecDepth 100000 in
theorem c_X12_freezesOn {l : Launch} {D : va_G} {ids kap lam : Nat → Nat} {RL : List Nat} {ad sk sv : Nat → Nat} {S : fm_M} {r0 : Nat} {a1 : Int32} {a2 : Int32} {u : fm_M} (hE : fm_E kap RL ad) (hf : m_X12_freezesOn kap lam r0 a1 a2 S = some u) (sz : Nat) : fm_MV l y_X12_freezesOn prog_14_method_45_code 4 (Option.none : Option Jvm.ClassFile.FieldType) 5 D ids kap lam RL ad sk sv S [.ref (ad r0), .int a1, .int a2] sz u := by
  refine fm_open rfl hE (Nat.le_of_ble_eq_true rfl) (fun p e s m args below meth c ls Z hr hlk G F N hl hsz => ?_)
  subst hsz
  obtain ⟨hx, hb, hml, hown, hts⟩ := id Z
  have hl : lv_has ls 4 [(0, .ref (ad r0)), (1, .int a1), (2, .int a2)] := hl
  generalize hQ : MQ below _ args s 0 0 (fm_A RL ad s.heap.size) = Qf
  have hL : ∀ n : Nat, (∀ (r0 : Nat) (a1 : Int32) (a2 : Int32) (a3 : Int32)  (S : fm_M) (H : Heap) (locs : List Loc) (ls : Array Slot), fm_F D ids kap lam RL ad S (fm_A RL ad s.heap.size) s.heap H locs → lv_has ls 4 [(0, .ref (ad r0)), (1, .int a1), (2, .int a2), (3, .int a3)] → b_X12_freezesOn_2 kap lam n r0 a1 a2 a3 S = some u → W p l e (fm_rm 5) s m args below meth c H locs 0 0 Qf (F0 m 2 ls [])) := by
    intro n
    induction n with
    | zero => exact fun _ _ _ _ _ _ _ _ _ _ hf => absurd hf (by intro h; cases h)
    | succ n ih =>
      intro r0 a1 a2 a3 S H locs ls F hl hf
      have hf : k_X12_freezesOn_2 kap lam (b_X12_freezesOn_2 kap lam n) r0 a1 a2 a3 S = some u := hf
      unfold k_X12_freezesOn_2 at hf
      refine lv_iload_n hx hb d_X12_freezesOn_2 rfl (lv_at hl 3 rfl) ?_
      refine lv_iload_n hx hb d_X12_freezesOn_3 rfl (lv_at hl 2 rfl) ?_
      refine lv_icmp_ge (tgt := 28) hx hb d_X12_freezesOn_4 (by decide) (fun c4 => ?_) (fun c4 => ?_)
      · have hf := fm_ip c4 hf
        rw [← hQ]; exact fm_retv Z hr hlk F d_X12_freezesOn_28 (Option.some.inj hf)
      · have hf := fm_ig c4 hf
        refine lv_aload_n hx hb d_X12_freezesOn_7 rfl (lv_at hl 0 rfl) ?_
        refine lv_iload_n hx hb d_X12_freezesOn_8 rfl (lv_at hl 1 rfl) ?_
        obtain ⟨hk9, hf⟩ := fm_some hf
        refine fm_rcv G F hf (fun u ho => fm_runV (k := 1) Z G F N (As := [.int a1]) (rest := []) (c_X12_freezes hE ho _) (by rw [eq_of_beq hk9]; decide) (by rw [eq_of_beq hk9]; rfl) kw_1161 kw_1163 kp_50 kw_6 kw_1164 yd_X12_freezes rfl (by decide) (by decide) hl.1 (Nat.le_of_ble_eq_true rfl) d_X12_freezesOn_9 (Nat.le_refl 0) (Nat.le_refl 0)) (fun S9 H locs _ F hf => ?_)
        refine lv_aload_n hx hb d_X12_freezesOn_12 rfl (lv_at hl 0 rfl) ?_
        refine fm_rgr Z G F hf fr_X12_9 d_X12_freezesOn_13 (fun q13 _ hf => ?_)
        refine lv_iconst (v := 0) hx hb d_X12_freezesOn_16 (by decide) ?_
        refine lv_dup2_11 hx hb d_X12_freezesOn_17 rfl rfl ?_
        refine fm_rld Z G F hf d_X12_freezesOn_18 (fun x18 _ hf => ?_)
        refine lv_iconst (v := 1) hx hb d_X12_freezesOn_19 (by decide) ?_
        refine lv_iadd hx hb d_X12_freezesOn_20 ?_
        refine fm_rst Z G F hf d_X12_freezesOn_21 (fun S21 H locs _ F hf => ?_)
        obtain ⟨x22, ex22⟩ : ∃ y : Int32, y = a3 + 1 := ⟨_, rfl⟩
        have hf := fm_let_at ex22 hf
        refine lv_iinc (v := x22) (lv' := [(3, .int x22), (0, .ref (ad r0)), (1, .int a1), (2, .int a2)]) hx hb d_X12_freezesOn_22 hl (k := 3) rfl (by rw [ex22]; rfl) (by decide) rfl (fun ls hl => ?_)
        refine lv_goto (tgt := 2) hx hb d_X12_freezesOn_25 (by decide) ?_
        exact ih r0 a1 a2 x22 S21 _ _ _ F (lv_sub hl [1, 2, 3, 0] rfl) hf
  unfold m_X12_freezesOn at hf
  refine lv_iconst (v := 0) hx hb d_X12_freezesOn_0 (by decide) ?_
  refine lv_topi (fun x1 ex1 => ?_)
  have hf := fm_let_at ex1 hf
  refine lv_istore_n (lv' := [(3, .int x1), (0, .ref (ad r0)), (1, .int a1), (2, .int a2)]) hx hb d_X12_freezesOn_1 rfl hl (by decide) rfl (fun ls hl => ?_)
  exact (hL fm_LF) r0 a1 a2 x1 S _ _ _ F (lv_sub hl [1, 2, 3, 0] rfl) hf
