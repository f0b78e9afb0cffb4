/-! models and contracts (tool/gen.py prints them) -/
theorem d_J7_fill_53178_0 : decode prog_20_method_103_code 0 = .ok (.iconst 0, 1) := by decide +kernel
theorem d_J7_fill_53178_1 : decode prog_20_method_103_code 1 = .ok (.istore_n 2, 1) := by decide +kernel
theorem d_J7_fill_53178_2 : decode prog_20_method_103_code 2 = .ok (.aload_n 0, 1) := by decide +kernel
theorem d_J7_fill_53178_3 : decode prog_20_method_103_code 3 = .ok (.arraylength, 1) := by decide +kernel
theorem d_J7_fill_53178_4 : decode prog_20_method_103_code 4 = .ok (.istore_n 3, 1) := by decide +kernel
theorem d_J7_fill_53178_5 : decode prog_20_method_103_code 5 = .ok (.iload_n 2, 1) := by decide +kernel
theorem d_J7_fill_53178_6 : decode prog_20_method_103_code 6 = .ok (.iload_n 3, 1) := by decide +kernel
theorem d_J7_fill_53178_7 : decode prog_20_method_103_code 7 = .ok (.if_icmp .ge 13, 3) := by decide +kernel
theorem d_J7_fill_53178_10 : decode prog_20_method_103_code 10 = .ok (.aload_n 0, 1) := by decide +kernel
theorem d_J7_fill_53178_11 : decode prog_20_method_103_code 11 = .ok (.iload_n 2, 1) := by decide +kernel
theorem d_J7_fill_53178_12 : decode prog_20_method_103_code 12 = .ok (.iload_n 1, 1) := by decide +kernel
theorem d_J7_fill_53178_13 : decode prog_20_method_103_code 13 = .ok (.iastore, 1) := by decide +kernel
theorem d_J7_fill_53178_14 : decode prog_20_method_103_code 14 = .ok (.iinc 2 1, 3) := by decide +kernel
theorem d_J7_fill_53178_17 : decode prog_20_method_103_code 17 = .ok (.goto (-12), 3) := by decide +kernel
theorem d_J7_fill_53178_20 : decode prog_20_method_103_code 20 = .ok (.return_, 1) := by decide +kernel
def k_J7_fill_53178_5 (kap lam : Nat → Nat) (go5 : Nat → Int32 → Int32 → Int32 → fm_M → Option fm_M) (r0 : Nat) (a1 : Int32) (a2 : Int32) (a3 : Int32)  (S : fm_M) : Option fm_M :=
  if a3 ≤ a2 then (
   some S
  ) else (
   fm_st kap lam r0 a2 a1 S fun S13 =>
   fm_let (a2 + 1 : Int32) fun x14 =>
   go5 r0 a1 x14 a3 S13
  )
def b_J7_fill_53178_5 (kap lam : Nat → Nat) : Nat → Nat → Int32 → Int32 → Int32 → fm_M → Option fm_M
  | 0 => fun _ _ _ _ _ => none
  | n + 1 => k_J7_fill_53178_5 kap lam (b_J7_fill_53178_5 kap lam n)
def m_J7_fill_53178 (kap lam : Nat → Nat) (r0 : Nat) (a1 : Int32) (S : fm_M) : Option fm_M :=
  fm_let (0 : Int32) fun x1 =>
  fm_ln kap lam 13 r0 fun x3 =>
  b_J7_fill_53178_5 kap lam fm_LF r0 a1 x1 x3 S
set_option maxHeartbeats 4000000 in
set_option maxRecDepth 100000 in
theorem c_J7_fill_53178 {l : Launch} {D : va_G} {ids kap lam : Nat → Nat} {RL : List Nat} {ad sk sv : Nat → Nat} {S : fm_M} {r0 : Nat} {a1 : Int32} {u : fm_M} (hE : fm_E kap RL ad) (hf : m_J7_fill_53178 kap lam r0 a1 S = some u) (sz : Nat) : fm_MV l y_J7_fill_53178 prog_20_method_103_code 4 (Option.none : Option Jvm.ClassFile.FieldType) 0 D ids kap lam RL ad sk sv S [.ref (ad r0), .int a1] sz u := by
  refine fm_open rfl hE (Nat.le_of_ble_eq_true rfl) (fun p e s m args below meth c ls Z hr hlk G F N hl hsz => ?_)
  subst hsz
  obtain ⟨hx, hb, hml, hown, hts⟩ := id Z
  have hl : lv_has ls 4 [(0, .ref (ad r0)), (1, .int a1)] := hl
  generalize hQ : MQ below _ args s 0 0 (fm_A RL ad s.heap.size) = Qf
  have hL : ∀ n : Nat, (∀ (r0 : Nat) (a1 : Int32) (a2 : Int32) (a3 : Int32)  (S : fm_M) (H : Heap) (locs : List Loc) (ls : Array Slot), fm_F D ids kap lam RL ad S (fm_A RL ad s.heap.size) s.heap H locs → lv_has ls 4 [(0, .ref (ad r0)), (1, .int a1), (2, .int a2), (3, .int a3)] → b_J7_fill_53178_5 kap lam n r0 a1 a2 a3 S = some u → W p l e (fm_rm 0) s m args below meth c H locs 0 0 Qf (F0 m 5 ls [])) := by
    intro n
    induction n with
    | zero => exact fun _ _ _ _ _ _ _ _ _ _ hf => absurd hf (by intro h; cases h)
    | succ n ih =>
      intro r0 a1 a2 a3 S H locs ls F hl hf
      have hf : k_J7_fill_53178_5 kap lam (b_J7_fill_53178_5 kap lam n) r0 a1 a2 a3 S = some u := hf
      unfold k_J7_fill_53178_5 at hf
      refine lv_iload_n hx hb d_J7_fill_53178_5 rfl (lv_at hl 2 rfl) ?_
      refine lv_iload_n hx hb d_J7_fill_53178_6 rfl (lv_at hl 3 rfl) ?_
      refine lv_icmp_ge (tgt := 20) hx hb d_J7_fill_53178_7 (by decide) (fun c7 => ?_) (fun c7 => ?_)
      · have hf := fm_ip c7 hf
        rw [← hQ]; exact fm_retv Z hr hlk F d_J7_fill_53178_20 (Option.some.inj hf)
      · have hf := fm_ig c7 hf
        refine lv_aload_n hx hb d_J7_fill_53178_10 rfl (lv_at hl 0 rfl) ?_
        refine lv_iload_n hx hb d_J7_fill_53178_11 rfl (lv_at hl 2 rfl) ?_
        refine lv_iload_n hx hb d_J7_fill_53178_12 rfl (lv_at hl 1 rfl) ?_
        refine fm_rst Z G F hf d_J7_fill_53178_13 (fun S13 H locs _ F hf => ?_)
        obtain ⟨x14, ex14⟩ : ∃ y : Int32, y = a2 + 1 := ⟨_, rfl⟩
        have hf := fm_let_at ex14 hf
        refine lv_iinc (v := x14) (lv' := [(2, .int x14), (0, .ref (ad r0)), (1, .int a1), (3, .int a3)]) hx hb d_J7_fill_53178_14 hl (k := 2) rfl (by rw [ex14]; rfl) (by decide) rfl (fun ls hl => ?_)
        refine lv_goto (tgt := 5) hx hb d_J7_fill_53178_17 (by decide) ?_
        exact ih r0 a1 x14 a3 S13 _ _ _ F (lv_sub hl [1, 2, 0, 3] rfl) hf
  unfold m_J7_fill_53178 at hf
  refine lv_iconst (v := 0) hx hb d_J7_fill_53178_0 (by decide) ?_
  refine lv_topi (fun x1 ex1 => ?_)
  have hf := fm_let_at ex1 hf
  refine lv_istore_n (lv' := [(2, .int x1), (0, .ref (ad r0)), (1, .int a1)]) hx hb d_J7_fill_53178_1 rfl hl (by decide) rfl (fun ls hl => ?_)
  refine lv_aload_n hx hb d_J7_fill_53178_2 rfl (lv_at hl 1 rfl) ?_
  refine fm_rln Z G F hf d_J7_fill_53178_3 (fun x3 _ hf => ?_)
  refine lv_istore_n (lv' := [(3, .int x3), (2, .int x1), (0, .ref (ad r0)), (1, .int a1)]) hx hb d_J7_fill_53178_4 rfl hl (by decide) rfl (fun ls hl => ?_)
  exact (hL fm_LF) r0 a1 x1 x3 S _ _ _ F (lv_sub hl [2, 3, 1, 0] rfl) hf
theorem d_X1_start_0 : decode prog_3_method_2_code 0 = .ok (.aload_n 0, 1) := by decide +kernel
theorem d_X1_start_1 : decode prog_3_method_2_code 1 = .ok (.aload_n 1, 1) := by decide +kernel
theorem d_X1_start_2 : decode prog_3_method_2_code 2 = .ok (.putfield 42, 3) := by decide +kernel
theorem d_X1_start_5 : decode prog_3_method_2_code 5 = .ok (.aload_n 0, 1) := by decide +kernel
theorem d_X1_start_6 : decode prog_3_method_2_code 6 = .ok (.iload_n 2, 1) := by decide +kernel
theorem d_X1_start_7 : decode prog_3_method_2_code 7 = .ok (.putfield 9, 3) := by decide +kernel
theorem d_X1_start_10 : decode prog_3_method_2_code 10 = .ok (.aload_n 0, 1) := by decide +kernel
theorem d_X1_start_11 : decode prog_3_method_2_code 11 = .ok (.iload_n 3, 1) := by decide +kernel
theorem d_X1_start_12 : decode prog_3_method_2_code 12 = .ok (.putfield 21, 3) := by decide +kernel
theorem d_X1_start_15 : decode prog_3_method_2_code 15 = .ok (.aload_n 0, 1) := by decide +kernel
theorem d_X1_start_16 : decode prog_3_method_2_code 16 = .ok (.aload_n 0, 1) := by decide +kernel
theorem d_X1_start_17 : decode prog_3_method_2_code 17 = .ok (.getfield 38, 3) := by decide +kernel
theorem d_X1_start_20 : decode prog_3_method_2_code 20 = .ok (.getfield 46, 3) := by decide +kernel
theorem d_X1_start_23 : decode prog_3_method_2_code 23 = .ok (.putfield 15, 3) := by decide +kernel
theorem d_X1_start_26 : decode prog_3_method_2_code 26 = .ok (.aload_n 0, 1) := by decide +kernel
theorem d_X1_start_27 : decode prog_3_method_2_code 27 = .ok (.aload_n 0, 1) := by decide +kernel
theorem d_X1_start_28 : decode prog_3_method_2_code 28 = .ok (.getfield 38, 3) := by decide +kernel
theorem d_X1_start_31 : decode prog_3_method_2_code 31 = .ok (.getfield 49, 3) := by decide +kernel
theorem d_X1_start_34 : decode prog_3_method_2_code 34 = .ok (.putfield 18, 3) := by decide +kernel
theorem d_X1_start_37 : decode prog_3_method_2_code 37 = .ok (.aload_n 0, 1) := by decide +kernel
theorem d_X1_start_38 : decode prog_3_method_2_code 38 = .ok (.aload_n 0, 1) := by decide +kernel
theorem d_X1_start_39 : decode prog_3_method_2_code 39 = .ok (.getfield 38, 3) := by decide +kernel
theorem d_X1_start_42 : decode prog_3_method_2_code 42 = .ok (.getfield 50, 3) := by decide +kernel
theorem d_X1_start_45 : decode prog_3_method_2_code 45 = .ok (.putfield 24, 3) := by decide +kernel
theorem d_X1_start_48 : decode prog_3_method_2_code 48 = .ok (.aload_n 0, 1) := by decide +kernel
theorem d_X1_start_49 : decode prog_3_method_2_code 49 = .ok (.aload_n 0, 1) := by decide +kernel
theorem d_X1_start_50 : decode prog_3_method_2_code 50 = .ok (.getfield 38, 3) := by decide +kernel
theorem d_X1_start_53 : decode prog_3_method_2_code 53 = .ok (.getfield 51, 3) := by decide +kernel
theorem d_X1_start_56 : decode prog_3_method_2_code 56 = .ok (.putfield 27, 3) := by decide +kernel
theorem d_X1_start_59 : decode prog_3_method_2_code 59 = .ok (.return_, 1) := by decide +kernel
def m_X1_start (kap lam : Nat → Nat) (r0 : Nat) (r1 : Nat) (a2 : Int32) (a3 : Int32) (S : fm_M) : Option fm_M :=
  fm_pr kap 1 r0 1 S r1 fun S2 =>
  fm_pi kap 1 r0 2 S2 a2 fun S7 =>
  fm_pi kap 1 r0 5 S7 a3 fun S12 =>
  fm_gr kap 1 r0 0 S12 fun q17 =>
  fm_gi kap 5 q17 3 S12 fun x20 =>
  fm_pi kap 1 r0 3 S12 x20 fun S23 =>
  fm_gr kap 1 r0 0 S23 fun q28 =>
  fm_gi kap 5 q28 2 S23 fun x31 =>
  fm_pi kap 1 r0 4 S23 x31 fun S34 =>
  fm_gr kap 1 r0 0 S34 fun q39 =>
  fm_gi kap 5 q39 4 S34 fun x42 =>
  fm_pi kap 1 r0 6 S34 x42 fun S45 =>
  fm_gr kap 1 r0 0 S45 fun q50 =>
  fm_gi kap 5 q50 5 S45 fun x53 =>
  fm_pz kap 1 r0 7 S45 x53 fun S56 =>
  some S56
set_option maxHeartbeats 4000000 in
set_option maxRecDepth 100000 in
theorem c_X1_start {l : Launch} {D : va_G} {ids kap lam : Nat → Nat} {RL : List Nat} {ad sk sv : Nat → Nat} {S : fm_M} {r0 : Nat} {r1 : Nat} {a2 : Int32} {a3 : Int32} {u : fm_M} (hE : fm_E kap RL ad) (hf : m_X1_start kap lam r0 r1 a2 a3 S = some u) (sz : Nat) : fm_MV l y_X1_start prog_3_method_2_code 4 (Option.none : Option Jvm.ClassFile.FieldType) 0 D ids kap lam RL ad sk sv S [.ref (ad r0), .ref (ad r1), .int a2, .int a3] sz u := by
  refine fm_open rfl hE (Nat.le_of_ble_eq_true rfl) (fun p e s m args below meth c ls Z hr hlk G F N hl hsz => ?_)
  subst hsz
  obtain ⟨hx, hb, hml, hown, hts⟩ := id Z
  have hl : lv_has ls 4 [(0, .ref (ad r0)), (1, .ref (ad r1)), (2, .int a2), (3, .int a3)] := hl
  unfold m_X1_start at hf
  refine lv_aload_n hx hb d_X1_start_0 rfl (lv_at hl 0 rfl) ?_
  refine lv_aload_n hx hb d_X1_start_1 rfl (lv_at hl 1 rfl) ?_
  refine fm_rpr Z G F hf fs_X1_42 d_X1_start_2 (fun S2 H locs _ F hf => ?_)
  refine lv_aload_n hx hb d_X1_start_5 rfl (lv_at hl 0 rfl) ?_
  refine lv_iload_n hx hb d_X1_start_6 rfl (lv_at hl 2 rfl) ?_
  refine fm_rpi Z G F hf fs_X1_9 d_X1_start_7 (fun c h => by have h := eq_of_beq (show (c == 1) = true from h); subst h; rfl) (fun S7 H locs _ F hf => ?_)
  refine lv_aload_n hx hb d_X1_start_10 rfl (lv_at hl 0 rfl) ?_
  refine lv_iload_n hx hb d_X1_start_11 rfl (lv_at hl 3 rfl) ?_
  refine fm_rpi Z G F hf fs_X1_21 d_X1_start_12 (fun c h => by have h := eq_of_beq (show (c == 1) = true from h); subst h; rfl) (fun S12 H locs _ F hf => ?_)
  refine lv_aload_n hx hb d_X1_start_15 rfl (lv_at hl 0 rfl) ?_
  refine lv_aload_n hx hb d_X1_start_16 rfl (lv_at hl 0 rfl) ?_
  refine fm_rgr Z G F hf fr_X1_38 d_X1_start_17 (fun q17 _ hf => ?_)
  refine fm_rgi Z G F hf fr_X1_46 d_X1_start_20 (fun x20 _ hf => ?_)
  refine fm_rpi Z G F hf fs_X1_15 d_X1_start_23 (fun c h => by have h := eq_of_beq (show (c == 1) = true from h); subst h; rfl) (fun S23 H locs _ F hf => ?_)
  refine lv_aload_n hx hb d_X1_start_26 rfl (lv_at hl 0 rfl) ?_
  refine lv_aload_n hx hb d_X1_start_27 rfl (lv_at hl 0 rfl) ?_
  refine fm_rgr Z G F hf fr_X1_38 d_X1_start_28 (fun q28 _ hf => ?_)
  refine fm_rgi Z G F hf fr_X1_49 d_X1_start_31 (fun x31 _ hf => ?_)
  refine fm_rpi Z G F hf fs_X1_18 d_X1_start_34 (fun c h => by have h := eq_of_beq (show (c == 1) = true from h); subst h; rfl) (fun S34 H locs _ F hf => ?_)
  refine lv_aload_n hx hb d_X1_start_37 rfl (lv_at hl 0 rfl) ?_
  refine lv_aload_n hx hb d_X1_start_38 rfl (lv_at hl 0 rfl) ?_
  refine fm_rgr Z G F hf fr_X1_38 d_X1_start_39 (fun q39 _ hf => ?_)
  refine fm_rgi Z G F hf fr_X1_50 d_X1_start_42 (fun x42 _ hf => ?_)
  refine fm_rpi Z G F hf fs_X1_24 d_X1_start_45 (fun c h => by have h := eq_of_beq (show (c == 1) = true from h); subst h; rfl) (fun S45 H locs _ F hf => ?_)
  refine lv_aload_n hx hb d_X1_start_48 rfl (lv_at hl 0 rfl) ?_
  refine lv_aload_n hx hb d_X1_start_49 rfl (lv_at hl 0 rfl) ?_
  refine fm_rgr Z G F hf fr_X1_38 d_X1_start_50 (fun q50 _ hf => ?_)
  refine fm_rgi Z G F hf fr_X1_51 d_X1_start_53 (fun x53 _ hf => ?_)
  refine fm_rpz Z G F hf fs_X1_27 d_X1_start_56 (fun c h => by have h := eq_of_beq (show (c == 1) = true from h); subst h; rfl) (fun S56 H locs _ F hf => ?_)
  exact fm_retv Z hr hlk F d_X1_start_59 (Option.some.inj hf)
theorem d_X1_offer_0 : decode prog_3_method_3_code 0 = .ok (.aload_n 0, 1) := by decide +kernel
theorem d_X1_offer_1 : decode prog_3_method_3_code 1 = .ok (.getfield 42, 3) := by decide +kernel
theorem d_X1_offer_4 : decode prog_3_method_3_code 4 = .ok (.aload_n 0, 1) := by decide +kernel
theorem d_X1_offer_5 : decode prog_3_method_3_code 5 = .ok (.getfield 24, 3) := by decide +kernel
theorem d_X1_offer_8 : decode prog_3_method_3_code 8 = .ok (.invokevirtual 52, 3) := by decide +kernel
theorem d_X1_offer_11 : decode prog_3_method_3_code 11 = .ok (.ireturn, 1) := by decide +kernel
def m_X1_offer (kap lam : Nat → Nat) (r0 : Nat) (S : fm_M) : Option Int32 :=
  fm_gr kap 1 r0 1 S fun q1 =>
  fm_gi kap 1 r0 6 S fun x5 =>
  fm_ck (kap q1 == 10) <|
  fm_b1 (m_X10_offerOf kap lam q1 x5 S) fun x8 =>
  some x8
set_option maxHeartbeats 4000000 in
set_option maxRecDepth 100000 in
theorem c_X1_offer {l : Launch} {D : va_G} {ids kap lam : Nat → Nat} {RL : List Nat} {ad sk sv : Nat → Nat} {S : fm_M} {r0 : Nat} {r : Int32} (hE : fm_E kap RL ad) (hf : m_X1_offer kap lam r0 S = some r) (sz : Nat) : fm_MI l y_X1_offer prog_3_method_3_code 1 (Option.some Jvm.ClassFile.FieldType.int) 2 D ids kap lam RL ad sk sv S [.ref (ad r0)] sz r S := by
  refine fm_open rfl hE (Nat.le_of_ble_eq_true rfl) (fun p e s m args below meth c ls Z hr hlk G F N hl hsz => ?_)
  subst hsz
  obtain ⟨hx, hb, hml, hown, hts⟩ := id Z
  have hl : lv_has ls 1 [(0, .ref (ad r0))] := hl
  unfold m_X1_offer at hf
  refine lv_aload_n hx hb d_X1_offer_0 rfl (lv_at hl 0 rfl) ?_
  refine fm_rgr Z G F hf fr_X1_42 d_X1_offer_1 (fun q1 _ hf => ?_)
  refine lv_aload_n hx hb d_X1_offer_4 rfl (lv_at hl 0 rfl) ?_
  refine fm_rgi Z G F hf fr_X1_24 d_X1_offer_5 (fun x5 _ hf => ?_)
  obtain ⟨hk8, hf⟩ := fm_some hf
  refine fm_rcr G F hf (fun r ho => fm_runV (k := 1) Z G F N (As := [.int x5]) (rest := []) (c_X10_offerOf hE ho _) (by rw [eq_of_beq hk8]; decide) (by rw [eq_of_beq hk8]; rfl) kw_675 kw_555 kw_556 kw_2 kw_557 yd_X10_offerOf rfl (by decide) (by decide) hl.1 (Nat.le_of_ble_eq_true rfl) d_X1_offer_8 (Nat.le_refl 0) (Nat.le_refl 0)) (fun x8 H locs _ F hf => ?_)
  exact fm_reti Z hr hlk F d_X1_offer_11 (Option.some.inj hf) rfl
theorem d_X1_cellsBeside_0 : decode prog_3_method_14_code 0 = .ok (.aload_n 0, 1) := by decide +kernel
theorem d_X1_cellsBeside_1 : decode prog_3_method_14_code 1 = .ok (.getfield 24, 3) := by decide +kernel
theorem d_X1_cellsBeside_4 : decode prog_3_method_14_code 4 = .ok (.iconst 1, 1) := by decide +kernel
theorem d_X1_cellsBeside_5 : decode prog_3_method_14_code 5 = .ok (.ishl, 1) := by decide +kernel
theorem d_X1_cellsBeside_6 : decode prog_3_method_14_code 6 = .ok (.sipush 4095, 3) := by decide +kernel
theorem d_X1_cellsBeside_9 : decode prog_3_method_14_code 9 = .ok (.iand, 1) := by decide +kernel
theorem d_X1_cellsBeside_10 : decode prog_3_method_14_code 10 = .ok (.istore_n 2, 1) := by decide +kernel
theorem d_X1_cellsBeside_11 : decode prog_3_method_14_code 11 = .ok (.aload_n 0, 1) := by decide +kernel
theorem d_X1_cellsBeside_12 : decode prog_3_method_14_code 12 = .ok (.getfield 24, 3) := by decide +kernel
theorem d_X1_cellsBeside_15 : decode prog_3_method_14_code 15 = .ok (.iconst 1, 1) := by decide +kernel
theorem d_X1_cellsBeside_16 : decode prog_3_method_14_code 16 = .ok (.ishr, 1) := by decide +kernel
theorem d_X1_cellsBeside_17 : decode prog_3_method_14_code 17 = .ok (.istore_n 3, 1) := by decide +kernel
theorem d_X1_cellsBeside_18 : decode prog_3_method_14_code 18 = .ok (.iload_n 1, 1) := by decide +kernel
theorem d_X1_cellsBeside_19 : decode prog_3_method_14_code 19 = .ok (.iconst 1, 1) := by decide +kernel
theorem d_X1_cellsBeside_20 : decode prog_3_method_14_code 20 = .ok (.iand, 1) := by decide +kernel
theorem d_X1_cellsBeside_21 : decode prog_3_method_14_code 21 = .ok (.ifCond .eq 15, 3) := by decide +kernel
theorem d_X1_cellsBeside_24 : decode prog_3_method_14_code 24 = .ok (.sipush 4095, 3) := by decide +kernel
theorem d_X1_cellsBeside_27 : decode prog_3_method_14_code 27 = .ok (.iload_n 2, 1) := by decide +kernel
theorem d_X1_cellsBeside_28 : decode prog_3_method_14_code 28 = .ok (.iload_n 3, 1) := by decide +kernel
theorem d_X1_cellsBeside_29 : decode prog_3_method_14_code 29 = .ok (.ior, 1) := by decide +kernel
theorem d_X1_cellsBeside_30 : decode prog_3_method_14_code 30 = .ok (.iconst (-1), 1) := by decide +kernel
theorem d_X1_cellsBeside_31 : decode prog_3_method_14_code 31 = .ok (.ixor, 1) := by decide +kernel
theorem d_X1_cellsBeside_32 : decode prog_3_method_14_code 32 = .ok (.iand, 1) := by decide +kernel
theorem d_X1_cellsBeside_33 : decode prog_3_method_14_code 33 = .ok (.goto 4, 3) := by decide +kernel
theorem d_X1_cellsBeside_36 : decode prog_3_method_14_code 36 = .ok (.iconst 0, 1) := by decide +kernel
theorem d_X1_cellsBeside_37 : decode prog_3_method_14_code 37 = .ok (.istore 4, 2) := by decide +kernel
theorem d_X1_cellsBeside_39 : decode prog_3_method_14_code 39 = .ok (.iload 4, 2) := by decide +kernel
theorem d_X1_cellsBeside_41 : decode prog_3_method_14_code 41 = .ok (.iload_n 1, 1) := by decide +kernel
theorem d_X1_cellsBeside_42 : decode prog_3_method_14_code 42 = .ok (.iconst 2, 1) := by decide +kernel
theorem d_X1_cellsBeside_43 : decode prog_3_method_14_code 43 = .ok (.iand, 1) := by decide +kernel
theorem d_X1_cellsBeside_44 : decode prog_3_method_14_code 44 = .ok (.ifCond .eq 9, 3) := by decide +kernel
theorem d_X1_cellsBeside_47 : decode prog_3_method_14_code 47 = .ok (.iload_n 2, 1) := by decide +kernel
theorem d_X1_cellsBeside_48 : decode prog_3_method_14_code 48 = .ok (.iload_n 3, 1) := by decide +kernel
theorem d_X1_cellsBeside_49 : decode prog_3_method_14_code 49 = .ok (.ixor, 1) := by decide +kernel
theorem d_X1_cellsBeside_50 : decode prog_3_method_14_code 50 = .ok (.goto 4, 3) := by decide +kernel
theorem d_X1_cellsBeside_53 : decode prog_3_method_14_code 53 = .ok (.iconst 0, 1) := by decide +kernel
theorem d_X1_cellsBeside_54 : decode prog_3_method_14_code 54 = .ok (.ior, 1) := by decide +kernel
theorem d_X1_cellsBeside_55 : decode prog_3_method_14_code 55 = .ok (.istore 4, 2) := by decide +kernel
theorem d_X1_cellsBeside_57 : decode prog_3_method_14_code 57 = .ok (.iload 4, 2) := by decide +kernel
theorem d_X1_cellsBeside_59 : decode prog_3_method_14_code 59 = .ok (.iload_n 1, 1) := by decide +kernel
theorem d_X1_cellsBeside_60 : decode prog_3_method_14_code 60 = .ok (.iconst 4, 1) := by decide +kernel
theorem d_X1_cellsBeside_61 : decode prog_3_method_14_code 61 = .ok (.iand, 1) := by decide +kernel
theorem d_X1_cellsBeside_62 : decode prog_3_method_14_code 62 = .ok (.ifCond .eq 9, 3) := by decide +kernel
theorem d_X1_cellsBeside_65 : decode prog_3_method_14_code 65 = .ok (.iload_n 2, 1) := by decide +kernel
theorem d_X1_cellsBeside_66 : decode prog_3_method_14_code 66 = .ok (.iload_n 3, 1) := by decide +kernel
theorem d_X1_cellsBeside_67 : decode prog_3_method_14_code 67 = .ok (.iand, 1) := by decide +kernel
theorem d_X1_cellsBeside_68 : decode prog_3_method_14_code 68 = .ok (.goto 4, 3) := by decide +kernel
theorem d_X1_cellsBeside_71 : decode prog_3_method_14_code 71 = .ok (.iconst 0, 1) := by decide +kernel
theorem d_X1_cellsBeside_72 : decode prog_3_method_14_code 72 = .ok (.ior, 1) := by decide +kernel
theorem d_X1_cellsBeside_73 : decode prog_3_method_14_code 73 = .ok (.istore 4, 2) := by decide +kernel
theorem d_X1_cellsBeside_75 : decode prog_3_method_14_code 75 = .ok (.iload 4, 2) := by decide +kernel
theorem d_X1_cellsBeside_77 : decode prog_3_method_14_code 77 = .ok (.ireturn, 1) := by decide +kernel
def m_X1_cellsBeside (kap lam : Nat → Nat) (r0 : Nat) (a1 : Int32) (S : fm_M) : Option Int32 :=
  fm_gi kap 1 r0 6 S fun x1 =>
  fm_let ((x1 <<< ((1 : Int32) &&& 31)) &&& 4095 : Int32) fun x10 =>
  fm_gi kap 1 r0 6 S fun x12 =>
  fm_let (x12 >>> ((1 : Int32) &&& 31) : Int32) fun x17 =>
  if (a1 &&& 1) = 0 then (
   fm_let (0 : Int32) fun x37 =>
   if (a1 &&& 2) = 0 then (
    fm_let (x37 ||| 0 : Int32) fun x55 =>
    if (a1 &&& 4) = 0 then (
     fm_let (x55 ||| 0 : Int32) fun x73 =>
     some x73
    ) else (
     fm_let (x55 ||| (x10 &&& x17) : Int32) fun x73 =>
     some x73
    )
   ) else (
    fm_let (x37 ||| (x10 ^^^ x17) : Int32) fun x55 =>
    if (a1 &&& 4) = 0 then (
     fm_let (x55 ||| 0 : Int32) fun x73 =>
     some x73
    ) else (
     fm_let (x55 ||| (x10 &&& x17) : Int32) fun x73 =>
     some x73
    )
   )
  ) else (
   fm_let (4095 &&& ((x10 ||| x17) ^^^ (-1)) : Int32) fun x37 =>
   if (a1 &&& 2) = 0 then (
    fm_let (x37 ||| 0 : Int32) fun x55 =>
    if (a1 &&& 4) = 0 then (
     fm_let (x55 ||| 0 : Int32) fun x73 =>
     some x73
    ) else (
     fm_let (x55 ||| (x10 &&& x17) : Int32) fun x73 =>
     some x73
    )
   ) else (
    fm_let (x37 ||| (x10 ^^^ x17) : Int32) fun x55 =>
    if (a1 &&& 4) = 0 then (
     fm_let (x55 ||| 0 : Int32) fun x73 =>
     some x73
    ) else (
     fm_let (x55 ||| (x10 &&& x17) : Int32) fun x73 =>
     some x73
    )
   )
  )
set_option maxHeartbeats 4000000 in
set_option maxRecDepth 100000 in
theorem c_X1_cellsBeside {l : Launch} {D : va_G} {ids kap lam : Nat → Nat} {RL : List Nat} {ad sk sv : Nat → Nat} {S : fm_M} {r0 : Nat} {a1 : Int32} {r : Int32} (hE : fm_E kap RL ad) (hf : m_X1_cellsBeside kap lam r0 a1 S = some r) (sz : Nat) : fm_MI l y_X1_cellsBeside prog_3_method_14_code 5 (Option.some Jvm.ClassFile.FieldType.int) 0 D ids kap lam RL ad sk sv S [.ref (ad r0), .int a1] sz r S := by
  refine fm_open rfl hE (Nat.le_of_ble_eq_true rfl) (fun p e s m args below meth c ls Z hr hlk G F N hl hsz => ?_)
  subst hsz
  obtain ⟨hx, hb, hml, hown, hts⟩ := id Z
  have hl : lv_has ls 5 [(0, .ref (ad r0)), (1, .int a1)] := hl
  unfold m_X1_cellsBeside at hf
  refine lv_aload_n hx hb d_X1_cellsBeside_0 rfl (lv_at hl 0 rfl) ?_
  refine fm_rgi Z G F hf fr_X1_24 d_X1_cellsBeside_1 (fun x1 _ hf => ?_)
  refine lv_iconst (v := 1) hx hb d_X1_cellsBeside_4 (by decide) ?_
  refine lv_ishl hx hb d_X1_cellsBeside_5 ?_
  refine lv_sipush (v := 4095) hx hb d_X1_cellsBeside_6 (by decide) ?_
  refine lv_iand hx hb d_X1_cellsBeside_9 ?_
  refine lv_topi (fun x10 ex10 => ?_)
  have hf := fm_let_at ex10 hf
  refine lv_istore_n (lv' := [(2, .int x10), (0, .ref (ad r0)), (1, .int a1)]) hx hb d_X1_cellsBeside_10 rfl hl (by decide) rfl (fun ls hl => ?_)
  refine lv_aload_n hx hb d_X1_cellsBeside_11 rfl (lv_at hl 1 rfl) ?_
  refine fm_rgi Z G F hf fr_X1_24 d_X1_cellsBeside_12 (fun x12 _ hf => ?_)
  refine lv_iconst (v := 1) hx hb d_X1_cellsBeside_15 (by decide) ?_
  refine lv_ishr hx hb d_X1_cellsBeside_16 ?_
  refine lv_topi (fun x17 ex17 => ?_)
  have hf := fm_let_at ex17 hf
  refine lv_istore_n (lv' := [(3, .int x17), (2, .int x10), (0, .ref (ad r0)), (1, .int a1)]) hx hb d_X1_cellsBeside_17 rfl hl (by decide) rfl (fun ls hl => ?_)
  refine lv_iload_n hx hb d_X1_cellsBeside_18 rfl (lv_at hl 3 rfl) ?_
  refine lv_iconst (v := 1) hx hb d_X1_cellsBeside_19 (by decide) ?_
  refine lv_iand hx hb d_X1_cellsBeside_20 ?_
  refine lv_if_eq (tgt := 36) hx hb d_X1_cellsBeside_21 (by decide) (fun c21 => ?_) (fun c21 => ?_)
  · have hf := fm_ip c21 hf
    refine lv_iconst (v := 0) hx hb d_X1_cellsBeside_36 (by decide) ?_
    refine lv_topi (fun x37 ex37 => ?_)
    have hf := fm_let_at ex37 hf
    refine lv_istore (lv' := [(4, .int x37), (3, .int x17), (2, .int x10), (0, .ref (ad r0)), (1, .int a1)]) hx hb d_X1_cellsBeside_37 hl (by decide) rfl (fun ls hl => ?_)
    refine lv_iload hx hb d_X1_cellsBeside_39 (lv_at hl 0 rfl) ?_
    refine lv_iload_n hx hb d_X1_cellsBeside_41 rfl (lv_at hl 4 rfl) ?_
    refine lv_iconst (v := 2) hx hb d_X1_cellsBeside_42 (by decide) ?_
    refine lv_iand hx hb d_X1_cellsBeside_43 ?_
    refine lv_if_eq (tgt := 53) hx hb d_X1_cellsBeside_44 (by decide) (fun c44 => ?_) (fun c44 => ?_)
    · have hf := fm_ip c44 hf
      refine lv_iconst (v := 0) hx hb d_X1_cellsBeside_53 (by decide) ?_
      refine lv_ior hx hb d_X1_cellsBeside_54 ?_
      refine lv_topi (fun x55 ex55 => ?_)
      have hf := fm_let_at ex55 hf
      refine lv_istore (lv' := [(4, .int x55), (3, .int x17), (2, .int x10), (0, .ref (ad r0)), (1, .int a1)]) hx hb d_X1_cellsBeside_55 hl (by decide) rfl (fun ls hl => ?_)
      refine lv_iload hx hb d_X1_cellsBeside_57 (lv_at hl 0 rfl) ?_
      refine lv_iload_n hx hb d_X1_cellsBeside_59 rfl (lv_at hl 4 rfl) ?_
      refine lv_iconst (v := 4) hx hb d_X1_cellsBeside_60 (by decide) ?_
      refine lv_iand hx hb d_X1_cellsBeside_61 ?_
      refine lv_if_eq (tgt := 71) hx hb d_X1_cellsBeside_62 (by decide) (fun c62 => ?_) (fun c62 => ?_)
      · have hf := fm_ip c62 hf
        refine lv_iconst (v := 0) hx hb d_X1_cellsBeside_71 (by decide) ?_
        refine lv_ior hx hb d_X1_cellsBeside_72 ?_
        refine lv_topi (fun x73 ex73 => ?_)
        have hf := fm_let_at ex73 hf
        refine lv_istore (lv' := [(4, .int x73), (3, .int x17), (2, .int x10), (0, .ref (ad r0)), (1, .int a1)]) hx hb d_X1_cellsBeside_73 hl (by decide) rfl (fun ls hl => ?_)
        refine lv_iload hx hb d_X1_cellsBeside_75 (lv_at hl 0 rfl) ?_
        exact fm_reti Z hr hlk F d_X1_cellsBeside_77 (Option.some.inj hf) rfl
      · have hf := fm_ig c62 hf
        refine lv_iload_n hx hb d_X1_cellsBeside_65 rfl (lv_at hl 2 rfl) ?_
        refine lv_iload_n hx hb d_X1_cellsBeside_66 rfl (lv_at hl 1 rfl) ?_
        refine lv_iand hx hb d_X1_cellsBeside_67 ?_
        refine lv_goto (tgt := 72) hx hb d_X1_cellsBeside_68 (by decide) ?_
        refine lv_ior hx hb d_X1_cellsBeside_72 ?_
        refine lv_topi (fun x73 ex73 => ?_)
        have hf := fm_let_at ex73 hf
        refine lv_istore (lv' := [(4, .int x73), (3, .int x17), (2, .int x10), (0, .ref (ad r0)), (1, .int a1)]) hx hb d_X1_cellsBeside_73 hl (by decide) rfl (fun ls hl => ?_)
        refine lv_iload hx hb d_X1_cellsBeside_75 (lv_at hl 0 rfl) ?_
        exact fm_reti Z hr hlk F d_X1_cellsBeside_77 (Option.some.inj hf) rfl
    · have hf := fm_ig c44 hf
      refine lv_iload_n hx hb d_X1_cellsBeside_47 rfl (lv_at hl 2 rfl) ?_
      refine lv_iload_n hx hb d_X1_cellsBeside_48 rfl (lv_at hl 1 rfl) ?_
      refine lv_ixor hx hb d_X1_cellsBeside_49 ?_
      refine lv_goto (tgt := 54) hx hb d_X1_cellsBeside_50 (by decide) ?_
      refine lv_ior hx hb d_X1_cellsBeside_54 ?_
      refine lv_topi (fun x55 ex55 => ?_)
      have hf := fm_let_at ex55 hf
      refine lv_istore (lv' := [(4, .int x55), (3, .int x17), (2, .int x10), (0, .ref (ad r0)), (1, .int a1)]) hx hb d_X1_cellsBeside_55 hl (by decide) rfl (fun ls hl => ?_)
      refine lv_iload hx hb d_X1_cellsBeside_57 (lv_at hl 0 rfl) ?_
      refine lv_iload_n hx hb d_X1_cellsBeside_59 rfl (lv_at hl 4 rfl) ?_
      refine lv_iconst (v := 4) hx hb d_X1_cellsBeside_60 (by decide) ?_
      refine lv_iand hx hb d_X1_cellsBeside_61 ?_
      refine lv_if_eq (tgt := 71) hx hb d_X1_cellsBeside_62 (by decide) (fun c62 => ?_) (fun c62 => ?_)
      · have hf := fm_ip c62 hf
        refine lv_iconst (v := 0) hx hb d_X1_cellsBeside_71 (by decide) ?_
        refine lv_ior hx hb d_X1_cellsBeside_72 ?_
        refine lv_topi (fun x73 ex73 => ?_)
        have hf := fm_let_at ex73 hf
        refine lv_istore (lv' := [(4, .int x73), (3, .int x17), (2, .int x10), (0, .ref (ad r0)), (1, .int a1)]) hx hb d_X1_cellsBeside_73 hl (by decide) rfl (fun ls hl => ?_)
        refine lv_iload hx hb d_X1_cellsBeside_75 (lv_at hl 0 rfl) ?_
        exact fm_reti Z hr hlk F d_X1_cellsBeside_77 (Option.some.inj hf) rfl
      · have hf := fm_ig c62 hf
        refine lv_iload_n hx hb d_X1_cellsBeside_65 rfl (lv_at hl 2 rfl) ?_
        refine lv_iload_n hx hb d_X1_cellsBeside_66 rfl (lv_at hl 1 rfl) ?_
        refine lv_iand hx hb d_X1_cellsBeside_67 ?_
        refine lv_goto (tgt := 72) hx hb d_X1_cellsBeside_68 (by decide) ?_
        refine lv_ior hx hb d_X1_cellsBeside_72 ?_
        refine lv_topi (fun x73 ex73 => ?_)
        have hf := fm_let_at ex73 hf
        refine lv_istore (lv' := [(4, .int x73), (3, .int x17), (2, .int x10), (0, .ref (ad r0)), (1, .int a1)]) hx hb d_X1_cellsBeside_73 hl (by decide) rfl (fun ls hl => ?_)
        refine lv_iload hx hb d_X1_cellsBeside_75 (lv_at hl 0 rfl) ?_
        exact fm_reti Z hr hlk F d_X1_cellsBeside_77 (Option.some.inj hf) rfl
  · have hf := fm_ig c21 hf
    refine lv_sipush (v := 4095) hx hb d_X1_cellsBeside_24 (by decide) ?_
    refine lv_iload_n hx hb d_X1_cellsBeside_27 rfl (lv_at hl 1 rfl) ?_
    refine lv_iload_n hx hb d_X1_cellsBeside_28 rfl (lv_at hl 0 rfl) ?_
    refine lv_ior hx hb d_X1_cellsBeside_29 ?_
    refine lv_iconst (v := (-1)) hx hb d_X1_cellsBeside_30 (by decide) ?_
    refine lv_ixor hx hb d_X1_cellsBeside_31 ?_
    refine lv_iand hx hb d_X1_cellsBeside_32 ?_
    refine lv_goto (tgt := 37) hx hb d_X1_cellsBeside_33 (by decide) ?_
    refine lv_topi (fun x37 ex37 => ?_)
    have hf := fm_let_at ex37 hf
    refine lv_istore (lv' := [(4, .int x37), (3, .int x17), (2, .int x10), (0, .ref (ad r0)), (1, .int a1)]) hx hb d_X1_cellsBeside_37 hl (by decide) rfl (fun ls hl => ?_)
    refine lv_iload hx hb d_X1_cellsBeside_39 (lv_at hl 0 rfl) ?_
    refine lv_iload_n hx hb d_X1_cellsBeside_41 rfl (lv_at hl 4 rfl) ?_
    refine lv_iconst (v := 2) hx hb d_X1_cellsBeside_42 (by decide) ?_
    refine lv_iand hx hb d_X1_cellsBeside_43 ?_
    refine lv_if_eq (tgt := 53) hx hb d_X1_cellsBeside_44 (by decide) (fun c44 => ?_) (fun c44 => ?_)
    · have hf := fm_ip c44 hf
      refine lv_iconst (v := 0) hx hb d_X1_cellsBeside_53 (by decide) ?_
      refine lv_ior hx hb d_X1_cellsBeside_54 ?_
      refine lv_topi (fun x55 ex55 => ?_)
      have hf := fm_let_at ex55 hf
      refine lv_istore (lv' := [(4, .int x55), (3, .int x17), (2, .int x10), (0, .ref (ad r0)), (1, .int a1)]) hx hb d_X1_cellsBeside_55 hl (by decide) rfl (fun ls hl => ?_)
      refine lv_iload hx hb d_X1_cellsBeside_57 (lv_at hl 0 rfl) ?_
      refine lv_iload_n hx hb d_X1_cellsBeside_59 rfl (lv_at hl 4 rfl) ?_
      refine lv_iconst (v := 4) hx hb d_X1_cellsBeside_60 (by decide) ?_
      refine lv_iand hx hb d_X1_cellsBeside_61 ?_
      refine lv_if_eq (tgt := 71) hx hb d_X1_cellsBeside_62 (by decide) (fun c62 => ?_) (fun c62 => ?_)
      · have hf := fm_ip c62 hf
        refine lv_iconst (v := 0) hx hb d_X1_cellsBeside_71 (by decide) ?_
        refine lv_ior hx hb d_X1_cellsBeside_72 ?_
        refine lv_topi (fun x73 ex73 => ?_)
        have hf := fm_let_at ex73 hf
        refine lv_istore (lv' := [(4, .int x73), (3, .int x17), (2, .int x10), (0, .ref (ad r0)), (1, .int a1)]) hx hb d_X1_cellsBeside_73 hl (by decide) rfl (fun ls hl => ?_)
        refine lv_iload hx hb d_X1_cellsBeside_75 (lv_at hl 0 rfl) ?_
        exact fm_reti Z hr hlk F d_X1_cellsBeside_77 (Option.some.inj hf) rfl
      · have hf := fm_ig c62 hf
        refine lv_iload_n hx hb d_X1_cellsBeside_65 rfl (lv_at hl 2 rfl) ?_
        refine lv_iload_n hx hb d_X1_cellsBeside_66 rfl (lv_at hl 1 rfl) ?_
        refine lv_iand hx hb d_X1_cellsBeside_67 ?_
        refine lv_goto (tgt := 72) hx hb d_X1_cellsBeside_68 (by decide) ?_
        refine lv_ior hx hb d_X1_cellsBeside_72 ?_
        refine lv_topi (fun x73 ex73 => ?_)
        have hf := fm_let_at ex73 hf
        refine lv_istore (lv' := [(4, .int x73), (3, .int x17), (2, .int x10), (0, .ref (ad r0)), (1, .int a1)]) hx hb d_X1_cellsBeside_73 hl (by decide) rfl (fun ls hl => ?_)
        refine lv_iload hx hb d_X1_cellsBeside_75 (lv_at hl 0 rfl) ?_
        exact fm_reti Z hr hlk F d_X1_cellsBeside_77 (Option.some.inj hf) rfl
    · have hf := fm_ig c44 hf
      refine lv_iload_n hx hb d_X1_cellsBeside_47 rfl (lv_at hl 2 rfl) ?_
      refine lv_iload_n hx hb d_X1_cellsBeside_48 rfl (lv_at hl 1 rfl) ?_
      refine lv_ixor hx hb d_X1_cellsBeside_49 ?_
      refine lv_goto (tgt := 54) hx hb d_X1_cellsBeside_50 (by decide) ?_
      refine lv_ior hx hb d_X1_cellsBeside_54 ?_
      refine lv_topi (fun x55 ex55 => ?_)
      have hf := fm_let_at ex55 hf
      refine lv_istore (lv' := [(4, .int x55), (3, .int x17), (2, .int x10), (0, .ref (ad r0)), (1, .int a1)]) hx hb d_X1_cellsBeside_55 hl (by decide) rfl (fun ls hl => ?_)
      refine lv_iload hx hb d_X1_cellsBeside_57 (lv_at hl 0 rfl) ?_
      refine lv_iload_n hx hb d_X1_cellsBeside_59 rfl (lv_at hl 4 rfl) ?_
      refine lv_iconst (v := 4) hx hb d_X1_cellsBeside_60 (by decide) ?_
      refine lv_iand hx hb d_X1_cellsBeside_61 ?_
      refine lv_if_eq (tgt := 71) hx hb d_X1_cellsBeside_62 (by decide) (fun c62 => ?_) (fun c62 => ?_)
      · have hf := fm_ip c62 hf
        refine lv_iconst (v := 0) hx hb d_X1_cellsBeside_71 (by decide) ?_
        refine lv_ior hx hb d_X1_cellsBeside_72 ?_
        refine lv_topi (fun x73 ex73 => ?_)
        have hf := fm_let_at ex73 hf
        refine lv_istore (lv' := [(4, .int x73), (3, .int x17), (2, .int x10), (0, .ref (ad r0)), (1, .int a1)]) hx hb d_X1_cellsBeside_73 hl (by decide) rfl (fun ls hl => ?_)
        refine lv_iload hx hb d_X1_cellsBeside_75 (lv_at hl 0 rfl) ?_
        exact fm_reti Z hr hlk F d_X1_cellsBeside_77 (Option.some.inj hf) rfl
      · have hf := fm_ig c62 hf
        refine lv_iload_n hx hb d_X1_cellsBeside_65 rfl (lv_at hl 2 rfl) ?_
        refine lv_iload_n hx hb d_X1_cellsBeside_66 rfl (lv_at hl 1 rfl) ?_
        refine lv_iand hx hb d_X1_cellsBeside_67 ?_
        refine lv_goto (tgt := 72) hx hb d_X1_cellsBeside_68 (by decide) ?_
        refine lv_ior hx hb d_X1_cellsBeside_72 ?_
        refine lv_topi (fun x73 ex73 => ?_)
        have hf := fm_let_at ex73 hf
        refine lv_istore (lv' := [(4, .int x73), (3, .int x17), (2, .int x10), (0, .ref (ad r0)), (1, .int a1)]) hx hb d_X1_cellsBeside_73 hl (by decide) rfl (fun ls hl => ?_)
        refine lv_iload hx hb d_X1_cellsBeside_75 (lv_at hl 0 rfl) ?_
        exact fm_reti Z hr hlk F d_X1_cellsBeside_77 (Option.some.inj hf) rfl
theorem d_X1_cellsOfTest_0 : decode prog_3_method_13_code 0 = .ok (.iload_n 1, 1) := by decide +kernel
theorem d_X1_cellsOfTest_1 : decode prog_3_method_13_code 1 = .ok (.lookupswitch 93 #[(99, 51), (107, 74), (110, 57), (112, 63), (119, 85)], 51) := by decide +kernel
theorem d_X1_cellsOfTest_52 : decode prog_3_method_13_code 52 = .ok (.iload_n 2, 1) := by decide +kernel
theorem d_X1_cellsOfTest_53 : decode prog_3_method_13_code 53 = .ok (.sipush 4095, 3) := by decide +kernel
theorem d_X1_cellsOfTest_56 : decode prog_3_method_13_code 56 = .ok (.iand, 1) := by decide +kernel
theorem d_X1_cellsOfTest_57 : decode prog_3_method_13_code 57 = .ok (.ireturn, 1) := by decide +kernel
theorem d_X1_cellsOfTest_58 : decode prog_3_method_13_code 58 = .ok (.aload_n 0, 1) := by decide +kernel
theorem d_X1_cellsOfTest_59 : decode prog_3_method_13_code 59 = .ok (.iload_n 2, 1) := by decide +kernel
theorem d_X1_cellsOfTest_60 : decode prog_3_method_13_code 60 = .ok (.invokevirtual 117, 3) := by decide +kernel
theorem d_X1_cellsOfTest_63 : decode prog_3_method_13_code 63 = .ok (.ireturn, 1) := by decide +kernel
theorem d_X1_cellsOfTest_64 : decode prog_3_method_13_code 64 = .ok (.aload_n 0, 1) := by decide +kernel
theorem d_X1_cellsOfTest_65 : decode prog_3_method_13_code 65 = .ok (.getfield 38, 3) := by decide +kernel
theorem d_X1_cellsOfTest_68 : decode prog_3_method_13_code 68 = .ok (.getfield 84, 3) := by decide +kernel
theorem d_X1_cellsOfTest_71 : decode prog_3_method_13_code 71 = .ok (.istore_n 3, 1) := by decide +kernel
theorem d_X1_cellsOfTest_72 : decode prog_3_method_13_code 72 = .ok (.goto 30, 3) := by decide +kernel
theorem d_X1_cellsOfTest_75 : decode prog_3_method_13_code 75 = .ok (.aload_n 0, 1) := by decide +kernel
theorem d_X1_cellsOfTest_76 : decode prog_3_method_13_code 76 = .ok (.getfield 38, 3) := by decide +kernel
theorem d_X1_cellsOfTest_79 : decode prog_3_method_13_code 79 = .ok (.getfield 120, 3) := by decide +kernel
theorem d_X1_cellsOfTest_82 : decode prog_3_method_13_code 82 = .ok (.istore_n 3, 1) := by decide +kernel
theorem d_X1_cellsOfTest_83 : decode prog_3_method_13_code 83 = .ok (.goto 19, 3) := by decide +kernel
theorem d_X1_cellsOfTest_86 : decode prog_3_method_13_code 86 = .ok (.aload_n 0, 1) := by decide +kernel
theorem d_X1_cellsOfTest_87 : decode prog_3_method_13_code 87 = .ok (.getfield 15, 3) := by decide +kernel
theorem d_X1_cellsOfTest_90 : decode prog_3_method_13_code 90 = .ok (.istore_n 3, 1) := by decide +kernel
theorem d_X1_cellsOfTest_91 : decode prog_3_method_13_code 91 = .ok (.goto 11, 3) := by decide +kernel
theorem d_X1_cellsOfTest_94 : decode prog_3_method_13_code 94 = .ok (.aload_n 0, 1) := by decide +kernel
theorem d_X1_cellsOfTest_95 : decode prog_3_method_13_code 95 = .ok (.getfield 21, 3) := by decide +kernel
theorem d_X1_cellsOfTest_98 : decode prog_3_method_13_code 98 = .ok (.bipush 10, 2) := by decide +kernel
theorem d_X1_cellsOfTest_100 : decode prog_3_method_13_code 100 = .ok (.irem, 1) := by decide +kernel
theorem d_X1_cellsOfTest_101 : decode prog_3_method_13_code 101 = .ok (.istore_n 3, 1) := by decide +kernel
theorem d_X1_cellsOfTest_102 : decode prog_3_method_13_code 102 = .ok (.iload_n 2, 1) := by decide +kernel
theorem d_X1_cellsOfTest_103 : decode prog_3_method_13_code 103 = .ok (.iload_n 3, 1) := by decide +kernel
theorem d_X1_cellsOfTest_104 : decode prog_3_method_13_code 104 = .ok (.ishr, 1) := by decide +kernel
theorem d_X1_cellsOfTest_105 : decode prog_3_method_13_code 105 = .ok (.iconst 1, 1) := by decide +kernel
theorem d_X1_cellsOfTest_106 : decode prog_3_method_13_code 106 = .ok (.iand, 1) := by decide +kernel
theorem d_X1_cellsOfTest_107 : decode prog_3_method_13_code 107 = .ok (.ifCond .eq 9, 3) := by decide +kernel
theorem d_X1_cellsOfTest_110 : decode prog_3_method_13_code 110 = .ok (.sipush 4095, 3) := by decide +kernel
theorem d_X1_cellsOfTest_113 : decode prog_3_method_13_code 113 = .ok (.goto 4, 3) := by decide +kernel
theorem d_X1_cellsOfTest_116 : decode prog_3_method_13_code 116 = .ok (.iconst 0, 1) := by decide +kernel
theorem d_X1_cellsOfTest_117 : decode prog_3_method_13_code 117 = .ok (.ireturn, 1) := by decide +kernel
def m_X1_cellsOfTest (kap lam : Nat → Nat) (r0 : Nat) (a1 : Int32) (a2 : Int32) (S : fm_M) : Option Int32 :=
  if a1 = 99 then (
   some (a2 &&& 4095)
  ) else (
   if a1 = 107 then (
    fm_gr kap 1 r0 0 S fun q76 =>
    fm_gi kap 5 q76 0 S fun x79 =>
    if ((a2 >>> (x79 &&& 31)) &&& 1) = 0 then (
     some 0
    ) else (
     some 4095
    )
   ) else (
    if a1 = 110 then (
     fm_ck (kap r0 == 1) <|
     fm_b1 (m_X1_cellsBeside kap lam r0 a2 S) fun x60 =>
     some x60
    ) else (
     if a1 = 112 then (
      fm_gr kap 1 r0 0 S fun q65 =>
      fm_gi kap 5 q65 1 S fun x68 =>
      if ((a2 >>> (x68 &&& 31)) &&& 1) = 0 then (
       some 0
      ) else (
       some 4095
      )
     ) else (
      if a1 = 119 then (
       fm_gi kap 1 r0 3 S fun x87 =>
       if ((a2 >>> (x87 &&& 31)) &&& 1) = 0 then (
        some 0
       ) else (
        some 4095
       )
      ) else (
       fm_gi kap 1 r0 5 S fun x95 =>
       fm_let (x95 - x95 / 10 * 10 : Int32) fun x101 =>
       if ((a2 >>> (x101 &&& 31)) &&& 1) = 0 then (
        some 0
       ) else (
        some 4095
       )
      )
     )
    )
   )
  )
set_option maxHeartbeats 4000000 in
set_option maxRecDepth 100000 in
theorem c_X1_cellsOfTest {l : Launch} {D : va_G} {ids kap lam : Nat → Nat} {RL : List Nat} {ad sk sv : Nat → Nat} {S : fm_M} {r0 : Nat} {a1 : Int32} {a2 : Int32} {r : Int32} (hE : fm_E kap RL ad) (hf : m_X1_cellsOfTest kap lam r0 a1 a2 S = some r) (sz : Nat) : fm_MI l y_X1_cellsOfTest prog_3_method_13_code 4 (Option.some Jvm.ClassFile.FieldType.int) 1 D ids kap lam RL ad sk sv S [.ref (ad r0), .int a1, .int a2] sz r S := by
  refine fm_open rfl hE (Nat.le_of_ble_eq_true rfl) (fun p e s m args below meth c ls Z hr hlk G F N hl hsz => ?_)
  subst hsz
  obtain ⟨hx, hb, hml, hown, hts⟩ := id Z
  have hl : lv_has ls 4 [(0, .ref (ad r0)), (1, .int a1), (2, .int a2)] := hl
  unfold m_X1_cellsOfTest at hf
  refine lv_iload_n hx hb d_X1_cellsOfTest_0 rfl (lv_at hl 1 rfl) ?_
  by_cases w1_99 : a1 = 99
  · have hf := fm_ip w1_99 hf
    refine lv_lookup (off := 51) (tgt := 52) hx hb d_X1_cellsOfTest_1 (by decide) (by rw [w1_99]; decide) (by decide) ?_
    refine lv_iload_n hx hb d_X1_cellsOfTest_52 rfl (lv_at hl 2 rfl) ?_
    refine lv_sipush (v := 4095) hx hb d_X1_cellsOfTest_53 (by decide) ?_
    refine lv_iand hx hb d_X1_cellsOfTest_56 ?_
    exact fm_reti Z hr hlk F d_X1_cellsOfTest_57 (Option.some.inj hf) rfl
  have hf := fm_ig w1_99 hf
  by_cases w1_107 : a1 = 107
  · have hf := fm_ip w1_107 hf
    refine lv_lookup (off := 74) (tgt := 75) hx hb d_X1_cellsOfTest_1 (by decide) (by rw [w1_107]; decide) (by decide) ?_
    refine lv_aload_n hx hb d_X1_cellsOfTest_75 rfl (lv_at hl 0 rfl) ?_
    refine fm_rgr Z G F hf fr_X1_38 d_X1_cellsOfTest_76 (fun q76 _ hf => ?_)
    refine fm_rgi Z G F hf fr_X1_120 d_X1_cellsOfTest_79 (fun x79 _ hf => ?_)
    refine lv_istore_n (lv' := [(3, .int x79), (0, .ref (ad r0)), (1, .int a1), (2, .int a2)]) hx hb d_X1_cellsOfTest_82 rfl hl (by decide) rfl (fun ls hl => ?_)
    refine lv_goto (tgt := 102) hx hb d_X1_cellsOfTest_83 (by decide) ?_
    refine lv_iload_n hx hb d_X1_cellsOfTest_102 rfl (lv_at hl 3 rfl) ?_
    refine lv_iload_n hx hb d_X1_cellsOfTest_103 rfl (lv_at hl 0 rfl) ?_
    refine lv_ishr hx hb d_X1_cellsOfTest_104 ?_
    refine lv_iconst (v := 1) hx hb d_X1_cellsOfTest_105 (by decide) ?_
    refine lv_iand hx hb d_X1_cellsOfTest_106 ?_
    refine lv_if_eq (tgt := 116) hx hb d_X1_cellsOfTest_107 (by decide) (fun c107 => ?_) (fun c107 => ?_)
    · have hf := fm_ip c107 hf
      refine lv_iconst (v := 0) hx hb d_X1_cellsOfTest_116 (by decide) ?_
      exact fm_reti Z hr hlk F d_X1_cellsOfTest_117 (Option.some.inj hf) rfl
    · have hf := fm_ig c107 hf
      refine lv_sipush (v := 4095) hx hb d_X1_cellsOfTest_110 (by decide) ?_
      refine lv_goto (tgt := 117) hx hb d_X1_cellsOfTest_113 (by decide) ?_
      exact fm_reti Z hr hlk F d_X1_cellsOfTest_117 (Option.some.inj hf) rfl
  have hf := fm_ig w1_107 hf
  by_cases w1_110 : a1 = 110
  · have hf := fm_ip w1_110 hf
    refine lv_lookup (off := 57) (tgt := 58) hx hb d_X1_cellsOfTest_1 (by decide) (by rw [w1_110]; decide) (by decide) ?_
    refine lv_aload_n hx hb d_X1_cellsOfTest_58 rfl (lv_at hl 0 rfl) ?_
    refine lv_iload_n hx hb d_X1_cellsOfTest_59 rfl (lv_at hl 2 rfl) ?_
    obtain ⟨hk60, hf⟩ := fm_some hf
    refine fm_rcr G F hf (fun r ho => fm_runV (k := 1) Z G F N (As := [.int a2]) (rest := []) (c_X1_cellsBeside hE ho _) (by rw [eq_of_beq hk60]; decide) (by rw [eq_of_beq hk60]; rfl) kw_591 kw_593 kp_15 kw_18 kw_594 yd_X1_cellsBeside rfl (by decide) (by decide) hl.1 (Nat.le_of_ble_eq_true rfl) d_X1_cellsOfTest_60 (Nat.le_refl 0) (Nat.le_refl 0)) (fun x60 H locs _ F hf => ?_)
    exact fm_reti Z hr hlk F d_X1_cellsOfTest_63 (Option.some.inj hf) rfl
  have hf := fm_ig w1_110 hf
  by_cases w1_112 : a1 = 112
  · have hf := fm_ip w1_112 hf
    refine lv_lookup (off := 63) (tgt := 64) hx hb d_X1_cellsOfTest_1 (by decide) (by rw [w1_112]; decide) (by decide) ?_
    refine lv_aload_n hx hb d_X1_cellsOfTest_64 rfl (lv_at hl 0 rfl) ?_
    refine fm_rgr Z G F hf fr_X1_38 d_X1_cellsOfTest_65 (fun q65 _ hf => ?_)
    refine fm_rgi Z G F hf fr_X1_84 d_X1_cellsOfTest_68 (fun x68 _ hf => ?_)
    refine lv_istore_n (lv' := [(3, .int x68), (0, .ref (ad r0)), (1, .int a1), (2, .int a2)]) hx hb d_X1_cellsOfTest_71 rfl hl (by decide) rfl (fun ls hl => ?_)
    refine lv_goto (tgt := 102) hx hb d_X1_cellsOfTest_72 (by decide) ?_
    refine lv_iload_n hx hb d_X1_cellsOfTest_102 rfl (lv_at hl 3 rfl) ?_
    refine lv_iload_n hx hb d_X1_cellsOfTest_103 rfl (lv_at hl 0 rfl) ?_
    refine lv_ishr hx hb d_X1_cellsOfTest_104 ?_
    refine lv_iconst (v := 1) hx hb d_X1_cellsOfTest_105 (by decide) ?_
    refine lv_iand hx hb d_X1_cellsOfTest_106 ?_
    refine lv_if_eq (tgt := 116) hx hb d_X1_cellsOfTest_107 (by decide) (fun c107 => ?_) (fun c107 => ?_)
    · have hf := fm_ip c107 hf
      refine lv_iconst (v := 0) hx hb d_X1_cellsOfTest_116 (by decide) ?_
      exact fm_reti Z hr hlk F d_X1_cellsOfTest_117 (Option.some.inj hf) rfl
    · have hf := fm_ig c107 hf
      refine lv_sipush (v := 4095) hx hb d_X1_cellsOfTest_110 (by decide) ?_
      refine lv_goto (tgt := 117) hx hb d_X1_cellsOfTest_113 (by decide) ?_
      exact fm_reti Z hr hlk F d_X1_cellsOfTest_117 (Option.some.inj hf) rfl
  have hf := fm_ig w1_112 hf
  by_cases w1_119 : a1 = 119
  · have hf := fm_ip w1_119 hf
    refine lv_lookup (off := 85) (tgt := 86) hx hb d_X1_cellsOfTest_1 (by decide) (by rw [w1_119]; decide) (by decide) ?_
    refine lv_aload_n hx hb d_X1_cellsOfTest_86 rfl (lv_at hl 0 rfl) ?_
    refine fm_rgi Z G F hf fr_X1_15 d_X1_cellsOfTest_87 (fun x87 _ hf => ?_)
    refine lv_istore_n (lv' := [(3, .int x87), (0, .ref (ad r0)), (1, .int a1), (2, .int a2)]) hx hb d_X1_cellsOfTest_90 rfl hl (by decide) rfl (fun ls hl => ?_)
    refine lv_goto (tgt := 102) hx hb d_X1_cellsOfTest_91 (by decide) ?_
    refine lv_iload_n hx hb d_X1_cellsOfTest_102 rfl (lv_at hl 3 rfl) ?_
    refine lv_iload_n hx hb d_X1_cellsOfTest_103 rfl (lv_at hl 0 rfl) ?_
    refine lv_ishr hx hb d_X1_cellsOfTest_104 ?_
    refine lv_iconst (v := 1) hx hb d_X1_cellsOfTest_105 (by decide) ?_
    refine lv_iand hx hb d_X1_cellsOfTest_106 ?_
    refine lv_if_eq (tgt := 116) hx hb d_X1_cellsOfTest_107 (by decide) (fun c107 => ?_) (fun c107 => ?_)
    · have hf := fm_ip c107 hf
      refine lv_iconst (v := 0) hx hb d_X1_cellsOfTest_116 (by decide) ?_
      exact fm_reti Z hr hlk F d_X1_cellsOfTest_117 (Option.some.inj hf) rfl
    · have hf := fm_ig c107 hf
      refine lv_sipush (v := 4095) hx hb d_X1_cellsOfTest_110 (by decide) ?_
      refine lv_goto (tgt := 117) hx hb d_X1_cellsOfTest_113 (by decide) ?_
      exact fm_reti Z hr hlk F d_X1_cellsOfTest_117 (Option.some.inj hf) rfl
  have hf := fm_ig w1_119 hf
  refine lv_lookup (off := 93) (tgt := 94) hx hb d_X1_cellsOfTest_1 (by decide) ((lv_osw w1_99 (by decide)).trans ((lv_osw w1_107 (by decide)).trans ((lv_osw w1_110 (by decide)).trans ((lv_osw w1_112 (by decide)).trans ((lv_osw w1_119 (by decide)).trans rfl))))) (by decide) ?_
  refine lv_aload_n hx hb d_X1_cellsOfTest_94 rfl (lv_at hl 0 rfl) ?_
  refine fm_rgi Z G F hf fr_X1_21 d_X1_cellsOfTest_95 (fun x95 _ hf => ?_)
  refine lv_bipush (v := 10) hx hb d_X1_cellsOfTest_98 (by decide) ?_
  refine lv_irem hx hb d_X1_cellsOfTest_100 (by decide) ?_
  refine lv_topi (fun x101 ex101 => ?_)
  have hf := fm_let_at ex101 hf
  refine lv_istore_n (lv' := [(3, .int x101), (0, .ref (ad r0)), (1, .int a1), (2, .int a2)]) hx hb d_X1_cellsOfTest_101 rfl hl (by decide) rfl (fun ls hl => ?_)
  refine lv_iload_n hx hb d_X1_cellsOfTest_102 rfl (lv_at hl 3 rfl) ?_
  refine lv_iload_n hx hb d_X1_cellsOfTest_103 rfl (lv_at hl 0 rfl) ?_
  refine lv_ishr hx hb d_X1_cellsOfTest_104 ?_
  refine lv_iconst (v := 1) hx hb d_X1_cellsOfTest_105 (by decide) ?_
  refine lv_iand hx hb d_X1_cellsOfTest_106 ?_
  refine lv_if_eq (tgt := 116) hx hb d_X1_cellsOfTest_107 (by decide) (fun c107 => ?_) (fun c107 => ?_)
  · have hf := fm_ip c107 hf
    refine lv_iconst (v := 0) hx hb d_X1_cellsOfTest_116 (by decide) ?_
    exact fm_reti Z hr hlk F d_X1_cellsOfTest_117 (Option.some.inj hf) rfl
  · have hf := fm_ig c107 hf
    refine lv_sipush (v := 4095) hx hb d_X1_cellsOfTest_110 (by decide) ?_
    refine lv_goto (tgt := 117) hx hb d_X1_cellsOfTest_113 (by decide) ?_
    exact fm_reti Z hr hlk F d_X1_cellsOfTest_117 (Option.some.inj hf) rfl
theorem d_X1_cellsWhere_0 : decode prog_3_method_12_code 0 = .ok (.iconst 0, 1) := by decide +kernel
theorem d_X1_cellsWhere_1 : decode prog_3_method_12_code 1 = .ok (.istore_n 2, 1) := by decide +kernel
theorem d_X1_cellsWhere_2 : decode prog_3_method_12_code 2 = .ok (.iload_n 1, 1) := by decide +kernel
theorem d_X1_cellsWhere_3 : decode prog_3_method_12_code 3 = .ok (.ifCond .ne 7, 3) := by decide +kernel
theorem d_X1_cellsWhere_6 : decode prog_3_method_12_code 6 = .ok (.iconst 0, 1) := by decide +kernel
theorem d_X1_cellsWhere_7 : decode prog_3_method_12_code 7 = .ok (.goto 14, 3) := by decide +kernel
theorem d_X1_cellsWhere_10 : decode prog_3_method_12_code 10 = .ok (.aload_n 0, 1) := by decide +kernel
theorem d_X1_cellsWhere_11 : decode prog_3_method_12_code 11 = .ok (.getfield 42, 3) := by decide +kernel
theorem d_X1_cellsWhere_14 : decode prog_3_method_12_code 14 = .ok (.getfield 105, 3) := by decide +kernel
theorem d_X1_cellsWhere_17 : decode prog_3_method_12_code 17 = .ok (.iload_n 1, 1) := by decide +kernel
theorem d_X1_cellsWhere_18 : decode prog_3_method_12_code 18 = .ok (.iconst 1, 1) := by decide +kernel
theorem d_X1_cellsWhere_19 : decode prog_3_method_12_code 19 = .ok (.isub, 1) := by decide +kernel
theorem d_X1_cellsWhere_20 : decode prog_3_method_12_code 20 = .ok (.iaload, 1) := by decide +kernel
theorem d_X1_cellsWhere_21 : decode prog_3_method_12_code 21 = .ok (.istore_n 3, 1) := by decide +kernel
theorem d_X1_cellsWhere_22 : decode prog_3_method_12_code 22 = .ok (.iload_n 3, 1) := by decide +kernel
theorem d_X1_cellsWhere_23 : decode prog_3_method_12_code 23 = .ok (.aload_n 0, 1) := by decide +kernel
theorem d_X1_cellsWhere_24 : decode prog_3_method_12_code 24 = .ok (.getfield 42, 3) := by decide +kernel
theorem d_X1_cellsWhere_27 : decode prog_3_method_12_code 27 = .ok (.getfield 105, 3) := by decide +kernel
theorem d_X1_cellsWhere_30 : decode prog_3_method_12_code 30 = .ok (.iload_n 1, 1) := by decide +kernel
theorem d_X1_cellsWhere_31 : decode prog_3_method_12_code 31 = .ok (.iaload, 1) := by decide +kernel
theorem d_X1_cellsWhere_32 : decode prog_3_method_12_code 32 = .ok (.if_icmp .ge 148, 3) := by decide +kernel
theorem d_X1_cellsWhere_35 : decode prog_3_method_12_code 35 = .ok (.aload_n 0, 1) := by decide +kernel
theorem d_X1_cellsWhere_36 : decode prog_3_method_12_code 36 = .ok (.getfield 42, 3) := by decide +kernel
theorem d_X1_cellsWhere_39 : decode prog_3_method_12_code 39 = .ok (.getfield 108, 3) := by decide +kernel
theorem d_X1_cellsWhere_42 : decode prog_3_method_12_code 42 = .ok (.iload_n 3, 1) := by decide +kernel
theorem d_X1_cellsWhere_43 : decode prog_3_method_12_code 43 = .ok (.iaload, 1) := by decide +kernel
theorem d_X1_cellsWhere_44 : decode prog_3_method_12_code 44 = .ok (.istore 4, 2) := by decide +kernel
theorem d_X1_cellsWhere_46 : decode prog_3_method_12_code 46 = .ok (.iload 4, 2) := by decide +kernel
theorem d_X1_cellsWhere_48 : decode prog_3_method_12_code 48 = .ok (.bipush 33, 2) := by decide +kernel
theorem d_X1_cellsWhere_50 : decode prog_3_method_12_code 50 = .ok (.if_icmp .ne 24, 3) := by decide +kernel
theorem d_X1_cellsWhere_53 : decode prog_3_method_12_code 53 = .ok (.iload_n 2, 1) := by decide +kernel
theorem d_X1_cellsWhere_54 : decode prog_3_method_12_code 54 = .ok (.ifCond .le 20, 3) := by decide +kernel
theorem d_X1_cellsWhere_57 : decode prog_3_method_12_code 57 = .ok (.aload_n 0, 1) := by decide +kernel
theorem d_X1_cellsWhere_58 : decode prog_3_method_12_code 58 = .ok (.getfield 35, 3) := by decide +kernel
theorem d_X1_cellsWhere_61 : decode prog_3_method_12_code 61 = .ok (.iload_n 2, 1) := by decide +kernel
theorem d_X1_cellsWhere_62 : decode prog_3_method_12_code 62 = .ok (.iconst 1, 1) := by decide +kernel
theorem d_X1_cellsWhere_63 : decode prog_3_method_12_code 63 = .ok (.isub, 1) := by decide +kernel
theorem d_X1_cellsWhere_64 : decode prog_3_method_12_code 64 = .ok (.dup2, 1) := by decide +kernel
theorem d_X1_cellsWhere_65 : decode prog_3_method_12_code 65 = .ok (.iaload, 1) := by decide +kernel
theorem d_X1_cellsWhere_66 : decode prog_3_method_12_code 66 = .ok (.sipush 4095, 3) := by decide +kernel
theorem d_X1_cellsWhere_69 : decode prog_3_method_12_code 69 = .ok (.ixor, 1) := by decide +kernel
theorem d_X1_cellsWhere_70 : decode prog_3_method_12_code 70 = .ok (.iastore, 1) := by decide +kernel
theorem d_X1_cellsWhere_71 : decode prog_3_method_12_code 71 = .ok (.goto 103, 3) := by decide +kernel
theorem d_X1_cellsWhere_74 : decode prog_3_method_12_code 74 = .ok (.iload 4, 2) := by decide +kernel
theorem d_X1_cellsWhere_76 : decode prog_3_method_12_code 76 = .ok (.bipush 38, 2) := by decide +kernel
theorem d_X1_cellsWhere_78 : decode prog_3_method_12_code 78 = .ok (.if_icmp .ne 31, 3) := by decide +kernel
theorem d_X1_cellsWhere_81 : decode prog_3_method_12_code 81 = .ok (.iload_n 2, 1) := by decide +kernel
theorem d_X1_cellsWhere_82 : decode prog_3_method_12_code 82 = .ok (.iconst 1, 1) := by decide +kernel
theorem d_X1_cellsWhere_83 : decode prog_3_method_12_code 83 = .ok (.if_icmp .le 26, 3) := by decide +kernel
theorem d_X1_cellsWhere_86 : decode prog_3_method_12_code 86 = .ok (.iinc 2 (-1), 3) := by decide +kernel
theorem d_X1_cellsWhere_89 : decode prog_3_method_12_code 89 = .ok (.aload_n 0, 1) := by decide +kernel
theorem d_X1_cellsWhere_90 : decode prog_3_method_12_code 90 = .ok (.getfield 35, 3) := by decide +kernel
theorem d_X1_cellsWhere_93 : decode prog_3_method_12_code 93 = .ok (.iload_n 2, 1) := by decide +kernel
theorem d_X1_cellsWhere_94 : decode prog_3_method_12_code 94 = .ok (.iconst 1, 1) := by decide +kernel
theorem d_X1_cellsWhere_95 : decode prog_3_method_12_code 95 = .ok (.isub, 1) := by decide +kernel
theorem d_X1_cellsWhere_96 : decode prog_3_method_12_code 96 = .ok (.dup2, 1) := by decide +kernel
theorem d_X1_cellsWhere_97 : decode prog_3_method_12_code 97 = .ok (.iaload, 1) := by decide +kernel
theorem d_X1_cellsWhere_98 : decode prog_3_method_12_code 98 = .ok (.aload_n 0, 1) := by decide +kernel
theorem d_X1_cellsWhere_99 : decode prog_3_method_12_code 99 = .ok (.getfield 35, 3) := by decide +kernel
theorem d_X1_cellsWhere_102 : decode prog_3_method_12_code 102 = .ok (.iload_n 2, 1) := by decide +kernel
theorem d_X1_cellsWhere_103 : decode prog_3_method_12_code 103 = .ok (.iaload, 1) := by decide +kernel
theorem d_X1_cellsWhere_104 : decode prog_3_method_12_code 104 = .ok (.iand, 1) := by decide +kernel
theorem d_X1_cellsWhere_105 : decode prog_3_method_12_code 105 = .ok (.iastore, 1) := by decide +kernel
theorem d_X1_cellsWhere_106 : decode prog_3_method_12_code 106 = .ok (.goto 68, 3) := by decide +kernel
theorem d_X1_cellsWhere_109 : decode prog_3_method_12_code 109 = .ok (.iload 4, 2) := by decide +kernel
theorem d_X1_cellsWhere_111 : decode prog_3_method_12_code 111 = .ok (.bipush 124, 2) := by decide +kernel
theorem d_X1_cellsWhere_113 : decode prog_3_method_12_code 113 = .ok (.if_icmp .ne 31, 3) := by decide +kernel
theorem d_X1_cellsWhere_116 : decode prog_3_method_12_code 116 = .ok (.iload_n 2, 1) := by decide +kernel
theorem d_X1_cellsWhere_117 : decode prog_3_method_12_code 117 = .ok (.iconst 1, 1) := by decide +kernel
theorem d_X1_cellsWhere_118 : decode prog_3_method_12_code 118 = .ok (.if_icmp .le 26, 3) := by decide +kernel
theorem d_X1_cellsWhere_121 : decode prog_3_method_12_code 121 = .ok (.iinc 2 (-1), 3) := by decide +kernel
theorem d_X1_cellsWhere_124 : decode prog_3_method_12_code 124 = .ok (.aload_n 0, 1) := by decide +kernel
theorem d_X1_cellsWhere_125 : decode prog_3_method_12_code 125 = .ok (.getfield 35, 3) := by decide +kernel
theorem d_X1_cellsWhere_128 : decode prog_3_method_12_code 128 = .ok (.iload_n 2, 1) := by decide +kernel
theorem d_X1_cellsWhere_129 : decode prog_3_method_12_code 129 = .ok (.iconst 1, 1) := by decide +kernel
theorem d_X1_cellsWhere_130 : decode prog_3_method_12_code 130 = .ok (.isub, 1) := by decide +kernel
theorem d_X1_cellsWhere_131 : decode prog_3_method_12_code 131 = .ok (.dup2, 1) := by decide +kernel
theorem d_X1_cellsWhere_132 : decode prog_3_method_12_code 132 = .ok (.iaload, 1) := by decide +kernel
theorem d_X1_cellsWhere_133 : decode prog_3_method_12_code 133 = .ok (.aload_n 0, 1) := by decide +kernel
theorem d_X1_cellsWhere_134 : decode prog_3_method_12_code 134 = .ok (.getfield 35, 3) := by decide +kernel
theorem d_X1_cellsWhere_137 : decode prog_3_method_12_code 137 = .ok (.iload_n 2, 1) := by decide +kernel
theorem d_X1_cellsWhere_138 : decode prog_3_method_12_code 138 = .ok (.iaload, 1) := by decide +kernel
theorem d_X1_cellsWhere_139 : decode prog_3_method_12_code 139 = .ok (.ior, 1) := by decide +kernel
theorem d_X1_cellsWhere_140 : decode prog_3_method_12_code 140 = .ok (.iastore, 1) := by decide +kernel
theorem d_X1_cellsWhere_141 : decode prog_3_method_12_code 141 = .ok (.goto 33, 3) := by decide +kernel
theorem d_X1_cellsWhere_144 : decode prog_3_method_12_code 144 = .ok (.iload_n 2, 1) := by decide +kernel
theorem d_X1_cellsWhere_145 : decode prog_3_method_12_code 145 = .ok (.bipush 16, 2) := by decide +kernel
theorem d_X1_cellsWhere_147 : decode prog_3_method_12_code 147 = .ok (.if_icmp .ge 27, 3) := by decide +kernel
theorem d_X1_cellsWhere_150 : decode prog_3_method_12_code 150 = .ok (.aload_n 0, 1) := by decide +kernel
theorem d_X1_cellsWhere_151 : decode prog_3_method_12_code 151 = .ok (.getfield 35, 3) := by decide +kernel
theorem d_X1_cellsWhere_154 : decode prog_3_method_12_code 154 = .ok (.iload_n 2, 1) := by decide +kernel
theorem d_X1_cellsWhere_155 : decode prog_3_method_12_code 155 = .ok (.aload_n 0, 1) := by decide +kernel
theorem d_X1_cellsWhere_156 : decode prog_3_method_12_code 156 = .ok (.iload 4, 2) := by decide +kernel
theorem d_X1_cellsWhere_158 : decode prog_3_method_12_code 158 = .ok (.aload_n 0, 1) := by decide +kernel
theorem d_X1_cellsWhere_159 : decode prog_3_method_12_code 159 = .ok (.getfield 42, 3) := by decide +kernel
theorem d_X1_cellsWhere_162 : decode prog_3_method_12_code 162 = .ok (.getfield 111, 3) := by decide +kernel
theorem d_X1_cellsWhere_165 : decode prog_3_method_12_code 165 = .ok (.iload_n 3, 1) := by decide +kernel
theorem d_X1_cellsWhere_166 : decode prog_3_method_12_code 166 = .ok (.iaload, 1) := by decide +kernel
theorem d_X1_cellsWhere_167 : decode prog_3_method_12_code 167 = .ok (.invokevirtual 114, 3) := by decide +kernel
theorem d_X1_cellsWhere_170 : decode prog_3_method_12_code 170 = .ok (.iastore, 1) := by decide +kernel
theorem d_X1_cellsWhere_171 : decode prog_3_method_12_code 171 = .ok (.iinc 2 1, 3) := by decide +kernel
theorem d_X1_cellsWhere_174 : decode prog_3_method_12_code 174 = .ok (.iinc 3 1, 3) := by decide +kernel
theorem d_X1_cellsWhere_177 : decode prog_3_method_12_code 177 = .ok (.goto (-155), 3) := by decide +kernel
theorem d_X1_cellsWhere_180 : decode prog_3_method_12_code 180 = .ok (.aload_n 0, 1) := by decide +kernel
theorem d_X1_cellsWhere_181 : decode prog_3_method_12_code 181 = .ok (.getfield 35, 3) := by decide +kernel
theorem d_X1_cellsWhere_184 : decode prog_3_method_12_code 184 = .ok (.iconst 0, 1) := by decide +kernel
theorem d_X1_cellsWhere_185 : decode prog_3_method_12_code 185 = .ok (.iaload, 1) := by decide +kernel
theorem d_X1_cellsWhere_186 : decode prog_3_method_12_code 186 = .ok (.ireturn, 1) := by decide +kernel
def k_X1_cellsWhere_22 (kap lam : Nat → Nat) (go22 : Nat → Int32 → Int32 → Int32 → fm_M → Option (Int32 × fm_M)) (go109 : Nat → Int32 → Int32 → Int32 → Int32 → fm_M → Option (Int32 × fm_M)) (r0 : Nat) (a1 : Int32) (a2 : Int32) (a3 : Int32)  (S : fm_M) : Option (Int32 × fm_M) :=
  fm_gr kap 1 r0 1 S fun q24 =>
  fm_gr kap 10 q24 4 S fun q27 =>
  fm_ld kap lam 13 q27 a1 S fun x31 =>
  if x31 ≤ a3 then (
   fm_gr kap 1 r0 9 S fun q181 =>
   fm_ld kap lam 13 q181 0 S fun x185 =>
   some (x185, S)
  ) else (
   fm_gr kap 1 r0 1 S fun q36 =>
   fm_gr kap 10 q36 6 S fun q39 =>
   fm_ld kap lam 13 q39 a3 S fun x43 =>
   if x43 = 33 then (
    if a2 ≤ 0 then (
     if x43 = 38 then (
      if a2 ≤ 1 then (
       go109 r0 a1 a2 a3 x43 S
      ) else (
       fm_let (a2 + (-1) : Int32) fun x86 =>
       fm_gr kap 1 r0 9 S fun q90 =>
       fm_ld kap lam 13 q90 (x86 - 1) S fun x97 =>
       fm_gr kap 1 r0 9 S fun q99 =>
       fm_ld kap lam 13 q99 x86 S fun x103 =>
       fm_st kap lam q90 (x86 - 1) (x97 &&& x103) S fun S105 =>
       fm_let (a3 + 1 : Int32) fun x174 =>
       go22 r0 a1 x86 x174 S105
      )
     ) else (
      go109 r0 a1 a2 a3 x43 S
     )
    ) else (
     fm_gr kap 1 r0 9 S fun q58 =>
     fm_ld kap lam 13 q58 (a2 - 1) S fun x65 =>
     fm_st kap lam q58 (a2 - 1) (x65 ^^^ 4095) S fun S70 =>
     fm_let (a3 + 1 : Int32) fun x174 =>
     go22 r0 a1 a2 x174 S70
    )
   ) else (
    if x43 = 38 then (
     if a2 ≤ 1 then (
      go109 r0 a1 a2 a3 x43 S
     ) else (
      fm_let (a2 + (-1) : Int32) fun x86 =>
      fm_gr kap 1 r0 9 S fun q90 =>
      fm_ld kap lam 13 q90 (x86 - 1) S fun x97 =>
      fm_gr kap 1 r0 9 S fun q99 =>
      fm_ld kap lam 13 q99 x86 S fun x103 =>
      fm_st kap lam q90 (x86 - 1) (x97 &&& x103) S fun S105 =>
      fm_let (a3 + 1 : Int32) fun x174 =>
      go22 r0 a1 x86 x174 S105
     )
    ) else (
     go109 r0 a1 a2 a3 x43 S
    )
   )
  )
def k_X1_cellsWhere_109 (kap lam : Nat → Nat) (go22 : Nat → Int32 → Int32 → Int32 → fm_M → Option (Int32 × fm_M)) (go109 : Nat → Int32 → Int32 → Int32 → Int32 → fm_M → Option (Int32 × fm_M)) (r0 : Nat) (a1 : Int32) (a2 : Int32) (a3 : Int32) (a4 : Int32)  (S : fm_M) : Option (Int32 × fm_M) :=
  if a4 = 124 then (
   if a2 ≤ 1 then (
    if 16 ≤ a2 then (
     fm_let (a3 + 1 : Int32) fun x174 =>
     go22 r0 a1 a2 x174 S
    ) else (
     fm_gr kap 1 r0 9 S fun q151 =>
     fm_gr kap 1 r0 1 S fun q159 =>
     fm_gr kap 10 q159 7 S fun q162 =>
     fm_ld kap lam 13 q162 a3 S fun x166 =>
     fm_ck (kap r0 == 1) <|
     fm_b1 (m_X1_cellsOfTest kap lam r0 a4 x166 S) fun x167 =>
     fm_st kap lam q151 a2 x167 S fun S170 =>
     fm_let (a2 + 1 : Int32) fun x171 =>
     fm_let (a3 + 1 : Int32) fun x174 =>
     go22 r0 a1 x171 x174 S170
    )
   ) else (
    fm_let (a2 + (-1) : Int32) fun x121 =>
    fm_gr kap 1 r0 9 S fun q125 =>
    fm_ld kap lam 13 q125 (x121 - 1) S fun x132 =>
    fm_gr kap 1 r0 9 S fun q134 =>
    fm_ld kap lam 13 q134 x121 S fun x138 =>
    fm_st kap lam q125 (x121 - 1) (x132 ||| x138) S fun S140 =>
    fm_let (a3 + 1 : Int32) fun x174 =>
    go22 r0 a1 x121 x174 S140
   )
  ) else (
   if 16 ≤ a2 then (
    fm_let (a3 + 1 : Int32) fun x174 =>
    go22 r0 a1 a2 x174 S
   ) else (
    fm_gr kap 1 r0 9 S fun q151 =>
    fm_gr kap 1 r0 1 S fun q159 =>
    fm_gr kap 10 q159 7 S fun q162 =>
    fm_ld kap lam 13 q162 a3 S fun x166 =>
    fm_ck (kap r0 == 1) <|
    fm_b1 (m_X1_cellsOfTest kap lam r0 a4 x166 S) fun x167 =>
    fm_st kap lam q151 a2 x167 S fun S170 =>
    fm_let (a2 + 1 : Int32) fun x171 =>
    fm_let (a3 + 1 : Int32) fun x174 =>
    go22 r0 a1 x171 x174 S170
   )
  )
def bs_X1_cellsWhere (kap lam : Nat → Nat) : Nat → (Nat → Int32 → Int32 → Int32 → fm_M → Option (Int32 × fm_M)) × (Nat → Int32 → Int32 → Int32 → Int32 → fm_M → Option (Int32 × fm_M))
  | 0 => ((fun _ _ _ _ _ => none), (fun _ _ _ _ _ _ => none))
  | n + 1 => (k_X1_cellsWhere_22 kap lam (bs_X1_cellsWhere kap lam n).1 (bs_X1_cellsWhere kap lam n).2, k_X1_cellsWhere_109 kap lam (bs_X1_cellsWhere kap lam n).1 (bs_X1_cellsWhere kap lam n).2)
def b_X1_cellsWhere_22 (kap lam : Nat → Nat) (n : Nat) : Nat → Int32 → Int32 → Int32 → fm_M → Option (Int32 × fm_M) := (bs_X1_cellsWhere kap lam n).1
def b_X1_cellsWhere_109 (kap lam : Nat → Nat) (n : Nat) : Nat → Int32 → Int32 → Int32 → Int32 → fm_M → Option (Int32 × fm_M) := (bs_X1_cellsWhere kap lam n).2
def m_X1_cellsWhere (kap lam : Nat → Nat) (r0 : Nat) (a1 : Int32) (S : fm_M) : Option (Int32 × fm_M) :=
  fm_let (0 : Int32) fun x1 =>
  if a1 = 0 then (
   fm_let (0 : Int32) fun x21 =>
   b_X1_cellsWhere_22 kap lam fm_LF r0 a1 x1 x21 S
  ) else (
   fm_gr kap 1 r0 1 S fun q11 =>
   fm_gr kap 10 q11 4 S fun q14 =>
   fm_ld kap lam 13 q14 (a1 - 1) S fun x20 =>
   b_X1_cellsWhere_22 kap lam fm_LF r0 a1 x1 x20 S
  )
set_option maxHeartbeats 4000000 in
set_option maxRecDepth 100000 in
theorem c_X1_cellsWhere {l : Launch} {D : va_G} {ids kap lam : Nat → Nat} {RL : List Nat} {ad sk sv : Nat → Nat} {S : fm_M} {r0 : Nat} {a1 : Int32} {r : Int32} {u : fm_M} (hE : fm_E kap RL ad) (hf : m_X1_cellsWhere kap lam r0 a1 S = some (r, u)) (sz : Nat) : fm_MI l y_X1_cellsWhere prog_3_method_12_code 5 (Option.some Jvm.ClassFile.FieldType.int) 2 D ids kap lam RL ad sk sv S [.ref (ad r0), .int a1] sz r u := by
  refine fm_open rfl hE (Nat.le_of_ble_eq_true rfl) (fun p e s m args below meth c ls Z hr hlk G F N hl hsz => ?_)
  subst hsz
  obtain ⟨hx, hb, hml, hown, hts⟩ := id Z
  have hl : lv_has ls 5 [(0, .ref (ad r0)), (1, .int a1)] := hl
  generalize hQ : MQ below _ args s 0 0 (fm_A RL ad s.heap.size) = Qf
  have hL : ∀ n : Nat, (∀ (r0 : Nat) (a1 : Int32) (a2 : Int32) (a3 : Int32)  (S : fm_M) (H : Heap) (locs : List Loc) (ls : Array Slot), fm_F D ids kap lam RL ad S (fm_A RL ad s.heap.size) s.heap H locs → lv_has ls 5 [(0, .ref (ad r0)), (1, .int a1), (2, .int a2), (3, .int a3)] → b_X1_cellsWhere_22 kap lam n r0 a1 a2 a3 S = some (r, u) → W p l e (fm_rm 2) s m args below meth c H locs 0 0 Qf (F0 m 22 ls [])) ∧ (∀ (r0 : Nat) (a1 : Int32) (a2 : Int32) (a3 : Int32) (a4 : Int32)  (S : fm_M) (H : Heap) (locs : List Loc) (ls : Array Slot), fm_F D ids kap lam RL ad S (fm_A RL ad s.heap.size) s.heap H locs → lv_has ls 5 [(0, .ref (ad r0)), (1, .int a1), (2, .int a2), (3, .int a3), (4, .int a4)] → b_X1_cellsWhere_109 kap lam n r0 a1 a2 a3 a4 S = some (r, u) → W p l e (fm_rm 2) s m args below meth c H locs 0 0 Qf (F0 m 109 ls [])) := by
    intro n
    induction n with
    | zero => exact ⟨fun _ _ _ _ _ _ _ _ _ _ hf => absurd hf (by intro h; cases h), fun _ _ _ _ _ _ _ _ _ _ _ hf => absurd hf (by intro h; cases h)⟩
    | succ n ih =>
      refine ⟨?_, ?_⟩
      · intro r0 a1 a2 a3 S H locs ls F hl hf
        have hf : k_X1_cellsWhere_22 kap lam (b_X1_cellsWhere_22 kap lam n) (b_X1_cellsWhere_109 kap lam n) r0 a1 a2 a3 S = some (r, u) := hf
        unfold k_X1_cellsWhere_22 at hf
        refine lv_iload_n hx hb d_X1_cellsWhere_22 rfl (lv_at hl 3 rfl) ?_
        refine lv_aload_n hx hb d_X1_cellsWhere_23 rfl (lv_at hl 0 rfl) ?_
        refine fm_rgr Z G F hf fr_X1_42 d_X1_cellsWhere_24 (fun q24 _ hf => ?_)
        refine fm_rgr Z G F hf fr_X1_105 d_X1_cellsWhere_27 (fun q27 _ hf => ?_)
        refine lv_iload_n hx hb d_X1_cellsWhere_30 rfl (lv_at hl 1 rfl) ?_
        refine fm_rld Z G F hf d_X1_cellsWhere_31 (fun x31 _ hf => ?_)
        refine lv_icmp_ge (tgt := 180) hx hb d_X1_cellsWhere_32 (by decide) (fun c32 => ?_) (fun c32 => ?_)
        · have hf := fm_ip c32 hf
          refine lv_aload_n hx hb d_X1_cellsWhere_180 rfl (lv_at hl 0 rfl) ?_
          refine fm_rgr Z G F hf fr_X1_35 d_X1_cellsWhere_181 (fun q181 _ hf => ?_)
          refine lv_iconst (v := 0) hx hb d_X1_cellsWhere_184 (by decide) ?_
          refine fm_rld Z G F hf d_X1_cellsWhere_185 (fun x185 _ hf => ?_)
          rw [← hQ]; exact fm_reti Z hr hlk F d_X1_cellsWhere_186 (Prod.mk.inj (Option.some.inj hf)).1 (Prod.mk.inj (Option.some.inj hf)).2
        · have hf := fm_ig c32 hf
          refine lv_aload_n hx hb d_X1_cellsWhere_35 rfl (lv_at hl 0 rfl) ?_
          refine fm_rgr Z G F hf fr_X1_42 d_X1_cellsWhere_36 (fun q36 _ hf => ?_)
          refine fm_rgr Z G F hf fr_X1_108 d_X1_cellsWhere_39 (fun q39 _ hf => ?_)
          refine lv_iload_n hx hb d_X1_cellsWhere_42 rfl (lv_at hl 3 rfl) ?_
          refine fm_rld Z G F hf d_X1_cellsWhere_43 (fun x43 _ hf => ?_)
          refine lv_istore (lv' := [(4, .int x43), (0, .ref (ad r0)), (1, .int a1), (2, .int a2), (3, .int a3)]) hx hb d_X1_cellsWhere_44 hl (by decide) rfl (fun ls hl => ?_)
          refine lv_iload hx hb d_X1_cellsWhere_46 (lv_at hl 0 rfl) ?_
          refine lv_bipush (v := 33) hx hb d_X1_cellsWhere_48 (by decide) ?_
          refine lv_icmp_ne (tgt := 74) hx hb d_X1_cellsWhere_50 (by decide) (fun c50 => ?_) (fun c50 => ?_)
          · have hf := fm_ig c50 hf
            refine lv_iload hx hb d_X1_cellsWhere_74 (lv_at hl 0 rfl) ?_
            refine lv_bipush (v := 38) hx hb d_X1_cellsWhere_76 (by decide) ?_
            refine lv_icmp_ne (tgt := 109) hx hb d_X1_cellsWhere_78 (by decide) (fun c78 => ?_) (fun c78 => ?_)
            · have hf := fm_ig c78 hf
              exact (ih).2 r0 a1 a2 a3 x43 S _ _ _ F (lv_sub hl [1, 2, 3, 4, 0] rfl) hf
            · have hf := fm_ip c78 hf
              refine lv_iload_n hx hb d_X1_cellsWhere_81 rfl (lv_at hl 3 rfl) ?_
              refine lv_iconst (v := 1) hx hb d_X1_cellsWhere_82 (by decide) ?_
              refine lv_icmp_le (tgt := 109) hx hb d_X1_cellsWhere_83 (by decide) (fun c83 => ?_) (fun c83 => ?_)
              · have hf := fm_ip c83 hf
                exact (ih).2 r0 a1 a2 a3 x43 S _ _ _ F (lv_sub hl [1, 2, 3, 4, 0] rfl) hf
              · have hf := fm_ig c83 hf
                obtain ⟨x86, ex86⟩ : ∃ y : Int32, y = a2 + (-1) := ⟨_, rfl⟩
                have hf := fm_let_at ex86 hf
                refine lv_iinc (v := x86) (lv' := [(2, .int x86), (4, .int x43), (0, .ref (ad r0)), (1, .int a1), (3, .int a3)]) hx hb d_X1_cellsWhere_86 hl (k := 3) rfl (by rw [ex86]; rfl) (by decide) rfl (fun ls hl => ?_)
                refine lv_aload_n hx hb d_X1_cellsWhere_89 rfl (lv_at hl 2 rfl) ?_
                refine fm_rgr Z G F hf fr_X1_35 d_X1_cellsWhere_90 (fun q90 _ hf => ?_)
                refine lv_iload_n hx hb d_X1_cellsWhere_93 rfl (lv_at hl 0 rfl) ?_
                refine lv_iconst (v := 1) hx hb d_X1_cellsWhere_94 (by decide) ?_
                refine lv_isub hx hb d_X1_cellsWhere_95 ?_
                refine lv_dup2_11 hx hb d_X1_cellsWhere_96 rfl rfl ?_
                refine fm_rld Z G F hf d_X1_cellsWhere_97 (fun x97 _ hf => ?_)
                refine lv_aload_n hx hb d_X1_cellsWhere_98 rfl (lv_at hl 2 rfl) ?_
                refine fm_rgr Z G F hf fr_X1_35 d_X1_cellsWhere_99 (fun q99 _ hf => ?_)
                refine lv_iload_n hx hb d_X1_cellsWhere_102 rfl (lv_at hl 0 rfl) ?_
                refine fm_rld Z G F hf d_X1_cellsWhere_103 (fun x103 _ hf => ?_)
                refine lv_iand hx hb d_X1_cellsWhere_104 ?_
                refine fm_rst Z G F hf d_X1_cellsWhere_105 (fun S105 H locs _ F hf => ?_)
                refine lv_goto (tgt := 174) hx hb d_X1_cellsWhere_106 (by decide) ?_
                obtain ⟨x174, ex174⟩ : ∃ y : Int32, y = a3 + 1 := ⟨_, rfl⟩
                have hf := fm_let_at ex174 hf
                refine lv_iinc (v := x174) (lv' := [(3, .int x174), (2, .int x86), (4, .int x43), (0, .ref (ad r0)), (1, .int a1)]) hx hb d_X1_cellsWhere_174 hl (k := 4) rfl (by rw [ex174]; rfl) (by decide) rfl (fun ls hl => ?_)
                refine lv_goto (tgt := 22) hx hb d_X1_cellsWhere_177 (by decide) ?_
                exact (ih).1 r0 a1 x86 x174 S105 _ _ _ F (lv_sub hl [3, 4, 1, 0] rfl) hf
          · have hf := fm_ip c50 hf
            refine lv_iload_n hx hb d_X1_cellsWhere_53 rfl (lv_at hl 3 rfl) ?_
            refine lv_if_le (tgt := 74) hx hb d_X1_cellsWhere_54 (by decide) (fun c54 => ?_) (fun c54 => ?_)
            · have hf := fm_ip c54 hf
              refine lv_iload hx hb d_X1_cellsWhere_74 (lv_at hl 0 rfl) ?_
              refine lv_bipush (v := 38) hx hb d_X1_cellsWhere_76 (by decide) ?_
              refine lv_icmp_ne (tgt := 109) hx hb d_X1_cellsWhere_78 (by decide) (fun c78 => ?_) (fun c78 => ?_)
              · have hf := fm_ig c78 hf
                exact (ih).2 r0 a1 a2 a3 x43 S _ _ _ F (lv_sub hl [1, 2, 3, 4, 0] rfl) hf
              · have hf := fm_ip c78 hf
                refine lv_iload_n hx hb d_X1_cellsWhere_81 rfl (lv_at hl 3 rfl) ?_
                refine lv_iconst (v := 1) hx hb d_X1_cellsWhere_82 (by decide) ?_
                refine lv_icmp_le (tgt := 109) hx hb d_X1_cellsWhere_83 (by decide) (fun c83 => ?_) (fun c83 => ?_)
                · have hf := fm_ip c83 hf
                  exact (ih).2 r0 a1 a2 a3 x43 S _ _ _ F (lv_sub hl [1, 2, 3, 4, 0] rfl) hf
                · have hf := fm_ig c83 hf
                  obtain ⟨x86, ex86⟩ : ∃ y : Int32, y = a2 + (-1) := ⟨_, rfl⟩
                  have hf := fm_let_at ex86 hf
                  refine lv_iinc (v := x86) (lv' := [(2, .int x86), (4, .int x43), (0, .ref (ad r0)), (1, .int a1), (3, .int a3)]) hx hb d_X1_cellsWhere_86 hl (k := 3) rfl (by rw [ex86]; rfl) (by decide) rfl (fun ls hl => ?_)
                  refine lv_aload_n hx hb d_X1_cellsWhere_89 rfl (lv_at hl 2 rfl) ?_
                  refine fm_rgr Z G F hf fr_X1_35 d_X1_cellsWhere_90 (fun q90 _ hf => ?_)
                  refine lv_iload_n hx hb d_X1_cellsWhere_93 rfl (lv_at hl 0 rfl) ?_
                  refine lv_iconst (v := 1) hx hb d_X1_cellsWhere_94 (by decide) ?_
                  refine lv_isub hx hb d_X1_cellsWhere_95 ?_
                  refine lv_dup2_11 hx hb d_X1_cellsWhere_96 rfl rfl ?_
                  refine fm_rld Z G F hf d_X1_cellsWhere_97 (fun x97 _ hf => ?_)
                  refine lv_aload_n hx hb d_X1_cellsWhere_98 rfl (lv_at hl 2 rfl) ?_
                  refine fm_rgr Z G F hf fr_X1_35 d_X1_cellsWhere_99 (fun q99 _ hf => ?_)
                  refine lv_iload_n hx hb d_X1_cellsWhere_102 rfl (lv_at hl 0 rfl) ?_
                  refine fm_rld Z G F hf d_X1_cellsWhere_103 (fun x103 _ hf => ?_)
                  refine lv_iand hx hb d_X1_cellsWhere_104 ?_
                  refine fm_rst Z G F hf d_X1_cellsWhere_105 (fun S105 H locs _ F hf => ?_)
                  refine lv_goto (tgt := 174) hx hb d_X1_cellsWhere_106 (by decide) ?_
                  obtain ⟨x174, ex174⟩ : ∃ y : Int32, y = a3 + 1 := ⟨_, rfl⟩
                  have hf := fm_let_at ex174 hf
                  refine lv_iinc (v := x174) (lv' := [(3, .int x174), (2, .int x86), (4, .int x43), (0, .ref (ad r0)), (1, .int a1)]) hx hb d_X1_cellsWhere_174 hl (k := 4) rfl (by rw [ex174]; rfl) (by decide) rfl (fun ls hl => ?_)
                  refine lv_goto (tgt := 22) hx hb d_X1_cellsWhere_177 (by decide) ?_
                  exact (ih).1 r0 a1 x86 x174 S105 _ _ _ F (lv_sub hl [3, 4, 1, 0] rfl) hf
            · have hf := fm_ig c54 hf
              refine lv_aload_n hx hb d_X1_cellsWhere_57 rfl (lv_at hl 1 rfl) ?_
              refine fm_rgr Z G F hf fr_X1_35 d_X1_cellsWhere_58 (fun q58 _ hf => ?_)
              refine lv_iload_n hx hb d_X1_cellsWhere_61 rfl (lv_at hl 3 rfl) ?_
              refine lv_iconst (v := 1) hx hb d_X1_cellsWhere_62 (by decide) ?_
              refine lv_isub hx hb d_X1_cellsWhere_63 ?_
              refine lv_dup2_11 hx hb d_X1_cellsWhere_64 rfl rfl ?_
              refine fm_rld Z G F hf d_X1_cellsWhere_65 (fun x65 _ hf => ?_)
              refine lv_sipush (v := 4095) hx hb d_X1_cellsWhere_66 (by decide) ?_
              refine lv_ixor hx hb d_X1_cellsWhere_69 ?_
              refine fm_rst Z G F hf d_X1_cellsWhere_70 (fun S70 H locs _ F hf => ?_)
              refine lv_goto (tgt := 174) hx hb d_X1_cellsWhere_71 (by decide) ?_
              obtain ⟨x174, ex174⟩ : ∃ y : Int32, y = a3 + 1 := ⟨_, rfl⟩
              have hf := fm_let_at ex174 hf
              refine lv_iinc (v := x174) (lv' := [(3, .int x174), (4, .int x43), (0, .ref (ad r0)), (1, .int a1), (2, .int a2)]) hx hb d_X1_cellsWhere_174 hl (k := 4) rfl (by rw [ex174]; rfl) (by decide) rfl (fun ls hl => ?_)
              refine lv_goto (tgt := 22) hx hb d_X1_cellsWhere_177 (by decide) ?_
              exact (ih).1 r0 a1 a2 x174 S70 _ _ _ F (lv_sub hl [2, 3, 4, 0] rfl) hf
      · intro r0 a1 a2 a3 a4 S H locs ls F hl hf
        have hf : k_X1_cellsWhere_109 kap lam (b_X1_cellsWhere_22 kap lam n) (b_X1_cellsWhere_109 kap lam n) r0 a1 a2 a3 a4 S = some (r, u) := hf
        unfold k_X1_cellsWhere_109 at hf
        refine lv_iload hx hb d_X1_cellsWhere_109 (lv_at hl 4 rfl) ?_
        refine lv_bipush (v := 124) hx hb d_X1_cellsWhere_111 (by decide) ?_
        refine lv_icmp_ne (tgt := 144) hx hb d_X1_cellsWhere_113 (by decide) (fun c113 => ?_) (fun c113 => ?_)
        · have hf := fm_ig c113 hf
          refine lv_iload_n hx hb d_X1_cellsWhere_144 rfl (lv_at hl 2 rfl) ?_
          refine lv_bipush (v := 16) hx hb d_X1_cellsWhere_145 (by decide) ?_
          refine lv_icmp_ge (tgt := 174) hx hb d_X1_cellsWhere_147 (by decide) (fun c147 => ?_) (fun c147 => ?_)
          · have hf := fm_ip c147 hf
            obtain ⟨x174, ex174⟩ : ∃ y : Int32, y = a3 + 1 := ⟨_, rfl⟩
            have hf := fm_let_at ex174 hf
            refine lv_iinc (v := x174) (lv' := [(3, .int x174), (0, .ref (ad r0)), (1, .int a1), (2, .int a2), (4, .int a4)]) hx hb d_X1_cellsWhere_174 hl (k := 3) rfl (by rw [ex174]; rfl) (by decide) rfl (fun ls hl => ?_)
            refine lv_goto (tgt := 22) hx hb d_X1_cellsWhere_177 (by decide) ?_
            exact (ih).1 r0 a1 a2 x174 S _ _ _ F (lv_sub hl [1, 2, 3, 0] rfl) hf
          · have hf := fm_ig c147 hf
            refine lv_aload_n hx hb d_X1_cellsWhere_150 rfl (lv_at hl 0 rfl) ?_
            refine fm_rgr Z G F hf fr_X1_35 d_X1_cellsWhere_151 (fun q151 _ hf => ?_)
            refine lv_iload_n hx hb d_X1_cellsWhere_154 rfl (lv_at hl 2 rfl) ?_
            refine lv_aload_n hx hb d_X1_cellsWhere_155 rfl (lv_at hl 0 rfl) ?_
            refine lv_iload hx hb d_X1_cellsWhere_156 (lv_at hl 4 rfl) ?_
            refine lv_aload_n hx hb d_X1_cellsWhere_158 rfl (lv_at hl 0 rfl) ?_
            refine fm_rgr Z G F hf fr_X1_42 d_X1_cellsWhere_159 (fun q159 _ hf => ?_)
            refine fm_rgr Z G F hf fr_X1_111 d_X1_cellsWhere_162 (fun q162 _ hf => ?_)
            refine lv_iload_n hx hb d_X1_cellsWhere_165 rfl (lv_at hl 3 rfl) ?_
            refine fm_rld Z G F hf d_X1_cellsWhere_166 (fun x166 _ hf => ?_)
            obtain ⟨hk167, hf⟩ := fm_some hf
            refine fm_rcr G F hf (fun r ho => fm_runV (k := 2) Z G F N (As := [.int a4, .int x166]) (rest := [.int a2, .ref (ad q151)]) (c_X1_cellsOfTest hE ho _) (by rw [eq_of_beq hk167]; decide) (by rw [eq_of_beq hk167]; rfl) kw_587 kw_589 kp_14 kw_18 kw_590 yd_X1_cellsOfTest rfl (by decide) (by decide) hl.1 (Nat.le_of_ble_eq_true rfl) d_X1_cellsWhere_167 (Nat.le_refl 0) (Nat.le_refl 0)) (fun x167 H locs _ F hf => ?_)
            refine fm_rst Z G F hf d_X1_cellsWhere_170 (fun S170 H locs _ F hf => ?_)
            obtain ⟨x171, ex171⟩ : ∃ y : Int32, y = a2 + 1 := ⟨_, rfl⟩
            have hf := fm_let_at ex171 hf
            refine lv_iinc (v := x171) (lv' := [(2, .int x171), (0, .ref (ad r0)), (1, .int a1), (3, .int a3), (4, .int a4)]) hx hb d_X1_cellsWhere_171 hl (k := 2) rfl (by rw [ex171]; rfl) (by decide) rfl (fun ls hl => ?_)
            obtain ⟨x174, ex174⟩ : ∃ y : Int32, y = a3 + 1 := ⟨_, rfl⟩
            have hf := fm_let_at ex174 hf
            refine lv_iinc (v := x174) (lv' := [(3, .int x174), (2, .int x171), (0, .ref (ad r0)), (1, .int a1), (4, .int a4)]) hx hb d_X1_cellsWhere_174 hl (k := 3) rfl (by rw [ex174]; rfl) (by decide) rfl (fun ls hl => ?_)
            refine lv_goto (tgt := 22) hx hb d_X1_cellsWhere_177 (by decide) ?_
            exact (ih).1 r0 a1 x171 x174 S170 _ _ _ F (lv_sub hl [2, 3, 1, 0] rfl) hf
        · have hf := fm_ip c113 hf
          refine lv_iload_n hx hb d_X1_cellsWhere_116 rfl (lv_at hl 2 rfl) ?_
          refine lv_iconst (v := 1) hx hb d_X1_cellsWhere_117 (by decide) ?_
          refine lv_icmp_le (tgt := 144) hx hb d_X1_cellsWhere_118 (by decide) (fun c118 => ?_) (fun c118 => ?_)
          · have hf := fm_ip c118 hf
            refine lv_iload_n hx hb d_X1_cellsWhere_144 rfl (lv_at hl 2 rfl) ?_
            refine lv_bipush (v := 16) hx hb d_X1_cellsWhere_145 (by decide) ?_
            refine lv_icmp_ge (tgt := 174) hx hb d_X1_cellsWhere_147 (by decide) (fun c147 => ?_) (fun c147 => ?_)
            · have hf := fm_ip c147 hf
              obtain ⟨x174, ex174⟩ : ∃ y : Int32, y = a3 + 1 := ⟨_, rfl⟩
              have hf := fm_let_at ex174 hf
              refine lv_iinc (v := x174) (lv' := [(3, .int x174), (0, .ref (ad r0)), (1, .int a1), (2, .int a2), (4, .int a4)]) hx hb d_X1_cellsWhere_174 hl (k := 3) rfl (by rw [ex174]; rfl) (by decide) rfl (fun ls hl => ?_)
              refine lv_goto (tgt := 22) hx hb d_X1_cellsWhere_177 (by decide) ?_
              exact (ih).1 r0 a1 a2 x174 S _ _ _ F (lv_sub hl [1, 2, 3, 0] rfl) hf
            · have hf := fm_ig c147 hf
              refine lv_aload_n hx hb d_X1_cellsWhere_150 rfl (lv_at hl 0 rfl) ?_
              refine fm_rgr Z G F hf fr_X1_35 d_X1_cellsWhere_151 (fun q151 _ hf => ?_)
              refine lv_iload_n hx hb d_X1_cellsWhere_154 rfl (lv_at hl 2 rfl) ?_
              refine lv_aload_n hx hb d_X1_cellsWhere_155 rfl (lv_at hl 0 rfl) ?_
              refine lv_iload hx hb d_X1_cellsWhere_156 (lv_at hl 4 rfl) ?_
              refine lv_aload_n hx hb d_X1_cellsWhere_158 rfl (lv_at hl 0 rfl) ?_
              refine fm_rgr Z G F hf fr_X1_42 d_X1_cellsWhere_159 (fun q159 _ hf => ?_)
              refine fm_rgr Z G F hf fr_X1_111 d_X1_cellsWhere_162 (fun q162 _ hf => ?_)
              refine lv_iload_n hx hb d_X1_cellsWhere_165 rfl (lv_at hl 3 rfl) ?_
              refine fm_rld Z G F hf d_X1_cellsWhere_166 (fun x166 _ hf => ?_)
              obtain ⟨hk167, hf⟩ := fm_some hf
              refine fm_rcr G F hf (fun r ho => fm_runV (k := 2) Z G F N (As := [.int a4, .int x166]) (rest := [.int a2, .ref (ad q151)]) (c_X1_cellsOfTest hE ho _) (by rw [eq_of_beq hk167]; decide) (by rw [eq_of_beq hk167]; rfl) kw_587 kw_589 kp_14 kw_18 kw_590 yd_X1_cellsOfTest rfl (by decide) (by decide) hl.1 (Nat.le_of_ble_eq_true rfl) d_X1_cellsWhere_167 (Nat.le_refl 0) (Nat.le_refl 0)) (fun x167 H locs _ F hf => ?_)
              refine fm_rst Z G F hf d_X1_cellsWhere_170 (fun S170 H locs _ F hf => ?_)
              obtain ⟨x171, ex171⟩ : ∃ y : Int32, y = a2 + 1 := ⟨_, rfl⟩
              have hf := fm_let_at ex171 hf
              refine lv_iinc (v := x171) (lv' := [(2, .int x171), (0, .ref (ad r0)), (1, .int a1), (3, .int a3), (4, .int a4)]) hx hb d_X1_cellsWhere_171 hl (k := 2) rfl (by rw [ex171]; rfl) (by decide) rfl (fun ls hl => ?_)
              obtain ⟨x174, ex174⟩ : ∃ y : Int32, y = a3 + 1 := ⟨_, rfl⟩
              have hf := fm_let_at ex174 hf
              refine lv_iinc (v := x174) (lv' := [(3, .int x174), (2, .int x171), (0, .ref (ad r0)), (1, .int a1), (4, .int a4)]) hx hb d_X1_cellsWhere_174 hl (k := 3) rfl (by rw [ex174]; rfl) (by decide) rfl (fun ls hl => ?_)
              refine lv_goto (tgt := 22) hx hb d_X1_cellsWhere_177 (by decide) ?_
              exact (ih).1 r0 a1 x171 x174 S170 _ _ _ F (lv_sub hl [2, 3, 1, 0] rfl) hf
          · have hf := fm_ig c118 hf
            obtain ⟨x121, ex121⟩ : ∃ y : Int32, y = a2 + (-1) := ⟨_, rfl⟩
            have hf := fm_let_at ex121 hf
            refine lv_iinc (v := x121) (lv' := [(2, .int x121), (0, .ref (ad r0)), (1, .int a1), (3, .int a3), (4, .int a4)]) hx hb d_X1_cellsWhere_121 hl (k := 2) rfl (by rw [ex121]; rfl) (by decide) rfl (fun ls hl => ?_)
            refine lv_aload_n hx hb d_X1_cellsWhere_124 rfl (lv_at hl 1 rfl) ?_
            refine fm_rgr Z G F hf fr_X1_35 d_X1_cellsWhere_125 (fun q125 _ hf => ?_)
            refine lv_iload_n hx hb d_X1_cellsWhere_128 rfl (lv_at hl 0 rfl) ?_
            refine lv_iconst (v := 1) hx hb d_X1_cellsWhere_129 (by decide) ?_
            refine lv_isub hx hb d_X1_cellsWhere_130 ?_
            refine lv_dup2_11 hx hb d_X1_cellsWhere_131 rfl rfl ?_
            refine fm_rld Z G F hf d_X1_cellsWhere_132 (fun x132 _ hf => ?_)
            refine lv_aload_n hx hb d_X1_cellsWhere_133 rfl (lv_at hl 1 rfl) ?_
            refine fm_rgr Z G F hf fr_X1_35 d_X1_cellsWhere_134 (fun q134 _ hf => ?_)
            refine lv_iload_n hx hb d_X1_cellsWhere_137 rfl (lv_at hl 0 rfl) ?_
            refine fm_rld Z G F hf d_X1_cellsWhere_138 (fun x138 _ hf => ?_)
            refine lv_ior hx hb d_X1_cellsWhere_139 ?_
            refine fm_rst Z G F hf d_X1_cellsWhere_140 (fun S140 H locs _ F hf => ?_)
            refine lv_goto (tgt := 174) hx hb d_X1_cellsWhere_141 (by decide) ?_
            obtain ⟨x174, ex174⟩ : ∃ y : Int32, y = a3 + 1 := ⟨_, rfl⟩
            have hf := fm_let_at ex174 hf
            refine lv_iinc (v := x174) (lv' := [(3, .int x174), (2, .int x121), (0, .ref (ad r0)), (1, .int a1), (4, .int a4)]) hx hb d_X1_cellsWhere_174 hl (k := 3) rfl (by rw [ex174]; rfl) (by decide) rfl (fun ls hl => ?_)
            refine lv_goto (tgt := 22) hx hb d_X1_cellsWhere_177 (by decide) ?_
            exact (ih).1 r0 a1 x121 x174 S140 _ _ _ F (lv_sub hl [2, 3, 1, 0] rfl) hf
  unfold m_X1_cellsWhere at hf
  refine lv_iconst (v := 0) hx hb d_X1_cellsWhere_0 (by decide) ?_
  refine lv_topi (fun x1 ex1 => ?_)
  have hf := fm_let_at ex1 hf
  refine lv_istore_n (lv' := [(2, .int x1), (0, .ref (ad r0)), (1, .int a1)]) hx hb d_X1_cellsWhere_1 rfl hl (by decide) rfl (fun ls hl => ?_)
  refine lv_iload_n hx hb d_X1_cellsWhere_2 rfl (lv_at hl 2 rfl) ?_
  refine lv_if_ne (tgt := 10) hx hb d_X1_cellsWhere_3 (by decide) (fun c3 => ?_) (fun c3 => ?_)
  · have hf := fm_ig c3 hf
    refine lv_aload_n hx hb d_X1_cellsWhere_10 rfl (lv_at hl 1 rfl) ?_
    refine fm_rgr Z G F hf fr_X1_42 d_X1_cellsWhere_11 (fun q11 _ hf => ?_)
    refine fm_rgr Z G F hf fr_X1_105 d_X1_cellsWhere_14 (fun q14 _ hf => ?_)
    refine lv_iload_n hx hb d_X1_cellsWhere_17 rfl (lv_at hl 2 rfl) ?_
    refine lv_iconst (v := 1) hx hb d_X1_cellsWhere_18 (by decide) ?_
    refine lv_isub hx hb d_X1_cellsWhere_19 ?_
    refine fm_rld Z G F hf d_X1_cellsWhere_20 (fun x20 _ hf => ?_)
    refine lv_istore_n (lv' := [(3, .int x20), (2, .int x1), (0, .ref (ad r0)), (1, .int a1)]) hx hb d_X1_cellsWhere_21 rfl hl (by decide) rfl (fun ls hl => ?_)
    exact (hL fm_LF).1 r0 a1 x1 x20 S _ _ _ F (lv_sub hl [2, 3, 1, 0] rfl) hf
  · have hf := fm_ip c3 hf
    refine lv_iconst (v := 0) hx hb d_X1_cellsWhere_6 (by decide) ?_
    refine lv_goto (tgt := 21) hx hb d_X1_cellsWhere_7 (by decide) ?_
    refine lv_topi (fun x21 ex21 => ?_)
    have hf := fm_let_at ex21 hf
    refine lv_istore_n (lv' := [(3, .int x21), (2, .int x1), (0, .ref (ad r0)), (1, .int a1)]) hx hb d_X1_cellsWhere_21 rfl hl (by decide) rfl (fun ls hl => ?_)
    exact (hL fm_LF).1 r0 a1 x1 x21 S _ _ _ F (lv_sub hl [2, 3, 1, 0] rfl) hf
theorem d_X1_fillBites_0 : decode prog_3_method_11_code 0 = .ok (.aload_n 0, 1) := by decide +kernel
theorem d_X1_fillBites_1 : decode prog_3_method_11_code 1 = .ok (.getfield 31, 3) := by decide +kernel
theorem d_X1_fillBites_4 : decode prog_3_method_11_code 4 = .ok (.aload_n 0, 1) := by decide +kernel
theorem d_X1_fillBites_5 : decode prog_3_method_11_code 5 = .ok (.getfield 9, 3) := by decide +kernel
theorem d_X1_fillBites_8 : decode prog_3_method_11_code 8 = .ok (.aload_n 0, 1) := by decide +kernel
theorem d_X1_fillBites_9 : decode prog_3_method_11_code 9 = .ok (.getfield 15, 3) := by decide +kernel
theorem d_X1_fillBites_12 : decode prog_3_method_11_code 12 = .ok (.isub, 1) := by decide +kernel
theorem d_X1_fillBites_13 : decode prog_3_method_11_code 13 = .ok (.invokestatic 90, 3) := by decide +kernel
theorem d_X1_fillBites_16 : decode prog_3_method_11_code 16 = .ok (.iconst 0, 1) := by decide +kernel
theorem d_X1_fillBites_17 : decode prog_3_method_11_code 17 = .ok (.istore_n 1, 1) := by decide +kernel
theorem d_X1_fillBites_18 : decode prog_3_method_11_code 18 = .ok (.iload_n 1, 1) := by decide +kernel
theorem d_X1_fillBites_19 : decode prog_3_method_11_code 19 = .ok (.aload_n 0, 1) := by decide +kernel
theorem d_X1_fillBites_20 : decode prog_3_method_11_code 20 = .ok (.getfield 42, 3) := by decide +kernel
theorem d_X1_fillBites_23 : decode prog_3_method_11_code 23 = .ok (.getfield 96, 3) := by decide +kernel
theorem d_X1_fillBites_26 : decode prog_3_method_11_code 26 = .ok (.if_icmp .ge 55, 3) := by decide +kernel
theorem d_X1_fillBites_29 : decode prog_3_method_11_code 29 = .ok (.aload_n 0, 1) := by decide +kernel
theorem d_X1_fillBites_30 : decode prog_3_method_11_code 30 = .ok (.iload_n 1, 1) := by decide +kernel
theorem d_X1_fillBites_31 : decode prog_3_method_11_code 31 = .ok (.invokevirtual 99, 3) := by decide +kernel
theorem d_X1_fillBites_34 : decode prog_3_method_11_code 34 = .ok (.istore_n 2, 1) := by decide +kernel
theorem d_X1_fillBites_35 : decode prog_3_method_11_code 35 = .ok (.iconst 0, 1) := by decide +kernel
theorem d_X1_fillBites_36 : decode prog_3_method_11_code 36 = .ok (.istore_n 3, 1) := by decide +kernel
theorem d_X1_fillBites_37 : decode prog_3_method_11_code 37 = .ok (.iload_n 3, 1) := by decide +kernel
theorem d_X1_fillBites_38 : decode prog_3_method_11_code 38 = .ok (.bipush 12, 2) := by decide +kernel
theorem d_X1_fillBites_40 : decode prog_3_method_11_code 40 = .ok (.if_icmp .ge 35, 3) := by decide +kernel
theorem d_X1_fillBites_43 : decode prog_3_method_11_code 43 = .ok (.iload_n 2, 1) := by decide +kernel
theorem d_X1_fillBites_44 : decode prog_3_method_11_code 44 = .ok (.iload_n 3, 1) := by decide +kernel
theorem d_X1_fillBites_45 : decode prog_3_method_11_code 45 = .ok (.ishr, 1) := by decide +kernel
theorem d_X1_fillBites_46 : decode prog_3_method_11_code 46 = .ok (.iconst 1, 1) := by decide +kernel
theorem d_X1_fillBites_47 : decode prog_3_method_11_code 47 = .ok (.iand, 1) := by decide +kernel
theorem d_X1_fillBites_48 : decode prog_3_method_11_code 48 = .ok (.ifCond .eq 21, 3) := by decide +kernel
theorem d_X1_fillBites_51 : decode prog_3_method_11_code 51 = .ok (.aload_n 0, 1) := by decide +kernel
theorem d_X1_fillBites_52 : decode prog_3_method_11_code 52 = .ok (.getfield 31, 3) := by decide +kernel
theorem d_X1_fillBites_55 : decode prog_3_method_11_code 55 = .ok (.iload_n 3, 1) := by decide +kernel
theorem d_X1_fillBites_56 : decode prog_3_method_11_code 56 = .ok (.dup2, 1) := by decide +kernel
theorem d_X1_fillBites_57 : decode prog_3_method_11_code 57 = .ok (.iaload, 1) := by decide +kernel
theorem d_X1_fillBites_58 : decode prog_3_method_11_code 58 = .ok (.aload_n 0, 1) := by decide +kernel
theorem d_X1_fillBites_59 : decode prog_3_method_11_code 59 = .ok (.getfield 42, 3) := by decide +kernel
theorem d_X1_fillBites_62 : decode prog_3_method_11_code 62 = .ok (.getfield 102, 3) := by decide +kernel
theorem d_X1_fillBites_65 : decode prog_3_method_11_code 65 = .ok (.iload_n 1, 1) := by decide +kernel
theorem d_X1_fillBites_66 : decode prog_3_method_11_code 66 = .ok (.iaload, 1) := by decide +kernel
theorem d_X1_fillBites_67 : decode prog_3_method_11_code 67 = .ok (.iadd, 1) := by decide +kernel
theorem d_X1_fillBites_68 : decode prog_3_method_11_code 68 = .ok (.iastore, 1) := by decide +kernel
theorem d_X1_fillBites_69 : decode prog_3_method_11_code 69 = .ok (.iinc 3 1, 3) := by decide +kernel
theorem d_X1_fillBites_72 : decode prog_3_method_11_code 72 = .ok (.goto (-35), 3) := by decide +kernel
theorem d_X1_fillBites_75 : decode prog_3_method_11_code 75 = .ok (.iinc 1 1, 3) := by decide +kernel
theorem d_X1_fillBites_78 : decode prog_3_method_11_code 78 = .ok (.goto (-60), 3) := by decide +kernel
theorem d_X1_fillBites_81 : decode prog_3_method_11_code 81 = .ok (.return_, 1) := by decide +kernel
def k_X1_fillBites_18 (kap lam : Nat → Nat) (go18 : Nat → Int32 → fm_M → Option fm_M) (go37 : Nat → Int32 → Int32 → Int32 → fm_M → Option fm_M) (r0 : Nat) (a1 : Int32)  (S : fm_M) : Option fm_M :=
  fm_gr kap 1 r0 1 S fun q20 =>
  fm_gi kap 10 q20 2 S fun x23 =>
  if x23 ≤ a1 then (
   some S
  ) else (
   fm_ck (kap r0 == 1) <|
   fm_bi (m_X1_cellsWhere kap lam r0 a1 S) fun x31 S31 =>
   fm_let (0 : Int32) fun x36 =>
   go37 r0 a1 x31 x36 S31
  )
def k_X1_fillBites_37 (kap lam : Nat → Nat) (go18 : Nat → Int32 → fm_M → Option fm_M) (go37 : Nat → Int32 → Int32 → Int32 → fm_M → Option fm_M) (r0 : Nat) (a1 : Int32) (a2 : Int32) (a3 : Int32)  (S : fm_M) : Option fm_M :=
  if 12 ≤ a3 then (
   fm_let (a1 + 1 : Int32) fun x75 =>
   go18 r0 x75 S
  ) else (
   if ((a2 >>> (a3 &&& 31)) &&& 1) = 0 then (
    fm_let (a3 + 1 : Int32) fun x69 =>
    go37 r0 a1 a2 x69 S
   ) else (
    fm_gr kap 1 r0 8 S fun q52 =>
    fm_ld kap lam 13 q52 a3 S fun x57 =>
    fm_gr kap 1 r0 1 S fun q59 =>
    fm_gr kap 10 q59 3 S fun q62 =>
    fm_ld kap lam 13 q62 a1 S fun x66 =>
    fm_st kap lam q52 a3 (x57 + x66) S fun S68 =>
    fm_let (a3 + 1 : Int32) fun x69 =>
    go37 r0 a1 a2 x69 S68
   )
  )
def bs_X1_fillBites (kap lam : Nat → Nat) : Nat → (Nat → Int32 → fm_M → Option fm_M) × (Nat → Int32 → Int32 → Int32 → fm_M → Option fm_M)
  | 0 => ((fun _ _ _ => none), (fun _ _ _ _ _ => none))
  | n + 1 => (k_X1_fillBites_18 kap lam (bs_X1_fillBites kap lam n).1 (bs_X1_fillBites kap lam n).2, k_X1_fillBites_37 kap lam (bs_X1_fillBites kap lam n).1 (bs_X1_fillBites kap lam n).2)
def b_X1_fillBites_18 (kap lam : Nat → Nat) (n : Nat) : Nat → Int32 → fm_M → Option fm_M := (bs_X1_fillBites kap lam n).1
def b_X1_fillBites_37 (kap lam : Nat → Nat) (n : Nat) : Nat → Int32 → Int32 → Int32 → fm_M → Option fm_M := (bs_X1_fillBites kap lam n).2
def m_X1_fillBites (kap lam : Nat → Nat) (r0 : Nat) (S : fm_M) : Option fm_M :=
  fm_gr kap 1 r0 8 S fun q1 =>
  fm_gi kap 1 r0 2 S fun x5 =>
  fm_gi kap 1 r0 3 S fun x9 =>
  fm_b1 (m_J7_fill_53178 kap lam q1 (x5 - x9) S) fun S13 =>
  fm_let (0 : Int32) fun x17 =>
  b_X1_fillBites_18 kap lam fm_LF r0 x17 S13
set_option maxHeartbeats 4000000 in
set_option maxRecDepth 100000 in
theorem c_X1_fillBites {l : Launch} {D : va_G} {ids kap lam : Nat → Nat} {RL : List Nat} {ad sk sv : Nat → Nat} {S : fm_M} {r0 : Nat} {u : fm_M} (hE : fm_E kap RL ad) (hf : m_X1_fillBites kap lam r0 S = some u) (sz : Nat) : fm_MV l y_X1_fillBites prog_3_method_11_code 4 (Option.none : Option Jvm.ClassFile.FieldType) 3 D ids kap lam RL ad sk sv S [.ref (ad r0)] sz u := by
  refine fm_open rfl hE (Nat.le_of_ble_eq_true rfl) (fun p e s m args below meth c ls Z hr hlk G F N hl hsz => ?_)
  subst hsz
  obtain ⟨hx, hb, hml, hown, hts⟩ := id Z
  have hl : lv_has ls 4 [(0, .ref (ad r0))] := hl
  generalize hQ : MQ below _ args s 0 0 (fm_A RL ad s.heap.size) = Qf
  have hL : ∀ n : Nat, (∀ (r0 : Nat) (a1 : Int32)  (S : fm_M) (H : Heap) (locs : List Loc) (ls : Array Slot), fm_F D ids kap lam RL ad S (fm_A RL ad s.heap.size) s.heap H locs → lv_has ls 4 [(0, .ref (ad r0)), (1, .int a1)] → b_X1_fillBites_18 kap lam n r0 a1 S = some u → W p l e (fm_rm 3) s m args below meth c H locs 0 0 Qf (F0 m 18 ls [])) ∧ (∀ (r0 : Nat) (a1 : Int32) (a2 : Int32) (a3 : Int32)  (S : fm_M) (H : Heap) (locs : List Loc) (ls : Array Slot), fm_F D ids kap lam RL ad S (fm_A RL ad s.heap.size) s.heap H locs → lv_has ls 4 [(0, .ref (ad r0)), (1, .int a1), (2, .int a2), (3, .int a3)] → b_X1_fillBites_37 kap lam n r0 a1 a2 a3 S = some u → W p l e (fm_rm 3) s m args below meth c H locs 0 0 Qf (F0 m 37 ls [])) := by
    intro n
    induction n with
    | zero => exact ⟨fun _ _ _ _ _ _ _ _ hf => absurd hf (by intro h; cases h), fun _ _ _ _ _ _ _ _ _ _ hf => absurd hf (by intro h; cases h)⟩
    | succ n ih =>
      refine ⟨?_, ?_⟩
      · intro r0 a1 S H locs ls F hl hf
        have hf : k_X1_fillBites_18 kap lam (b_X1_fillBites_18 kap lam n) (b_X1_fillBites_37 kap lam n) r0 a1 S = some u := hf
        unfold k_X1_fillBites_18 at hf
        refine lv_iload_n hx hb d_X1_fillBites_18 rfl (lv_at hl 1 rfl) ?_
        refine lv_aload_n hx hb d_X1_fillBites_19 rfl (lv_at hl 0 rfl) ?_
        refine fm_rgr Z G F hf fr_X1_42 d_X1_fillBites_20 (fun q20 _ hf => ?_)
        refine fm_rgi Z G F hf fr_X1_96 d_X1_fillBites_23 (fun x23 _ hf => ?_)
        refine lv_icmp_ge (tgt := 81) hx hb d_X1_fillBites_26 (by decide) (fun c26 => ?_) (fun c26 => ?_)
        · have hf := fm_ip c26 hf
          rw [← hQ]; exact fm_retv Z hr hlk F d_X1_fillBites_81 (Option.some.inj hf)
        · have hf := fm_ig c26 hf
          refine lv_aload_n hx hb d_X1_fillBites_29 rfl (lv_at hl 0 rfl) ?_
          refine lv_iload_n hx hb d_X1_fillBites_30 rfl (lv_at hl 1 rfl) ?_
          obtain ⟨hk31, hf⟩ := fm_some hf
          refine fm_rci G F hf (fun r u ho => fm_runV (k := 1) Z G F N (As := [.int a1]) (rest := []) (c_X1_cellsWhere hE ho _) (by rw [eq_of_beq hk31]; decide) (by rw [eq_of_beq hk31]; rfl) kw_583 kw_585 kp_13 kw_18 kw_586 yd_X1_cellsWhere rfl (by decide) (by decide) hl.1 (Nat.le_of_ble_eq_true rfl) d_X1_fillBites_31 (Nat.le_refl 0) (Nat.le_refl 0)) (fun x31 S31 H locs _ F hf => ?_)
          refine lv_istore_n (lv' := [(2, .int x31), (0, .ref (ad r0)), (1, .int a1)]) hx hb d_X1_fillBites_34 rfl hl (by decide) rfl (fun ls hl => ?_)
          refine lv_iconst (v := 0) hx hb d_X1_fillBites_35 (by decide) ?_
          refine lv_topi (fun x36 ex36 => ?_)
          have hf := fm_let_at ex36 hf
          refine lv_istore_n (lv' := [(3, .int x36), (2, .int x31), (0, .ref (ad r0)), (1, .int a1)]) hx hb d_X1_fillBites_36 rfl hl (by decide) rfl (fun ls hl => ?_)
          exact (ih).2 r0 a1 x31 x36 S31 _ _ _ F (lv_sub hl [2, 3, 1, 0] rfl) hf
      · intro r0 a1 a2 a3 S H locs ls F hl hf
        have hf : k_X1_fillBites_37 kap lam (b_X1_fillBites_18 kap lam n) (b_X1_fillBites_37 kap lam n) r0 a1 a2 a3 S = some u := hf
        unfold k_X1_fillBites_37 at hf
        refine lv_iload_n hx hb d_X1_fillBites_37 rfl (lv_at hl 3 rfl) ?_
        refine lv_bipush (v := 12) hx hb d_X1_fillBites_38 (by decide) ?_
        refine lv_icmp_ge (tgt := 75) hx hb d_X1_fillBites_40 (by decide) (fun c40 => ?_) (fun c40 => ?_)
        · have hf := fm_ip c40 hf
          obtain ⟨x75, ex75⟩ : ∃ y : Int32, y = a1 + 1 := ⟨_, rfl⟩
          have hf := fm_let_at ex75 hf
          refine lv_iinc (v := x75) (lv' := [(1, .int x75), (0, .ref (ad r0)), (2, .int a2), (3, .int a3)]) hx hb d_X1_fillBites_75 hl (k := 1) rfl (by rw [ex75]; rfl) (by decide) rfl (fun ls hl => ?_)
          refine lv_goto (tgt := 18) hx hb d_X1_fillBites_78 (by decide) ?_
          exact (ih).1 r0 x75 S _ _ _ F (lv_sub hl [1, 0] rfl) hf
        · have hf := fm_ig c40 hf
          refine lv_iload_n hx hb d_X1_fillBites_43 rfl (lv_at hl 2 rfl) ?_
          refine lv_iload_n hx hb d_X1_fillBites_44 rfl (lv_at hl 3 rfl) ?_
          refine lv_ishr hx hb d_X1_fillBites_45 ?_
          refine lv_iconst (v := 1) hx hb d_X1_fillBites_46 (by decide) ?_
          refine lv_iand hx hb d_X1_fillBites_47 ?_
          refine lv_if_eq (tgt := 69) hx hb d_X1_fillBites_48 (by decide) (fun c48 => ?_) (fun c48 => ?_)
          · have hf := fm_ip c48 hf
            obtain ⟨x69, ex69⟩ : ∃ y : Int32, y = a3 + 1 := ⟨_, rfl⟩
            have hf := fm_let_at ex69 hf
            refine lv_iinc (v := x69) (lv' := [(3, .int x69), (0, .ref (ad r0)), (1, .int a1), (2, .int a2)]) hx hb d_X1_fillBites_69 hl (k := 3) rfl (by rw [ex69]; rfl) (by decide) rfl (fun ls hl => ?_)
            refine lv_goto (tgt := 37) hx hb d_X1_fillBites_72 (by decide) ?_
            exact (ih).2 r0 a1 a2 x69 S _ _ _ F (lv_sub hl [1, 2, 3, 0] rfl) hf
          · have hf := fm_ig c48 hf
            refine lv_aload_n hx hb d_X1_fillBites_51 rfl (lv_at hl 0 rfl) ?_
            refine fm_rgr Z G F hf fr_X1_31 d_X1_fillBites_52 (fun q52 _ hf => ?_)
            refine lv_iload_n hx hb d_X1_fillBites_55 rfl (lv_at hl 3 rfl) ?_
            refine lv_dup2_11 hx hb d_X1_fillBites_56 rfl rfl ?_
            refine fm_rld Z G F hf d_X1_fillBites_57 (fun x57 _ hf => ?_)
            refine lv_aload_n hx hb d_X1_fillBites_58 rfl (lv_at hl 0 rfl) ?_
            refine fm_rgr Z G F hf fr_X1_42 d_X1_fillBites_59 (fun q59 _ hf => ?_)
            refine fm_rgr Z G F hf fr_X1_102 d_X1_fillBites_62 (fun q62 _ hf => ?_)
            refine lv_iload_n hx hb d_X1_fillBites_65 rfl (lv_at hl 1 rfl) ?_
            refine fm_rld Z G F hf d_X1_fillBites_66 (fun x66 _ hf => ?_)
            refine lv_iadd hx hb d_X1_fillBites_67 ?_
            refine fm_rst Z G F hf d_X1_fillBites_68 (fun S68 H locs _ F hf => ?_)
            obtain ⟨x69, ex69⟩ : ∃ y : Int32, y = a3 + 1 := ⟨_, rfl⟩
            have hf := fm_let_at ex69 hf
            refine lv_iinc (v := x69) (lv' := [(3, .int x69), (0, .ref (ad r0)), (1, .int a1), (2, .int a2)]) hx hb d_X1_fillBites_69 hl (k := 3) rfl (by rw [ex69]; rfl) (by decide) rfl (fun ls hl => ?_)
            refine lv_goto (tgt := 37) hx hb d_X1_fillBites_72 (by decide) ?_
            exact (ih).2 r0 a1 a2 x69 S68 _ _ _ F (lv_sub hl [1, 2, 3, 0] rfl) hf
  unfold m_X1_fillBites at hf
  refine lv_aload_n hx hb d_X1_fillBites_0 rfl (lv_at hl 0 rfl) ?_
  refine fm_rgr Z G F hf fr_X1_31 d_X1_fillBites_1 (fun q1 _ hf => ?_)
  refine lv_aload_n hx hb d_X1_fillBites_4 rfl (lv_at hl 0 rfl) ?_
  refine fm_rgi Z G F hf fr_X1_9 d_X1_fillBites_5 (fun x5 _ hf => ?_)
  refine lv_aload_n hx hb d_X1_fillBites_8 rfl (lv_at hl 0 rfl) ?_
  refine fm_rgi Z G F hf fr_X1_15 d_X1_fillBites_9 (fun x9 _ hf => ?_)
  refine lv_isub hx hb d_X1_fillBites_12 ?_
  refine fm_rcv G F hf (fun u ho => fm_runS (k := 2) Z G F N (As := [.ref (ad q1), .int (x5 - x9)]) (rest := []) (c_J7_fill_53178 hE ho _) kw_580 kw_581 kw_19 kw_582 yd_J7_fill_53178 rfl (by decide) (by decide) hl.1 (Nat.le_of_ble_eq_true rfl) d_X1_fillBites_13 (Nat.le_refl 0) (Nat.le_refl 0)) (fun S13 H locs _ F hf => ?_)
  refine lv_iconst (v := 0) hx hb d_X1_fillBites_16 (by decide) ?_
  refine lv_topi (fun x17 ex17 => ?_)
  have hf := fm_let_at ex17 hf
  refine lv_istore_n (lv' := [(1, .int x17), (0, .ref (ad r0))]) hx hb d_X1_fillBites_17 rfl hl (by decide) rfl (fun ls hl => ?_)
  exact (hL fm_LF).1 r0 x17 S13 _ _ _ F (lv_sub hl [1, 0] rfl) hf
theorem d_X1_growthAt_0 : decode prog_3_method_5_code 0 = .ok (.aload_n 0, 1) := by decide +kernel
theorem d_X1_growthAt_1 : decode prog_3_method_5_code 1 = .ok (.invokevirtual 58, 3) := by decide +kernel
theorem d_X1_growthAt_4 : decode prog_3_method_5_code 4 = .ok (.aload_n 0, 1) := by decide +kernel
theorem d_X1_growthAt_5 : decode prog_3_method_5_code 5 = .ok (.getfield 38, 3) := by decide +kernel
theorem d_X1_growthAt_8 : decode prog_3_method_5_code 8 = .ok (.aload_n 0, 1) := by decide +kernel
theorem d_X1_growthAt_9 : decode prog_3_method_5_code 9 = .ok (.iload_n 1, 1) := by decide +kernel
theorem d_X1_growthAt_10 : decode prog_3_method_5_code 10 = .ok (.invokevirtual 61, 3) := by decide +kernel
theorem d_X1_growthAt_13 : decode prog_3_method_5_code 13 = .ok (.ireturn, 1) := by decide +kernel
def m_X1_growthAt (kap lam : Nat → Nat) (r0 : Nat) (a1 : Int32) (S : fm_M) : Option (Int32 × fm_M) :=
  fm_ck (kap r0 == 1) <|
  fm_b1 (m_X1_fillBites kap lam r0 S) fun S1 =>
  fm_gr kap 1 r0 0 S1 fun q5 =>
  fm_b1 (v_growth kap lam q5 r0 a1 S1) fun x10 =>
  some (x10, S1)
set_option maxHeartbeats 4000000 in
set_option maxRecDepth 100000 in
theorem c_X1_growthAt {l : Launch} {D : va_G} {ids kap lam : Nat → Nat} {RL : List Nat} {ad sk sv : Nat → Nat} {S : fm_M} {r0 : Nat} {a1 : Int32} {r : Int32} {u : fm_M} (hE : fm_E kap RL ad) (hf : m_X1_growthAt kap lam r0 a1 S = some (r, u)) (sz : Nat) : fm_MI l y_X1_growthAt prog_3_method_5_code 2 (Option.some Jvm.ClassFile.FieldType.int) 4 D ids kap lam RL ad sk sv S [.ref (ad r0), .int a1] sz r u := by
  refine fm_open rfl hE (Nat.le_of_ble_eq_true rfl) (fun p e s m args below meth c ls Z hr hlk G F N hl hsz => ?_)
  subst hsz
  obtain ⟨hx, hb, hml, hown, hts⟩ := id Z
  have hl : lv_has ls 2 [(0, .ref (ad r0)), (1, .int a1)] := hl
  unfold m_X1_growthAt at hf
  refine lv_aload_n hx hb d_X1_growthAt_0 rfl (lv_at hl 0 rfl) ?_
  obtain ⟨hk1, hf⟩ := fm_some hf
  refine fm_rcv G F hf (fun u ho => fm_runV (k := 0) Z G F N (As := []) (rest := []) (c_X1_fillBites hE ho _) (by rw [eq_of_beq hk1]; decide) (by rw [eq_of_beq hk1]; rfl) kw_576 kw_578 kp_12 kw_18 kw_579 yd_X1_fillBites rfl (by decide) (by decide) hl.1 (Nat.le_of_ble_eq_true rfl) d_X1_growthAt_1 (Nat.le_refl 0) (Nat.le_refl 0)) (fun S1 H locs _ F hf => ?_)
  refine lv_aload_n hx hb d_X1_growthAt_4 rfl (lv_at hl 0 rfl) ?_
  refine fm_rgr Z G F hf fr_X1_38 d_X1_growthAt_5 (fun q5 _ hf => ?_)
  refine lv_aload_n hx hb d_X1_growthAt_8 rfl (lv_at hl 0 rfl) ?_
  refine lv_iload_n hx hb d_X1_growthAt_9 rfl (lv_at hl 1 rfl) ?_
  refine fm_rcr (rest := []) (a := (Value.ref (ad q5) :: [.ref (ad r0), .int a1]).toArray) G F hf (fun r ho => ?_) (fun x10 H locs _ F hf => ?_)
  · unfold v_growth at ho
    by_cases hv10_0 : kap q5 = 0
    · rw [if_pos hv10_0] at ho
      exact fm_runU (k := 2) Z G F N (As := [.ref (ad r0), .int a1]) (rest := []) (x := (⟨"FrostBids$Pane", "growth", "(LFrostBids$Course;I)I"⟩ : MethodName)) (C := "FrostBids$Church") (owner := "FrostBids$Pane") (c_X0_growth hE ho _) (by rw [hv10_0]; decide) (by rw [hv10_0]; rfl) kw_595 kw_598 kw_596 kw_627 kw_599 kw_600 kw_16 kw_601 ⟨by decide +kernel, by decide +kernel, by decide +kernel⟩ rfl (by decide) (by decide) hl.1 (Nat.le_of_ble_eq_true rfl) d_X1_growthAt_10 (Nat.le_refl 0) (Nat.le_refl 0)
    rw [if_neg hv10_0] at ho
    by_cases hv10_2 : kap q5 = 2
    · rw [if_pos hv10_2] at ho
      exact fm_runU (k := 2) Z G F N (As := [.ref (ad r0), .int a1]) (rest := []) (x := (⟨"FrostBids$Pane", "growth", "(LFrostBids$Course;I)I"⟩ : MethodName)) (C := "FrostBids$Jail") (owner := "FrostBids$Pane") (c_X2_growth hE ho _) (by rw [hv10_2]; decide) (by rw [hv10_2]; rfl) kw_595 kw_598 kw_596 kw_627 kw_606 kw_607 kw_15 kw_608 ⟨by decide +kernel, by decide +kernel, by decide +kernel⟩ rfl (by decide) (by decide) hl.1 (Nat.le_of_ble_eq_true rfl) d_X1_growthAt_10 (Nat.le_refl 0) (Nat.le_refl 0)
    rw [if_neg hv10_2] at ho
    by_cases hv10_3 : kap q5 = 3
    · rw [if_pos hv10_3] at ho
      exact fm_runU (k := 2) Z G F N (As := [.ref (ad r0), .int a1]) (rest := []) (x := (⟨"FrostBids$Pane", "growth", "(LFrostBids$Course;I)I"⟩ : MethodName)) (C := "FrostBids$Kitchen") (owner := "FrostBids$Pane") (c_X3_growth hE ho _) (by rw [hv10_3]; decide) (by rw [hv10_3]; rfl) kw_595 kw_598 kw_596 kw_627 kw_613 kw_610 kw_12 kw_611 ⟨by decide +kernel, by decide +kernel, by decide +kernel⟩ rfl (by decide) (by decide) hl.1 (Nat.le_of_ble_eq_true rfl) d_X1_growthAt_10 (Nat.le_refl 0) (Nat.le_refl 0)
    rw [if_neg hv10_3] at ho
    by_cases hv10_4 : kap q5 = 4
    · rw [if_pos hv10_4] at ho
      exact fm_runU (k := 2) Z G F N (As := [.ref (ad r0), .int a1]) (rest := []) (x := (⟨"FrostBids$Pane", "growth", "(LFrostBids$Course;I)I"⟩ : MethodName)) (C := "FrostBids$Nursery") (owner := "FrostBids$Pane") (c_X4_growth hE ho _) (by rw [hv10_4]; decide) (by rw [hv10_4]; rfl) kw_595 kw_598 kw_596 kw_627 kw_614 kw_603 kw_13 kw_604 ⟨by decide +kernel, by decide +kernel, by decide +kernel⟩ rfl (by decide) (by decide) hl.1 (Nat.le_of_ble_eq_true rfl) d_X1_growthAt_10 (Nat.le_refl 0) (Nat.le_refl 0)
    rw [if_neg hv10_4] at ho
    by_cases hv10_5 : kap q5 = 5
    · rw [if_pos hv10_5] at ho
      exact fm_runU (k := 2) Z G F N (As := [.ref (ad r0), .int a1]) (rest := []) (x := (⟨"FrostBids$Pane", "growth", "(LFrostBids$Course;I)I"⟩ : MethodName)) (C := "FrostBids$Pane") (owner := "FrostBids$Pane") (c_X5_growth hE ho _) (by rw [hv10_5]; decide) (by rw [hv10_5]; rfl) kw_595 kw_598 kw_596 kw_627 kw_597 kw_596 kw_11 kw_627 ⟨by decide +kernel, by decide +kernel, by decide +kernel⟩ rfl (by decide) (by decide) hl.1 (Nat.le_of_ble_eq_true rfl) d_X1_growthAt_10 (Nat.le_refl 0) (Nat.le_refl 0)
    rw [if_neg hv10_5] at ho
    by_cases hv10_7 : kap q5 = 7
    · rw [if_pos hv10_7] at ho
      exact fm_runU (k := 2) Z G F N (As := [.ref (ad r0), .int a1]) (rest := []) (x := (⟨"FrostBids$Pane", "growth", "(LFrostBids$Course;I)I"⟩ : MethodName)) (C := "FrostBids$Rectory") (owner := "FrostBids$Pane") (c_X7_growth hE ho _) (by rw [hv10_7]; decide) (by rw [hv10_7]; rfl) kw_595 kw_598 kw_596 kw_627 kw_615 kw_616 kw_14 kw_617 ⟨by decide +kernel, by decide +kernel, by decide +kernel⟩ rfl (by decide) (by decide) hl.1 (Nat.le_of_ble_eq_true rfl) d_X1_growthAt_10 (Nat.le_refl 0) (Nat.le_refl 0)
    rw [if_neg hv10_7] at ho
    by_cases hv10_9 : kap q5 = 9
    · rw [if_pos hv10_9] at ho
      exact fm_runU (k := 2) Z G F N (As := [.ref (ad r0), .int a1]) (rest := []) (x := (⟨"FrostBids$Pane", "growth", "(LFrostBids$Course;I)I"⟩ : MethodName)) (C := "FrostBids$Told") (owner := "FrostBids$Pane") (c_X9_growth hE ho _) (by rw [hv10_9]; decide) (by rw [hv10_9]; rfl) kw_595 kw_598 kw_596 kw_627 kw_623 kw_624 kw_17 kw_625 ⟨by decide +kernel, by decide +kernel, by decide +kernel⟩ rfl (by decide) (by decide) hl.1 (Nat.le_of_ble_eq_true rfl) d_X1_growthAt_10 (Nat.le_refl 0) (Nat.le_refl 0)
    rw [if_neg hv10_9] at ho
    cases ho
  exact fm_reti Z hr hlk F d_X1_growthAt_13 (Prod.mk.inj (Option.some.inj hf)).1 (Prod.mk.inj (Option.some.inj hf)).2
theorem d_X1_goHour_0 : decode prog_3_method_7_code 0 = .ok (.aload_n 0, 1) := by decide +kernel
theorem d_X1_goHour_1 : decode prog_3_method_7_code 1 = .ok (.getfield 27, 3) := by decide +kernel
theorem d_X1_goHour_4 : decode prog_3_method_7_code 4 = .ok (.ifCond .ne 108, 3) := by decide +kernel
theorem d_X1_goHour_7 : decode prog_3_method_7_code 7 = .ok (.aload_n 0, 1) := by decide +kernel
theorem d_X1_goHour_8 : decode prog_3_method_7_code 8 = .ok (.invokevirtual 58, 3) := by decide +kernel
theorem d_X1_goHour_11 : decode prog_3_method_7_code 11 = .ok (.aload_n 0, 1) := by decide +kernel
theorem d_X1_goHour_12 : decode prog_3_method_7_code 12 = .ok (.getfield 24, 3) := by decide +kernel
theorem d_X1_goHour_15 : decode prog_3_method_7_code 15 = .ok (.istore_n 1, 1) := by decide +kernel
theorem d_X1_goHour_16 : decode prog_3_method_7_code 16 = .ok (.iconst 0, 1) := by decide +kernel
theorem d_X1_goHour_17 : decode prog_3_method_7_code 17 = .ok (.istore_n 2, 1) := by decide +kernel
theorem d_X1_goHour_18 : decode prog_3_method_7_code 18 = .ok (.iload_n 2, 1) := by decide +kernel
theorem d_X1_goHour_19 : decode prog_3_method_7_code 19 = .ok (.bipush 12, 2) := by decide +kernel
theorem d_X1_goHour_21 : decode prog_3_method_7_code 21 = .ok (.if_icmp .ge 86, 3) := by decide +kernel
theorem d_X1_goHour_24 : decode prog_3_method_7_code 24 = .ok (.aload_n 0, 1) := by decide +kernel
theorem d_X1_goHour_25 : decode prog_3_method_7_code 25 = .ok (.getfield 38, 3) := by decide +kernel
theorem d_X1_goHour_28 : decode prog_3_method_7_code 28 = .ok (.aload_n 0, 1) := by decide +kernel
theorem d_X1_goHour_29 : decode prog_3_method_7_code 29 = .ok (.iload_n 2, 1) := by decide +kernel
theorem d_X1_goHour_30 : decode prog_3_method_7_code 30 = .ok (.invokevirtual 61, 3) := by decide +kernel
theorem d_X1_goHour_33 : decode prog_3_method_7_code 33 = .ok (.istore_n 3, 1) := by decide +kernel
theorem d_X1_goHour_34 : decode prog_3_method_7_code 34 = .ok (.aload_n 0, 1) := by decide +kernel
theorem d_X1_goHour_35 : decode prog_3_method_7_code 35 = .ok (.getfield 24, 3) := by decide +kernel
theorem d_X1_goHour_38 : decode prog_3_method_7_code 38 = .ok (.iload_n 2, 1) := by decide +kernel
theorem d_X1_goHour_39 : decode prog_3_method_7_code 39 = .ok (.ishr, 1) := by decide +kernel
theorem d_X1_goHour_40 : decode prog_3_method_7_code 40 = .ok (.iconst 1, 1) := by decide +kernel
theorem d_X1_goHour_41 : decode prog_3_method_7_code 41 = .ok (.iand, 1) := by decide +kernel
theorem d_X1_goHour_42 : decode prog_3_method_7_code 42 = .ok (.ifCond .eq 7, 3) := by decide +kernel
theorem d_X1_goHour_45 : decode prog_3_method_7_code 45 = .ok (.iconst 1, 1) := by decide +kernel
theorem d_X1_goHour_46 : decode prog_3_method_7_code 46 = .ok (.goto 4, 3) := by decide +kernel
theorem d_X1_goHour_49 : decode prog_3_method_7_code 49 = .ok (.iconst 0, 1) := by decide +kernel
theorem d_X1_goHour_50 : decode prog_3_method_7_code 50 = .ok (.istore 4, 2) := by decide +kernel
theorem d_X1_goHour_52 : decode prog_3_method_7_code 52 = .ok (.iload 4, 2) := by decide +kernel
theorem d_X1_goHour_54 : decode prog_3_method_7_code 54 = .ok (.ifCond .eq 20, 3) := by decide +kernel
theorem d_X1_goHour_57 : decode prog_3_method_7_code 57 = .ok (.iload_n 3, 1) := by decide +kernel
theorem d_X1_goHour_58 : decode prog_3_method_7_code 58 = .ok (.bipush (-10), 2) := by decide +kernel
theorem d_X1_goHour_60 : decode prog_3_method_7_code 60 = .ok (.if_icmp .gt 14, 3) := by decide +kernel
theorem d_X1_goHour_63 : decode prog_3_method_7_code 63 = .ok (.iload_n 1, 1) := by decide +kernel
theorem d_X1_goHour_64 : decode prog_3_method_7_code 64 = .ok (.iconst 1, 1) := by decide +kernel
theorem d_X1_goHour_65 : decode prog_3_method_7_code 65 = .ok (.iload_n 2, 1) := by decide +kernel
theorem d_X1_goHour_66 : decode prog_3_method_7_code 66 = .ok (.ishl, 1) := by decide +kernel
theorem d_X1_goHour_67 : decode prog_3_method_7_code 67 = .ok (.iconst (-1), 1) := by decide +kernel
theorem d_X1_goHour_68 : decode prog_3_method_7_code 68 = .ok (.ixor, 1) := by decide +kernel
theorem d_X1_goHour_69 : decode prog_3_method_7_code 69 = .ok (.iand, 1) := by decide +kernel
theorem d_X1_goHour_70 : decode prog_3_method_7_code 70 = .ok (.istore_n 1, 1) := by decide +kernel
theorem d_X1_goHour_71 : decode prog_3_method_7_code 71 = .ok (.goto 30, 3) := by decide +kernel
theorem d_X1_goHour_74 : decode prog_3_method_7_code 74 = .ok (.iload 4, 2) := by decide +kernel
theorem d_X1_goHour_76 : decode prog_3_method_7_code 76 = .ok (.ifCond .ne 25, 3) := by decide +kernel
theorem d_X1_goHour_79 : decode prog_3_method_7_code 79 = .ok (.iload_n 3, 1) := by decide +kernel
theorem d_X1_goHour_80 : decode prog_3_method_7_code 80 = .ok (.ifCond .le 21, 3) := by decide +kernel
theorem d_X1_goHour_83 : decode prog_3_method_7_code 83 = .ok (.iload_n 2, 1) := by decide +kernel
theorem d_X1_goHour_84 : decode prog_3_method_7_code 84 = .ok (.ifCond .eq 11, 3) := by decide +kernel
theorem d_X1_goHour_87 : decode prog_3_method_7_code 87 = .ok (.aload_n 0, 1) := by decide +kernel
theorem d_X1_goHour_88 : decode prog_3_method_7_code 88 = .ok (.iload_n 2, 1) := by decide +kernel
theorem d_X1_goHour_89 : decode prog_3_method_7_code 89 = .ok (.invokevirtual 68, 3) := by decide +kernel
theorem d_X1_goHour_92 : decode prog_3_method_7_code 92 = .ok (.ifCond .le 9, 3) := by decide +kernel
theorem d_X1_goHour_95 : decode prog_3_method_7_code 95 = .ok (.iload_n 1, 1) := by decide +kernel
theorem d_X1_goHour_96 : decode prog_3_method_7_code 96 = .ok (.iconst 1, 1) := by decide +kernel
theorem d_X1_goHour_97 : decode prog_3_method_7_code 97 = .ok (.iload_n 2, 1) := by decide +kernel
theorem d_X1_goHour_98 : decode prog_3_method_7_code 98 = .ok (.ishl, 1) := by decide +kernel
theorem d_X1_goHour_99 : decode prog_3_method_7_code 99 = .ok (.ior, 1) := by decide +kernel
theorem d_X1_goHour_100 : decode prog_3_method_7_code 100 = .ok (.istore_n 1, 1) := by decide +kernel
theorem d_X1_goHour_101 : decode prog_3_method_7_code 101 = .ok (.iinc 2 1, 3) := by decide +kernel
theorem d_X1_goHour_104 : decode prog_3_method_7_code 104 = .ok (.goto (-86), 3) := by decide +kernel
theorem d_X1_goHour_107 : decode prog_3_method_7_code 107 = .ok (.aload_n 0, 1) := by decide +kernel
theorem d_X1_goHour_108 : decode prog_3_method_7_code 108 = .ok (.iload_n 1, 1) := by decide +kernel
theorem d_X1_goHour_109 : decode prog_3_method_7_code 109 = .ok (.putfield 24, 3) := by decide +kernel
theorem d_X1_goHour_112 : decode prog_3_method_7_code 112 = .ok (.aload_n 0, 1) := by decide +kernel
theorem d_X1_goHour_113 : decode prog_3_method_7_code 113 = .ok (.dup, 1) := by decide +kernel
theorem d_X1_goHour_114 : decode prog_3_method_7_code 114 = .ok (.getfield 21, 3) := by decide +kernel
theorem d_X1_goHour_117 : decode prog_3_method_7_code 117 = .ok (.iconst 1, 1) := by decide +kernel
theorem d_X1_goHour_118 : decode prog_3_method_7_code 118 = .ok (.iadd, 1) := by decide +kernel
theorem d_X1_goHour_119 : decode prog_3_method_7_code 119 = .ok (.putfield 21, 3) := by decide +kernel
theorem d_X1_goHour_122 : decode prog_3_method_7_code 122 = .ok (.return_, 1) := by decide +kernel
def k_X1_goHour_18 (kap lam : Nat → Nat) (go18 : Nat → Int32 → Int32 → fm_M → Option fm_M) (go50 : Nat → Int32 → Int32 → Int32 → Int32 → fm_M → Option fm_M) (r0 : Nat) (a1 : Int32) (a2 : Int32)  (S : fm_M) : Option fm_M :=
  if 12 ≤ a2 then (
   fm_pi kap 1 r0 6 S a1 fun S109 =>
   fm_gi kap 1 r0 5 S109 fun x114 =>
   fm_pi kap 1 r0 5 S109 (x114 + 1) fun S119 =>
   some S119
  ) else (
   fm_gr kap 1 r0 0 S fun q25 =>
   fm_b1 (v_growth kap lam q25 r0 a2 S) fun x30 =>
   fm_gi kap 1 r0 6 S fun x35 =>
   if ((x35 >>> (a2 &&& 31)) &&& 1) = 0 then (
    go50 r0 a1 a2 x30 0 S
   ) else (
    go50 r0 a1 a2 x30 1 S
   )
  )
def k_X1_goHour_50 (kap lam : Nat → Nat) (go18 : Nat → Int32 → Int32 → fm_M → Option fm_M) (go50 : Nat → Int32 → Int32 → Int32 → Int32 → fm_M → Option fm_M) (r0 : Nat) (a1 : Int32) (a2 : Int32) (a3 : Int32) (ak0 : Int32) (S : fm_M) : Option fm_M :=
  if ak0 = 0 then (
   if ak0 = 0 then (
    if a3 ≤ 0 then (
     fm_let (a2 + 1 : Int32) fun x101 =>
     go18 r0 a1 x101 S
    ) else (
     if a2 = 0 then (
      fm_let (a1 ||| ((1 : Int32) <<< (a2 &&& 31)) : Int32) fun x100 =>
      fm_let (a2 + 1 : Int32) fun x101 =>
      go18 r0 x100 x101 S
     ) else (
      fm_ck (kap r0 == 1) <|
      fm_b1 (m_X1_frozenBeside kap lam r0 a2 S) fun x89 =>
      if x89 ≤ 0 then (
       fm_let (a2 + 1 : Int32) fun x101 =>
       go18 r0 a1 x101 S
      ) else (
       fm_let (a1 ||| ((1 : Int32) <<< (a2 &&& 31)) : Int32) fun x100 =>
       fm_let (a2 + 1 : Int32) fun x101 =>
       go18 r0 x100 x101 S
      )
     )
    )
   ) else (
    fm_let (a2 + 1 : Int32) fun x101 =>
    go18 r0 a1 x101 S
   )
  ) else (
   if (-10) < a3 then (
    if ak0 = 0 then (
     if a3 ≤ 0 then (
      fm_let (a2 + 1 : Int32) fun x101 =>
      go18 r0 a1 x101 S
     ) else (
      if a2 = 0 then (
       fm_let (a1 ||| ((1 : Int32) <<< (a2 &&& 31)) : Int32) fun x100 =>
       fm_let (a2 + 1 : Int32) fun x101 =>
       go18 r0 x100 x101 S
      ) else (
       fm_ck (kap r0 == 1) <|
       fm_b1 (m_X1_frozenBeside kap lam r0 a2 S) fun x89 =>
       if x89 ≤ 0 then (
        fm_let (a2 + 1 : Int32) fun x101 =>
        go18 r0 a1 x101 S
       ) else (
        fm_let (a1 ||| ((1 : Int32) <<< (a2 &&& 31)) : Int32) fun x100 =>
        fm_let (a2 + 1 : Int32) fun x101 =>
        go18 r0 x100 x101 S
       )
      )
     )
    ) else (
     fm_let (a2 + 1 : Int32) fun x101 =>
     go18 r0 a1 x101 S
    )
   ) else (
    fm_let (a1 &&& (((1 : Int32) <<< (a2 &&& 31)) ^^^ (-1)) : Int32) fun x70 =>
    fm_let (a2 + 1 : Int32) fun x101 =>
    go18 r0 x70 x101 S
   )
  )
def bs_X1_goHour (kap lam : Nat → Nat) : Nat → (Nat → Int32 → Int32 → fm_M → Option fm_M) × (Nat → Int32 → Int32 → Int32 → Int32 → fm_M → Option fm_M)
  | 0 => ((fun _ _ _ _ => none), (fun _ _ _ _ _ _ => none))
  | n + 1 => (k_X1_goHour_18 kap lam (bs_X1_goHour kap lam n).1 (bs_X1_goHour kap lam n).2, k_X1_goHour_50 kap lam (bs_X1_goHour kap lam n).1 (bs_X1_goHour kap lam n).2)
def b_X1_goHour_18 (kap lam : Nat → Nat) (n : Nat) : Nat → Int32 → Int32 → fm_M → Option fm_M := (bs_X1_goHour kap lam n).1
def b_X1_goHour_50 (kap lam : Nat → Nat) (n : Nat) : Nat → Int32 → Int32 → Int32 → Int32 → fm_M → Option fm_M := (bs_X1_goHour kap lam n).2
def m_X1_goHour (kap lam : Nat → Nat) (r0 : Nat) (S : fm_M) : Option fm_M :=
  fm_gi kap 1 r0 7 S fun x1 =>
  if x1 = 0 then (
   fm_ck (kap r0 == 1) <|
   fm_b1 (m_X1_fillBites kap lam r0 S) fun S8 =>
   fm_gi kap 1 r0 6 S8 fun x12 =>
   fm_let (0 : Int32) fun x17 =>
   b_X1_goHour_18 kap lam fm_LF r0 x12 x17 S8
  ) else (
   fm_gi kap 1 r0 5 S fun x114 =>
   fm_pi kap 1 r0 5 S (x114 + 1) fun S119 =>
   some S119
  )
set_option maxHeartbeats 4000000 in
set_option maxRecDepth 100000 in
theorem c_X1_goHour {l : Launch} {D : va_G} {ids kap lam : Nat → Nat} {RL : List Nat} {ad sk sv : Nat → Nat} {S : fm_M} {r0 : Nat} {u : fm_M} (hE : fm_E kap RL ad) (hf : m_X1_goHour kap lam r0 S = some u) (sz : Nat) : fm_MV l y_X1_goHour prog_3_method_7_code 5 (Option.none : Option Jvm.ClassFile.FieldType) 4 D ids kap lam RL ad sk sv S [.ref (ad r0)] sz u := by
  refine fm_open rfl hE (Nat.le_of_ble_eq_true rfl) (fun p e s m args below meth c ls Z hr hlk G F N hl hsz => ?_)
  subst hsz
  obtain ⟨hx, hb, hml, hown, hts⟩ := id Z
  have hl : lv_has ls 5 [(0, .ref (ad r0))] := hl
  generalize hQ : MQ below _ args s 0 0 (fm_A RL ad s.heap.size) = Qf
  have hL : ∀ n : Nat, (∀ (r0 : Nat) (a1 : Int32) (a2 : Int32)  (S : fm_M) (H : Heap) (locs : List Loc) (ls : Array Slot), fm_F D ids kap lam RL ad S (fm_A RL ad s.heap.size) s.heap H locs → lv_has ls 5 [(0, .ref (ad r0)), (1, .int a1), (2, .int a2)] → b_X1_goHour_18 kap lam n r0 a1 a2 S = some u → W p l e (fm_rm 4) s m args below meth c H locs 0 0 Qf (F0 m 18 ls [])) ∧ (∀ (r0 : Nat) (a1 : Int32) (a2 : Int32) (a3 : Int32) (ak0 : Int32) (S : fm_M) (H : Heap) (locs : List Loc) (ls : Array Slot), fm_F D ids kap lam RL ad S (fm_A RL ad s.heap.size) s.heap H locs → lv_has ls 5 [(0, .ref (ad r0)), (1, .int a1), (2, .int a2), (3, .int a3)] → b_X1_goHour_50 kap lam n r0 a1 a2 a3 ak0 S = some u → W p l e (fm_rm 4) s m args below meth c H locs 0 0 Qf (F0 m 50 ls [.int ak0])) := by
    intro n
    induction n with
    | zero => exact ⟨fun _ _ _ _ _ _ _ _ _ hf => absurd hf (by intro h; cases h), fun _ _ _ _ _ _ _ _ _ _ _ hf => absurd hf (by intro h; cases h)⟩
    | succ n ih =>
      refine ⟨?_, ?_⟩
      · intro r0 a1 a2 S H locs ls F hl hf
        have hf : k_X1_goHour_18 kap lam (b_X1_goHour_18 kap lam n) (b_X1_goHour_50 kap lam n) r0 a1 a2 S = some u := hf
        unfold k_X1_goHour_18 at hf
        refine lv_iload_n hx hb d_X1_goHour_18 rfl (lv_at hl 2 rfl) ?_
        refine lv_bipush (v := 12) hx hb d_X1_goHour_19 (by decide) ?_
        refine lv_icmp_ge (tgt := 107) hx hb d_X1_goHour_21 (by decide) (fun c21 => ?_) (fun c21 => ?_)
        · have hf := fm_ip c21 hf
          refine lv_aload_n hx hb d_X1_goHour_107 rfl (lv_at hl 0 rfl) ?_
          refine lv_iload_n hx hb d_X1_goHour_108 rfl (lv_at hl 1 rfl) ?_
          refine fm_rpi Z G F hf fs_X1_24 d_X1_goHour_109 (fun c h => by have h := eq_of_beq (show (c == 1) = true from h); subst h; rfl) (fun S109 H locs _ F hf => ?_)
          refine lv_aload_n hx hb d_X1_goHour_112 rfl (lv_at hl 0 rfl) ?_
          refine lv_dup hx hb d_X1_goHour_113 rfl ?_
          refine fm_rgi Z G F hf fr_X1_21 d_X1_goHour_114 (fun x114 _ hf => ?_)
          refine lv_iconst (v := 1) hx hb d_X1_goHour_117 (by decide) ?_
          refine lv_iadd hx hb d_X1_goHour_118 ?_
          refine fm_rpi Z G F hf fs_X1_21 d_X1_goHour_119 (fun c h => by have h := eq_of_beq (show (c == 1) = true from h); subst h; rfl) (fun S119 H locs _ F hf => ?_)
          rw [← hQ]; exact fm_retv Z hr hlk F d_X1_goHour_122 (Option.some.inj hf)
        · have hf := fm_ig c21 hf
          refine lv_aload_n hx hb d_X1_goHour_24 rfl (lv_at hl 0 rfl) ?_
          refine fm_rgr Z G F hf fr_X1_38 d_X1_goHour_25 (fun q25 _ hf => ?_)
          refine lv_aload_n hx hb d_X1_goHour_28 rfl (lv_at hl 0 rfl) ?_
          refine lv_iload_n hx hb d_X1_goHour_29 rfl (lv_at hl 2 rfl) ?_
          refine fm_rcr (rest := []) (a := (Value.ref (ad q25) :: [.ref (ad r0), .int a2]).toArray) G F hf (fun r ho => ?_) (fun x30 H locs _ F hf => ?_)
          · unfold v_growth at ho
            by_cases hv30_0 : kap q25 = 0
            · rw [if_pos hv30_0] at ho
              exact fm_runU (k := 2) Z G F N (As := [.ref (ad r0), .int a2]) (rest := []) (x := (⟨"FrostBids$Pane", "growth", "(LFrostBids$Course;I)I"⟩ : MethodName)) (C := "FrostBids$Church") (owner := "FrostBids$Pane") (c_X0_growth hE ho _) (by rw [hv30_0]; decide) (by rw [hv30_0]; rfl) kw_595 kw_598 kw_596 kw_627 kw_599 kw_600 kw_16 kw_601 ⟨by decide +kernel, by decide +kernel, by decide +kernel⟩ rfl (by decide) (by decide) hl.1 (Nat.le_of_ble_eq_true rfl) d_X1_goHour_30 (Nat.le_refl 0) (Nat.le_refl 0)
            rw [if_neg hv30_0] at ho
            by_cases hv30_2 : kap q25 = 2
            · rw [if_pos hv30_2] at ho
              exact fm_runU (k := 2) Z G F N (As := [.ref (ad r0), .int a2]) (rest := []) (x := (⟨"FrostBids$Pane", "growth", "(LFrostBids$Course;I)I"⟩ : MethodName)) (C := "FrostBids$Jail") (owner := "FrostBids$Pane") (c_X2_growth hE ho _) (by rw [hv30_2]; decide) (by rw [hv30_2]; rfl) kw_595 kw_598 kw_596 kw_627 kw_606 kw_607 kw_15 kw_608 ⟨by decide +kernel, by decide +kernel, by decide +kernel⟩ rfl (by decide) (by decide) hl.1 (Nat.le_of_ble_eq_true rfl) d_X1_goHour_30 (Nat.le_refl 0) (Nat.le_refl 0)
            rw [if_neg hv30_2] at ho
            by_cases hv30_3 : kap q25 = 3
            · rw [if_pos hv30_3] at ho
              exact fm_runU (k := 2) Z G F N (As := [.ref (ad r0), .int a2]) (rest := []) (x := (⟨"FrostBids$Pane", "growth", "(LFrostBids$Course;I)I"⟩ : MethodName)) (C := "FrostBids$Kitchen") (owner := "FrostBids$Pane") (c_X3_growth hE ho _) (by rw [hv30_3]; decide) (by rw [hv30_3]; rfl) kw_595 kw_598 kw_596 kw_627 kw_613 kw_610 kw_12 kw_611 ⟨by decide +kernel, by decide +kernel, by decide +kernel⟩ rfl (by decide) (by decide) hl.1 (Nat.le_of_ble_eq_true rfl) d_X1_goHour_30 (Nat.le_refl 0) (Nat.le_refl 0)
            rw [if_neg hv30_3] at ho
            by_cases hv30_4 : kap q25 = 4
            · rw [if_pos hv30_4] at ho
              exact fm_runU (k := 2) Z G F N (As := [.ref (ad r0), .int a2]) (rest := []) (x := (⟨"FrostBids$Pane", "growth", "(LFrostBids$Course;I)I"⟩ : MethodName)) (C := "FrostBids$Nursery") (owner := "FrostBids$Pane") (c_X4_growth hE ho _) (by rw [hv30_4]; decide) (by rw [hv30_4]; rfl) kw_595 kw_598 kw_596 kw_627 kw_614 kw_603 kw_13 kw_604 ⟨by decide +kernel, by decide +kernel, by decide +kernel⟩ rfl (by decide) (by decide) hl.1 (Nat.le_of_ble_eq_true rfl) d_X1_goHour_30 (Nat.le_refl 0) (Nat.le_refl 0)
            rw [if_neg hv30_4] at ho
            by_cases hv30_5 : kap q25 = 5
            · rw [if_pos hv30_5] at ho
              exact fm_runU (k := 2) Z G F N (As := [.ref (ad r0), .int a2]) (rest := []) (x := (⟨"FrostBids$Pane", "growth", "(LFrostBids$Course;I)I"⟩ : MethodName)) (C := "FrostBids$Pane") (owner := "FrostBids$Pane") (c_X5_growth hE ho _) (by rw [hv30_5]; decide) (by rw [hv30_5]; rfl) kw_595 kw_598 kw_596 kw_627 kw_597 kw_596 kw_11 kw_627 ⟨by decide +kernel, by decide +kernel, by decide +kernel⟩ rfl (by decide) (by decide) hl.1 (Nat.le_of_ble_eq_true rfl) d_X1_goHour_30 (Nat.le_refl 0) (Nat.le_refl 0)
            rw [if_neg hv30_5] at ho
            by_cases hv30_7 : kap q25 = 7
            · rw [if_pos hv30_7] at ho
              exact fm_runU (k := 2) Z G F N (As := [.ref (ad r0), .int a2]) (rest := []) (x := (⟨"FrostBids$Pane", "growth", "(LFrostBids$Course;I)I"⟩ : MethodName)) (C := "FrostBids$Rectory") (owner := "FrostBids$Pane") (c_X7_growth hE ho _) (by rw [hv30_7]; decide) (by rw [hv30_7]; rfl) kw_595 kw_598 kw_596 kw_627 kw_615 kw_616 kw_14 kw_617 ⟨by decide +kernel, by decide +kernel, by decide +kernel⟩ rfl (by decide) (by decide) hl.1 (Nat.le_of_ble_eq_true rfl) d_X1_goHour_30 (Nat.le_refl 0) (Nat.le_refl 0)
            rw [if_neg hv30_7] at ho
            by_cases hv30_9 : kap q25 = 9
            · rw [if_pos hv30_9] at ho
              exact fm_runU (k := 2) Z G F N (As := [.ref (ad r0), .int a2]) (rest := []) (x := (⟨"FrostBids$Pane", "growth", "(LFrostBids$Course;I)I"⟩ : MethodName)) (C := "FrostBids$Told") (owner := "FrostBids$Pane") (c_X9_growth hE ho _) (by rw [hv30_9]; decide) (by rw [hv30_9]; rfl) kw_595 kw_598 kw_596 kw_627 kw_623 kw_624 kw_17 kw_625 ⟨by decide +kernel, by decide +kernel, by decide +kernel⟩ rfl (by decide) (by decide) hl.1 (Nat.le_of_ble_eq_true rfl) d_X1_goHour_30 (Nat.le_refl 0) (Nat.le_refl 0)
            rw [if_neg hv30_9] at ho
            cases ho
          refine lv_istore_n (lv' := [(3, .int x30), (0, .ref (ad r0)), (1, .int a1), (2, .int a2)]) hx hb d_X1_goHour_33 rfl hl (by decide) rfl (fun ls hl => ?_)
          refine lv_aload_n hx hb d_X1_goHour_34 rfl (lv_at hl 1 rfl) ?_
          refine fm_rgi Z G F hf fr_X1_24 d_X1_goHour_35 (fun x35 _ hf => ?_)
          refine lv_iload_n hx hb d_X1_goHour_38 rfl (lv_at hl 3 rfl) ?_
          refine lv_ishr hx hb d_X1_goHour_39 ?_
          refine lv_iconst (v := 1) hx hb d_X1_goHour_40 (by decide) ?_
          refine lv_iand hx hb d_X1_goHour_41 ?_
          refine lv_if_eq (tgt := 49) hx hb d_X1_goHour_42 (by decide) (fun c42 => ?_) (fun c42 => ?_)
          · have hf := fm_ip c42 hf
            refine lv_iconst (v := 0) hx hb d_X1_goHour_49 (by decide) ?_
            exact (ih).2 r0 a1 a2 x30 0 S _ _ _ F (lv_sub hl [1, 2, 3, 0] rfl) hf
          · have hf := fm_ig c42 hf
            refine lv_iconst (v := 1) hx hb d_X1_goHour_45 (by decide) ?_
            refine lv_goto (tgt := 50) hx hb d_X1_goHour_46 (by decide) ?_
            exact (ih).2 r0 a1 a2 x30 1 S _ _ _ F (lv_sub hl [1, 2, 3, 0] rfl) hf
      · intro r0 a1 a2 a3 ak0 S H locs ls F hl hf
        have hf : k_X1_goHour_50 kap lam (b_X1_goHour_18 kap lam n) (b_X1_goHour_50 kap lam n) r0 a1 a2 a3 ak0 S = some u := hf
        unfold k_X1_goHour_50 at hf
        refine lv_istore (lv' := [(4, .int ak0), (0, .ref (ad r0)), (1, .int a1), (2, .int a2), (3, .int a3)]) hx hb d_X1_goHour_50 hl (by decide) rfl (fun ls hl => ?_)
        refine lv_iload hx hb d_X1_goHour_52 (lv_at hl 0 rfl) ?_
        refine lv_if_eq (tgt := 74) hx hb d_X1_goHour_54 (by decide) (fun c54 => ?_) (fun c54 => ?_)
        · have hf := fm_ip c54 hf
          refine lv_iload hx hb d_X1_goHour_74 (lv_at hl 0 rfl) ?_
          refine lv_if_ne (tgt := 101) hx hb d_X1_goHour_76 (by decide) (fun c76 => ?_) (fun c76 => ?_)
          · have hf := fm_ig c76 hf
            obtain ⟨x101, ex101⟩ : ∃ y : Int32, y = a2 + 1 := ⟨_, rfl⟩
            have hf := fm_let_at ex101 hf
            refine lv_iinc (v := x101) (lv' := [(2, .int x101), (4, .int ak0), (0, .ref (ad r0)), (1, .int a1), (3, .int a3)]) hx hb d_X1_goHour_101 hl (k := 3) rfl (by rw [ex101]; rfl) (by decide) rfl (fun ls hl => ?_)
            refine lv_goto (tgt := 18) hx hb d_X1_goHour_104 (by decide) ?_
            exact (ih).1 r0 a1 x101 S _ _ _ F (lv_sub hl [2, 3, 0] rfl) hf
          · have hf := fm_ip c76 hf
            refine lv_iload_n hx hb d_X1_goHour_79 rfl (lv_at hl 4 rfl) ?_
            refine lv_if_le (tgt := 101) hx hb d_X1_goHour_80 (by decide) (fun c80 => ?_) (fun c80 => ?_)
            · have hf := fm_ip c80 hf
              obtain ⟨x101, ex101⟩ : ∃ y : Int32, y = a2 + 1 := ⟨_, rfl⟩
              have hf := fm_let_at ex101 hf
              refine lv_iinc (v := x101) (lv' := [(2, .int x101), (4, .int ak0), (0, .ref (ad r0)), (1, .int a1), (3, .int a3)]) hx hb d_X1_goHour_101 hl (k := 3) rfl (by rw [ex101]; rfl) (by decide) rfl (fun ls hl => ?_)
              refine lv_goto (tgt := 18) hx hb d_X1_goHour_104 (by decide) ?_
              exact (ih).1 r0 a1 x101 S _ _ _ F (lv_sub hl [2, 3, 0] rfl) hf
            · have hf := fm_ig c80 hf
              refine lv_iload_n hx hb d_X1_goHour_83 rfl (lv_at hl 3 rfl) ?_
              refine lv_if_eq (tgt := 95) hx hb d_X1_goHour_84 (by decide) (fun c84 => ?_) (fun c84 => ?_)
              · have hf := fm_ip c84 hf
                refine lv_iload_n hx hb d_X1_goHour_95 rfl (lv_at hl 2 rfl) ?_
                refine lv_iconst (v := 1) hx hb d_X1_goHour_96 (by decide) ?_
                refine lv_iload_n hx hb d_X1_goHour_97 rfl (lv_at hl 3 rfl) ?_
                refine lv_ishl hx hb d_X1_goHour_98 ?_
                refine lv_ior hx hb d_X1_goHour_99 ?_
                refine lv_topi (fun x100 ex100 => ?_)
                have hf := fm_let_at ex100 hf
                refine lv_istore_n (lv' := [(1, .int x100), (4, .int ak0), (0, .ref (ad r0)), (2, .int a2), (3, .int a3)]) hx hb d_X1_goHour_100 rfl hl (by decide) rfl (fun ls hl => ?_)
                obtain ⟨x101, ex101⟩ : ∃ y : Int32, y = a2 + 1 := ⟨_, rfl⟩
                have hf := fm_let_at ex101 hf
                refine lv_iinc (v := x101) (lv' := [(2, .int x101), (1, .int x100), (4, .int ak0), (0, .ref (ad r0)), (3, .int a3)]) hx hb d_X1_goHour_101 hl (k := 3) rfl (by rw [ex101]; rfl) (by decide) rfl (fun ls hl => ?_)
                refine lv_goto (tgt := 18) hx hb d_X1_goHour_104 (by decide) ?_
                exact (ih).1 r0 x100 x101 S _ _ _ F (lv_sub hl [3, 1, 0] rfl) hf
              · have hf := fm_ig c84 hf
                refine lv_aload_n hx hb d_X1_goHour_87 rfl (lv_at hl 1 rfl) ?_
                refine lv_iload_n hx hb d_X1_goHour_88 rfl (lv_at hl 3 rfl) ?_
                obtain ⟨hk89, hf⟩ := fm_some hf
                refine fm_rcr G F hf (fun r ho => fm_runV (k := 1) Z G F N (As := [.int a2]) (rest := []) (c_X1_frozenBeside hE ho _) (by rw [eq_of_beq hk89]; decide) (by rw [eq_of_beq hk89]; rfl) kw_670 kw_620 kw_621 kw_18 kw_622 yd_X1_frozenBeside rfl (by decide) (by decide) hl.1 (Nat.le_of_ble_eq_true rfl) d_X1_goHour_89 (Nat.le_refl 0) (Nat.le_refl 0)) (fun x89 H locs _ F hf => ?_)
                refine lv_if_le (tgt := 101) hx hb d_X1_goHour_92 (by decide) (fun c92 => ?_) (fun c92 => ?_)
                · have hf := fm_ip c92 hf
                  obtain ⟨x101, ex101⟩ : ∃ y : Int32, y = a2 + 1 := ⟨_, rfl⟩
                  have hf := fm_let_at ex101 hf
                  refine lv_iinc (v := x101) (lv' := [(2, .int x101), (4, .int ak0), (0, .ref (ad r0)), (1, .int a1), (3, .int a3)]) hx hb d_X1_goHour_101 hl (k := 3) rfl (by rw [ex101]; rfl) (by decide) rfl (fun ls hl => ?_)
                  refine lv_goto (tgt := 18) hx hb d_X1_goHour_104 (by decide) ?_
                  exact (ih).1 r0 a1 x101 S _ _ _ F (lv_sub hl [2, 3, 0] rfl) hf
                · have hf := fm_ig c92 hf
                  refine lv_iload_n hx hb d_X1_goHour_95 rfl (lv_at hl 2 rfl) ?_
                  refine lv_iconst (v := 1) hx hb d_X1_goHour_96 (by decide) ?_
                  refine lv_iload_n hx hb d_X1_goHour_97 rfl (lv_at hl 3 rfl) ?_
                  refine lv_ishl hx hb d_X1_goHour_98 ?_
                  refine lv_ior hx hb d_X1_goHour_99 ?_
                  refine lv_topi (fun x100 ex100 => ?_)
                  have hf := fm_let_at ex100 hf
                  refine lv_istore_n (lv' := [(1, .int x100), (4, .int ak0), (0, .ref (ad r0)), (2, .int a2), (3, .int a3)]) hx hb d_X1_goHour_100 rfl hl (by decide) rfl (fun ls hl => ?_)
                  obtain ⟨x101, ex101⟩ : ∃ y : Int32, y = a2 + 1 := ⟨_, rfl⟩
                  have hf := fm_let_at ex101 hf
                  refine lv_iinc (v := x101) (lv' := [(2, .int x101), (1, .int x100), (4, .int ak0), (0, .ref (ad r0)), (3, .int a3)]) hx hb d_X1_goHour_101 hl (k := 3) rfl (by rw [ex101]; rfl) (by decide) rfl (fun ls hl => ?_)
                  refine lv_goto (tgt := 18) hx hb d_X1_goHour_104 (by decide) ?_
                  exact (ih).1 r0 x100 x101 S _ _ _ F (lv_sub hl [3, 1, 0] rfl) hf
        · have hf := fm_ig c54 hf
          refine lv_iload_n hx hb d_X1_goHour_57 rfl (lv_at hl 4 rfl) ?_
          refine lv_bipush (v := (-10)) hx hb d_X1_goHour_58 (by decide) ?_
          refine lv_icmp_gt (tgt := 74) hx hb d_X1_goHour_60 (by decide) (fun c60 => ?_) (fun c60 => ?_)
          · have hf := fm_ip c60 hf
            refine lv_iload hx hb d_X1_goHour_74 (lv_at hl 0 rfl) ?_
            refine lv_if_ne (tgt := 101) hx hb d_X1_goHour_76 (by decide) (fun c76 => ?_) (fun c76 => ?_)
            · have hf := fm_ig c76 hf
              obtain ⟨x101, ex101⟩ : ∃ y : Int32, y = a2 + 1 := ⟨_, rfl⟩
              have hf := fm_let_at ex101 hf
              refine lv_iinc (v := x101) (lv' := [(2, .int x101), (4, .int ak0), (0, .ref (ad r0)), (1, .int a1), (3, .int a3)]) hx hb d_X1_goHour_101 hl (k := 3) rfl (by rw [ex101]; rfl) (by decide) rfl (fun ls hl => ?_)
              refine lv_goto (tgt := 18) hx hb d_X1_goHour_104 (by decide) ?_
              exact (ih).1 r0 a1 x101 S _ _ _ F (lv_sub hl [2, 3, 0] rfl) hf
            · have hf := fm_ip c76 hf
              refine lv_iload_n hx hb d_X1_goHour_79 rfl (lv_at hl 4 rfl) ?_
              refine lv_if_le (tgt := 101) hx hb d_X1_goHour_80 (by decide) (fun c80 => ?_) (fun c80 => ?_)
              · have hf := fm_ip c80 hf
                obtain ⟨x101, ex101⟩ : ∃ y : Int32, y = a2 + 1 := ⟨_, rfl⟩
                have hf := fm_let_at ex101 hf
                refine lv_iinc (v := x101) (lv' := [(2, .int x101), (4, .int ak0), (0, .ref (ad r0)), (1, .int a1), (3, .int a3)]) hx hb d_X1_goHour_101 hl (k := 3) rfl (by rw [ex101]; rfl) (by decide) rfl (fun ls hl => ?_)
                refine lv_goto (tgt := 18) hx hb d_X1_goHour_104 (by decide) ?_
                exact (ih).1 r0 a1 x101 S _ _ _ F (lv_sub hl [2, 3, 0] rfl) hf
              · have hf := fm_ig c80 hf
                refine lv_iload_n hx hb d_X1_goHour_83 rfl (lv_at hl 3 rfl) ?_
                refine lv_if_eq (tgt := 95) hx hb d_X1_goHour_84 (by decide) (fun c84 => ?_) (fun c84 => ?_)
                · have hf := fm_ip c84 hf
                  refine lv_iload_n hx hb d_X1_goHour_95 rfl (lv_at hl 2 rfl) ?_
                  refine lv_iconst (v := 1) hx hb d_X1_goHour_96 (by decide) ?_
                  refine lv_iload_n hx hb d_X1_goHour_97 rfl (lv_at hl 3 rfl) ?_
                  refine lv_ishl hx hb d_X1_goHour_98 ?_
                  refine lv_ior hx hb d_X1_goHour_99 ?_
                  refine lv_topi (fun x100 ex100 => ?_)
                  have hf := fm_let_at ex100 hf
                  refine lv_istore_n (lv' := [(1, .int x100), (4, .int ak0), (0, .ref (ad r0)), (2, .int a2), (3, .int a3)]) hx hb d_X1_goHour_100 rfl hl (by decide) rfl (fun ls hl => ?_)
                  obtain ⟨x101, ex101⟩ : ∃ y : Int32, y = a2 + 1 := ⟨_, rfl⟩
                  have hf := fm_let_at ex101 hf
                  refine lv_iinc (v := x101) (lv' := [(2, .int x101), (1, .int x100), (4, .int ak0), (0, .ref (ad r0)), (3, .int a3)]) hx hb d_X1_goHour_101 hl (k := 3) rfl (by rw [ex101]; rfl) (by decide) rfl (fun ls hl => ?_)
                  refine lv_goto (tgt := 18) hx hb d_X1_goHour_104 (by decide) ?_
                  exact (ih).1 r0 x100 x101 S _ _ _ F (lv_sub hl [3, 1, 0] rfl) hf
                · have hf := fm_ig c84 hf
                  refine lv_aload_n hx hb d_X1_goHour_87 rfl (lv_at hl 1 rfl) ?_
                  refine lv_iload_n hx hb d_X1_goHour_88 rfl (lv_at hl 3 rfl) ?_
                  obtain ⟨hk89, hf⟩ := fm_some hf
                  refine fm_rcr G F hf (fun r ho => fm_runV (k := 1) Z G F N (As := [.int a2]) (rest := []) (c_X1_frozenBeside hE ho _) (by rw [eq_of_beq hk89]; decide) (by rw [eq_of_beq hk89]; rfl) kw_670 kw_620 kw_621 kw_18 kw_622 yd_X1_frozenBeside rfl (by decide) (by decide) hl.1 (Nat.le_of_ble_eq_true rfl) d_X1_goHour_89 (Nat.le_refl 0) (Nat.le_refl 0)) (fun x89 H locs _ F hf => ?_)
                  refine lv_if_le (tgt := 101) hx hb d_X1_goHour_92 (by decide) (fun c92 => ?_) (fun c92 => ?_)
                  · have hf := fm_ip c92 hf
                    obtain ⟨x101, ex101⟩ : ∃ y : Int32, y = a2 + 1 := ⟨_, rfl⟩
                    have hf := fm_let_at ex101 hf
                    refine lv_iinc (v := x101) (lv' := [(2, .int x101), (4, .int ak0), (0, .ref (ad r0)), (1, .int a1), (3, .int a3)]) hx hb d_X1_goHour_101 hl (k := 3) rfl (by rw [ex101]; rfl) (by decide) rfl (fun ls hl => ?_)
                    refine lv_goto (tgt := 18) hx hb d_X1_goHour_104 (by decide) ?_
                    exact (ih).1 r0 a1 x101 S _ _ _ F (lv_sub hl [2, 3, 0] rfl) hf
                  · have hf := fm_ig c92 hf
                    refine lv_iload_n hx hb d_X1_goHour_95 rfl (lv_at hl 2 rfl) ?_
                    refine lv_iconst (v := 1) hx hb d_X1_goHour_96 (by decide) ?_
                    refine lv_iload_n hx hb d_X1_goHour_97 rfl (lv_at hl 3 rfl) ?_
                    refine lv_ishl hx hb d_X1_goHour_98 ?_
                    refine lv_ior hx hb d_X1_goHour_99 ?_
                    refine lv_topi (fun x100 ex100 => ?_)
                    have hf := fm_let_at ex100 hf
                    refine lv_istore_n (lv' := [(1, .int x100), (4, .int ak0), (0, .ref (ad r0)), (2, .int a2), (3, .int a3)]) hx hb d_X1_goHour_100 rfl hl (by decide) rfl (fun ls hl => ?_)
                    obtain ⟨x101, ex101⟩ : ∃ y : Int32, y = a2 + 1 := ⟨_, rfl⟩
                    have hf := fm_let_at ex101 hf
                    refine lv_iinc (v := x101) (lv' := [(2, .int x101), (1, .int x100), (4, .int ak0), (0, .ref (ad r0)), (3, .int a3)]) hx hb d_X1_goHour_101 hl (k := 3) rfl (by rw [ex101]; rfl) (by decide) rfl (fun ls hl => ?_)
                    refine lv_goto (tgt := 18) hx hb d_X1_goHour_104 (by decide) ?_
                    exact (ih).1 r0 x100 x101 S _ _ _ F (lv_sub hl [3, 1, 0] rfl) hf
          · have hf := fm_ig c60 hf
            refine lv_iload_n hx hb d_X1_goHour_63 rfl (lv_at hl 2 rfl) ?_
            refine lv_iconst (v := 1) hx hb d_X1_goHour_64 (by decide) ?_
            refine lv_iload_n hx hb d_X1_goHour_65 rfl (lv_at hl 3 rfl) ?_
            refine lv_ishl hx hb d_X1_goHour_66 ?_
            refine lv_iconst (v := (-1)) hx hb d_X1_goHour_67 (by decide) ?_
            refine lv_ixor hx hb d_X1_goHour_68 ?_
            refine lv_iand hx hb d_X1_goHour_69 ?_
            refine lv_topi (fun x70 ex70 => ?_)
            have hf := fm_let_at ex70 hf
            refine lv_istore_n (lv' := [(1, .int x70), (4, .int ak0), (0, .ref (ad r0)), (2, .int a2), (3, .int a3)]) hx hb d_X1_goHour_70 rfl hl (by decide) rfl (fun ls hl => ?_)
            refine lv_goto (tgt := 101) hx hb d_X1_goHour_71 (by decide) ?_
            obtain ⟨x101, ex101⟩ : ∃ y : Int32, y = a2 + 1 := ⟨_, rfl⟩
            have hf := fm_let_at ex101 hf
            refine lv_iinc (v := x101) (lv' := [(2, .int x101), (1, .int x70), (4, .int ak0), (0, .ref (ad r0)), (3, .int a3)]) hx hb d_X1_goHour_101 hl (k := 3) rfl (by rw [ex101]; rfl) (by decide) rfl (fun ls hl => ?_)
            refine lv_goto (tgt := 18) hx hb d_X1_goHour_104 (by decide) ?_
            exact (ih).1 r0 x70 x101 S _ _ _ F (lv_sub hl [3, 1, 0] rfl) hf
  unfold m_X1_goHour at hf
  refine lv_aload_n hx hb d_X1_goHour_0 rfl (lv_at hl 0 rfl) ?_
  refine fm_rgi Z G F hf fr_X1_27 d_X1_goHour_1 (fun x1 _ hf => ?_)
  refine lv_if_ne (tgt := 112) hx hb d_X1_goHour_4 (by decide) (fun c4 => ?_) (fun c4 => ?_)
  · have hf := fm_ig c4 hf
    refine lv_aload_n hx hb d_X1_goHour_112 rfl (lv_at hl 0 rfl) ?_
    refine lv_dup hx hb d_X1_goHour_113 rfl ?_
    refine fm_rgi Z G F hf fr_X1_21 d_X1_goHour_114 (fun x114 _ hf => ?_)
    refine lv_iconst (v := 1) hx hb d_X1_goHour_117 (by decide) ?_
    refine lv_iadd hx hb d_X1_goHour_118 ?_
    refine fm_rpi Z G F hf fs_X1_21 d_X1_goHour_119 (fun c h => by have h := eq_of_beq (show (c == 1) = true from h); subst h; rfl) (fun S119 H locs _ F hf => ?_)
    rw [← hQ]; exact fm_retv Z hr hlk F d_X1_goHour_122 (Option.some.inj hf)
  · have hf := fm_ip c4 hf
    refine lv_aload_n hx hb d_X1_goHour_7 rfl (lv_at hl 0 rfl) ?_
    obtain ⟨hk8, hf⟩ := fm_some hf
    refine fm_rcv G F hf (fun u ho => fm_runV (k := 0) Z G F N (As := []) (rest := []) (c_X1_fillBites hE ho _) (by rw [eq_of_beq hk8]; decide) (by rw [eq_of_beq hk8]; rfl) kw_576 kw_578 kp_12 kw_18 kw_579 yd_X1_fillBites rfl (by decide) (by decide) hl.1 (Nat.le_of_ble_eq_true rfl) d_X1_goHour_8 (Nat.le_refl 0) (Nat.le_refl 0)) (fun S8 H locs _ F hf => ?_)
    refine lv_aload_n hx hb d_X1_goHour_11 rfl (lv_at hl 0 rfl) ?_
    refine fm_rgi Z G F hf fr_X1_24 d_X1_goHour_12 (fun x12 _ hf => ?_)
    refine lv_istore_n (lv' := [(1, .int x12), (0, .ref (ad r0))]) hx hb d_X1_goHour_15 rfl hl (by decide) rfl (fun ls hl => ?_)
    refine lv_iconst (v := 0) hx hb d_X1_goHour_16 (by decide) ?_
    refine lv_topi (fun x17 ex17 => ?_)
    have hf := fm_let_at ex17 hf
    refine lv_istore_n (lv' := [(2, .int x17), (1, .int x12), (0, .ref (ad r0))]) hx hb d_X1_goHour_17 rfl hl (by decide) rfl (fun ls hl => ?_)
    exact (hL fm_LF).1 r0 x12 x17 S8 _ _ _ F (lv_sub hl [2, 1, 0] rfl) hf
theorem d_X1_goHours_0 : decode prog_3_method_6_code 0 = .ok (.iconst 0, 1) := by decide +kernel
theorem d_X1_goHours_1 : decode prog_3_method_6_code 1 = .ok (.istore_n 2, 1) := by decide +kernel
theorem d_X1_goHours_2 : decode prog_3_method_6_code 2 = .ok (.iload_n 2, 1) := by decide +kernel
theorem d_X1_goHours_3 : decode prog_3_method_6_code 3 = .ok (.iload_n 1, 1) := by decide +kernel
theorem d_X1_goHours_4 : decode prog_3_method_6_code 4 = .ok (.if_icmp .ge 13, 3) := by decide +kernel
theorem d_X1_goHours_7 : decode prog_3_method_6_code 7 = .ok (.aload_n 0, 1) := by decide +kernel
theorem d_X1_goHours_8 : decode prog_3_method_6_code 8 = .ok (.invokevirtual 65, 3) := by decide +kernel
theorem d_X1_goHours_11 : decode prog_3_method_6_code 11 = .ok (.iinc 2 1, 3) := by decide +kernel
theorem d_X1_goHours_14 : decode prog_3_method_6_code 14 = .ok (.goto (-12), 3) := by decide +kernel
theorem d_X1_goHours_17 : decode prog_3_method_6_code 17 = .ok (.return_, 1) := by decide +kernel
def k_X1_goHours_2 (kap lam : Nat → Nat) (go2 : Nat → Int32 → Int32 → fm_M → Option fm_M) (r0 : Nat) (a1 : Int32) (a2 : Int32)  (S : fm_M) : Option fm_M :=
  if a1 ≤ a2 then (
   some S
  ) else (
   fm_ck (kap r0 == 1) <|
   fm_b1 (m_X1_goHour kap lam r0 S) fun S8 =>
   fm_let (a2 + 1 : Int32) fun x11 =>
   go2 r0 a1 x11 S8
  )
def b_X1_goHours_2 (kap lam : Nat → Nat) : Nat → Nat → Int32 → Int32 → fm_M → Option fm_M
  | 0 => fun _ _ _ _ => none
  | n + 1 => k_X1_goHours_2 kap lam (b_X1_goHours_2 kap lam n)
def m_X1_goHours (kap lam : Nat → Nat) (r0 : Nat) (a1 : Int32) (S : fm_M) : Option fm_M :=
  fm_let (0 : Int32) fun x1 =>
  b_X1_goHours_2 kap lam fm_LF r0 a1 x1 S
set_option maxHeartbeats 4000000 in
set_option maxRecDepth 100000 in
theorem c_X1_goHours {l : Launch} {D : va_G} {ids kap lam : Nat → Nat} {RL : List Nat} {ad sk sv : Nat → Nat} {S : fm_M} {r0 : Nat} {a1 : Int32} {u : fm_M} (hE : fm_E kap RL ad) (hf : m_X1_goHours kap lam r0 a1 S = some u) (sz : Nat) : fm_MV l y_X1_goHours prog_3_method_6_code 3 (Option.none : Option Jvm.ClassFile.FieldType) 5 D ids kap lam RL ad sk sv S [.ref (ad r0), .int a1] sz u := by
  refine fm_open rfl hE (Nat.le_of_ble_eq_true rfl) (fun p e s m args below meth c ls Z hr hlk G F N hl hsz => ?_)
  subst hsz
  obtain ⟨hx, hb, hml, hown, hts⟩ := id Z
  have hl : lv_has ls 3 [(0, .ref (ad r0)), (1, .int a1)] := hl
  generalize hQ : MQ below _ args s 0 0 (fm_A RL ad s.heap.size) = Qf
  have hL : ∀ n : Nat, (∀ (r0 : Nat) (a1 : Int32) (a2 : Int32)  (S : fm_M) (H : Heap) (locs : List Loc) (ls : Array Slot), fm_F D ids kap lam RL ad S (fm_A RL ad s.heap.size) s.heap H locs → lv_has ls 3 [(0, .ref (ad r0)), (1, .int a1), (2, .int a2)] → b_X1_goHours_2 kap lam n r0 a1 a2 S = some u → W p l e (fm_rm 5) s m args below meth c H locs 0 0 Qf (F0 m 2 ls [])) := by
    intro n
    induction n with
    | zero => exact fun _ _ _ _ _ _ _ _ _ hf => absurd hf (by intro h; cases h)
    | succ n ih =>
      intro r0 a1 a2 S H locs ls F hl hf
      have hf : k_X1_goHours_2 kap lam (b_X1_goHours_2 kap lam n) r0 a1 a2 S = some u := hf
      unfold k_X1_goHours_2 at hf
      refine lv_iload_n hx hb d_X1_goHours_2 rfl (lv_at hl 2 rfl) ?_
      refine lv_iload_n hx hb d_X1_goHours_3 rfl (lv_at hl 1 rfl) ?_
      refine lv_icmp_ge (tgt := 17) hx hb d_X1_goHours_4 (by decide) (fun c4 => ?_) (fun c4 => ?_)
      · have hf := fm_ip c4 hf
        rw [← hQ]; exact fm_retv Z hr hlk F d_X1_goHours_17 (Option.some.inj hf)
      · have hf := fm_ig c4 hf
        refine lv_aload_n hx hb d_X1_goHours_7 rfl (lv_at hl 0 rfl) ?_
        obtain ⟨hk8, hf⟩ := fm_some hf
        refine fm_rcv G F hf (fun u ho => fm_runV (k := 0) Z G F N (As := []) (rest := []) (c_X1_goHour hE ho _) (by rw [eq_of_beq hk8]; decide) (by rw [eq_of_beq hk8]; rfl) kw_666 kw_667 kw_668 kw_18 kw_669 yd_X1_goHour rfl (by decide) (by decide) hl.1 (Nat.le_of_ble_eq_true rfl) d_X1_goHours_8 (Nat.le_refl 0) (Nat.le_refl 0)) (fun S8 H locs _ F hf => ?_)
        obtain ⟨x11, ex11⟩ : ∃ y : Int32, y = a2 + 1 := ⟨_, rfl⟩
        have hf := fm_let_at ex11 hf
        refine lv_iinc (v := x11) (lv' := [(2, .int x11), (0, .ref (ad r0)), (1, .int a1)]) hx hb d_X1_goHours_11 hl (k := 2) rfl (by rw [ex11]; rfl) (by decide) rfl (fun ls hl => ?_)
        refine lv_goto (tgt := 2) hx hb d_X1_goHours_14 (by decide) ?_
        exact ih r0 a1 x11 S8 _ _ _ F (lv_sub hl [1, 2, 0] rfl) hf
  unfold m_X1_goHours at hf
  refine lv_iconst (v := 0) hx hb d_X1_goHours_0 (by decide) ?_
  refine lv_topi (fun x1 ex1 => ?_)
  have hf := fm_let_at ex1 hf
  refine lv_istore_n (lv' := [(2, .int x1), (0, .ref (ad r0)), (1, .int a1)]) hx hb d_X1_goHours_1 rfl hl (by decide) rfl (fun ls hl => ?_)
  exact (hL fm_LF) r0 a1 x1 S _ _ _ F (lv_sub hl [1, 2, 0] rfl) hf
theorem d_X1_breath_0 : decode prog_3_method_10_code 0 = .ok (.aload_n 0, 1) := by decide +kernel
theorem d_X1_breath_1 : decode prog_3_method_10_code 1 = .ok (.invokevirtual 87, 3) := by decide +kernel
theorem d_X1_breath_4 : decode prog_3_method_10_code 4 = .ok (.istore_n 1, 1) := by decide +kernel
theorem d_X1_breath_5 : decode prog_3_method_10_code 5 = .ok (.aload_n 0, 1) := by decide +kernel
theorem d_X1_breath_6 : decode prog_3_method_10_code 6 = .ok (.iconst 0, 1) := by decide +kernel
theorem d_X1_breath_7 : decode prog_3_method_10_code 7 = .ok (.putfield 24, 3) := by decide +kernel
theorem d_X1_breath_10 : decode prog_3_method_10_code 10 = .ok (.iload_n 1, 1) := by decide +kernel
theorem d_X1_breath_11 : decode prog_3_method_10_code 11 = .ok (.ireturn, 1) := by decide +kernel
def m_X1_breath (kap lam : Nat → Nat) (r0 : Nat) (S : fm_M) : Option (Int32 × fm_M) :=
  fm_ck (kap r0 == 1) <|
  fm_b1 (m_X1_offer kap lam r0 S) fun x1 =>
  fm_pi kap 1 r0 6 S 0 fun S7 =>
  some (x1, S7)
set_option maxHeartbeats 4000000 in
set_option maxRecDepth 100000 in
theorem c_X1_breath {l : Launch} {D : va_G} {ids kap lam : Nat → Nat} {RL : List Nat} {ad sk sv : Nat → Nat} {S : fm_M} {r0 : Nat} {r : Int32} {u : fm_M} (hE : fm_E kap RL ad) (hf : m_X1_breath kap lam r0 S = some (r, u)) (sz : Nat) : fm_MI l y_X1_breath prog_3_method_10_code 2 (Option.some Jvm.ClassFile.FieldType.int) 3 D ids kap lam RL ad sk sv S [.ref (ad r0)] sz r u := by
  refine fm_open rfl hE (Nat.le_of_ble_eq_true rfl) (fun p e s m args below meth c ls Z hr hlk G F N hl hsz => ?_)
  subst hsz
  obtain ⟨hx, hb, hml, hown, hts⟩ := id Z
  have hl : lv_has ls 2 [(0, .ref (ad r0))] := hl
  unfold m_X1_breath at hf
  refine lv_aload_n hx hb d_X1_breath_0 rfl (lv_at hl 0 rfl) ?_
  obtain ⟨hk1, hf⟩ := fm_some hf
  refine fm_rcr G F hf (fun r ho => fm_runV (k := 0) Z G F N (As := []) (rest := []) (c_X1_offer hE ho _) (by rw [eq_of_beq hk1]; decide) (by rw [eq_of_beq hk1]; rfl) kw_721 kw_672 kw_673 kw_18 kw_674 yd_X1_offer rfl (by decide) (by decide) hl.1 (Nat.le_of_ble_eq_true rfl) d_X1_breath_1 (Nat.le_refl 0) (Nat.le_refl 0)) (fun x1 H locs _ F hf => ?_)
  refine lv_istore_n (lv' := [(1, .int x1), (0, .ref (ad r0))]) hx hb d_X1_breath_4 rfl hl (by decide) rfl (fun ls hl => ?_)
  refine lv_aload_n hx hb d_X1_breath_5 rfl (lv_at hl 1 rfl) ?_
  refine lv_iconst (v := 0) hx hb d_X1_breath_6 (by decide) ?_
  refine fm_rpi Z G F hf fs_X1_24 d_X1_breath_7 (fun c h => by have h := eq_of_beq (show (c == 1) = true from h); subst h; rfl) (fun S7 H locs _ F hf => ?_)
  refine lv_iload_n hx hb d_X1_breath_10 rfl (lv_at hl 0 rfl) ?_
  exact fm_reti Z hr hlk F d_X1_breath_11 (Prod.mk.inj (Option.some.inj hf)).1 (Prod.mk.inj (Option.some.inj hf)).2
theorem d_X1_goBreathed_0 : decode prog_3_method_8_code 0 = .ok (.iconst 0, 1) := by decide +kernel
theorem d_X1_goBreathed_1 : decode prog_3_method_8_code 1 = .ok (.istore_n 3, 1) := by decide +kernel
theorem d_X1_goBreathed_2 : decode prog_3_method_8_code 2 = .ok (.iconst 0, 1) := by decide +kernel
theorem d_X1_goBreathed_3 : decode prog_3_method_8_code 3 = .ok (.istore 4, 2) := by decide +kernel
theorem d_X1_goBreathed_5 : decode prog_3_method_8_code 5 = .ok (.iload 4, 2) := by decide +kernel
theorem d_X1_goBreathed_7 : decode prog_3_method_8_code 7 = .ok (.iload_n 1, 1) := by decide +kernel
theorem d_X1_goBreathed_8 : decode prog_3_method_8_code 8 = .ok (.if_icmp .ge 29, 3) := by decide +kernel
theorem d_X1_goBreathed_11 : decode prog_3_method_8_code 11 = .ok (.iload_n 2, 1) := by decide +kernel
theorem d_X1_goBreathed_12 : decode prog_3_method_8_code 12 = .ok (.iload 4, 2) := by decide +kernel
theorem d_X1_goBreathed_14 : decode prog_3_method_8_code 14 = .ok (.ishr, 1) := by decide +kernel
theorem d_X1_goBreathed_15 : decode prog_3_method_8_code 15 = .ok (.iconst 1, 1) := by decide +kernel
theorem d_X1_goBreathed_16 : decode prog_3_method_8_code 16 = .ok (.iand, 1) := by decide +kernel
theorem d_X1_goBreathed_17 : decode prog_3_method_8_code 17 = .ok (.ifCond .eq 10, 3) := by decide +kernel
theorem d_X1_goBreathed_20 : decode prog_3_method_8_code 20 = .ok (.iload_n 3, 1) := by decide +kernel
theorem d_X1_goBreathed_21 : decode prog_3_method_8_code 21 = .ok (.aload_n 0, 1) := by decide +kernel
theorem d_X1_goBreathed_22 : decode prog_3_method_8_code 22 = .ok (.invokevirtual 71, 3) := by decide +kernel
theorem d_X1_goBreathed_25 : decode prog_3_method_8_code 25 = .ok (.iadd, 1) := by decide +kernel
theorem d_X1_goBreathed_26 : decode prog_3_method_8_code 26 = .ok (.istore_n 3, 1) := by decide +kernel
theorem d_X1_goBreathed_27 : decode prog_3_method_8_code 27 = .ok (.aload_n 0, 1) := by decide +kernel
theorem d_X1_goBreathed_28 : decode prog_3_method_8_code 28 = .ok (.invokevirtual 65, 3) := by decide +kernel
theorem d_X1_goBreathed_31 : decode prog_3_method_8_code 31 = .ok (.iinc 4 1, 3) := by decide +kernel
theorem d_X1_goBreathed_34 : decode prog_3_method_8_code 34 = .ok (.goto (-29), 3) := by decide +kernel
theorem d_X1_goBreathed_37 : decode prog_3_method_8_code 37 = .ok (.iload_n 3, 1) := by decide +kernel
theorem d_X1_goBreathed_38 : decode prog_3_method_8_code 38 = .ok (.ireturn, 1) := by decide +kernel
def k_X1_goBreathed_5 (kap lam : Nat → Nat) (go5 : Nat → Int32 → Int32 → Int32 → Int32 → fm_M → Option (Int32 × fm_M)) (r0 : Nat) (a1 : Int32) (a2 : Int32) (a3 : Int32) (a4 : Int32)  (S : fm_M) : Option (Int32 × fm_M) :=
  if a1 ≤ a4 then (
   some (a3, S)
  ) else (
   if ((a2 >>> (a4 &&& 31)) &&& 1) = 0 then (
    fm_ck (kap r0 == 1) <|
    fm_b1 (m_X1_goHour kap lam r0 S) fun S28 =>
    fm_let (a4 + 1 : Int32) fun x31 =>
    go5 r0 a1 a2 a3 x31 S28
   ) else (
    fm_ck (kap r0 == 1) <|
    fm_bi (m_X1_breath kap lam r0 S) fun x22 S22 =>
    fm_let (a3 + x22 : Int32) fun x26 =>
    fm_ck (kap r0 == 1) <|
    fm_b1 (m_X1_goHour kap lam r0 S22) fun S28 =>
    fm_let (a4 + 1 : Int32) fun x31 =>
    go5 r0 a1 a2 x26 x31 S28
   )
  )
def b_X1_goBreathed_5 (kap lam : Nat → Nat) : Nat → Nat → Int32 → Int32 → Int32 → Int32 → fm_M → Option (Int32 × fm_M)
  | 0 => fun _ _ _ _ _ _ => none
  | n + 1 => k_X1_goBreathed_5 kap lam (b_X1_goBreathed_5 kap lam n)
def m_X1_goBreathed (kap lam : Nat → Nat) (r0 : Nat) (a1 : Int32) (a2 : Int32) (S : fm_M) : Option (Int32 × fm_M) :=
  fm_let (0 : Int32) fun x1 =>
  fm_let (0 : Int32) fun x3 =>
  b_X1_goBreathed_5 kap lam fm_LF r0 a1 a2 x1 x3 S
set_option maxHeartbeats 4000000 in
set_option maxRecDepth 100000 in
theorem c_X1_goBreathed {l : Launch} {D : va_G} {ids kap lam : Nat → Nat} {RL : List Nat} {ad sk sv : Nat → Nat} {S : fm_M} {r0 : Nat} {a1 : Int32} {a2 : Int32} {r : Int32} {u : fm_M} (hE : fm_E kap RL ad) (hf : m_X1_goBreathed kap lam r0 a1 a2 S = some (r, u)) (sz : Nat) : fm_MI l y_X1_goBreathed prog_3_method_8_code 5 (Option.some Jvm.ClassFile.FieldType.int) 5 D ids kap lam RL ad sk sv S [.ref (ad r0), .int a1, .int a2] sz r u := by
  refine fm_open rfl hE (Nat.le_of_ble_eq_true rfl) (fun p e s m args below meth c ls Z hr hlk G F N hl hsz => ?_)
  subst hsz
  obtain ⟨hx, hb, hml, hown, hts⟩ := id Z
  have hl : lv_has ls 5 [(0, .ref (ad r0)), (1, .int a1), (2, .int a2)] := hl
  generalize hQ : MQ below _ args s 0 0 (fm_A RL ad s.heap.size) = Qf
  have hL : ∀ n : Nat, (∀ (r0 : Nat) (a1 : Int32) (a2 : Int32) (a3 : Int32) (a4 : Int32)  (S : fm_M) (H : Heap) (locs : List Loc) (ls : Array Slot), fm_F D ids kap lam RL ad S (fm_A RL ad s.heap.size) s.heap H locs → lv_has ls 5 [(0, .ref (ad r0)), (1, .int a1), (2, .int a2), (3, .int a3), (4, .int a4)] → b_X1_goBreathed_5 kap lam n r0 a1 a2 a3 a4 S = some (r, u) → W p l e (fm_rm 5) s m args below meth c H locs 0 0 Qf (F0 m 5 ls [])) := by
    intro n
    induction n with
    | zero => exact fun _ _ _ _ _ _ _ _ _ _ _ hf => absurd hf (by intro h; cases h)
    | succ n ih =>
      intro r0 a1 a2 a3 a4 S H locs ls F hl hf
      have hf : k_X1_goBreathed_5 kap lam (b_X1_goBreathed_5 kap lam n) r0 a1 a2 a3 a4 S = some (r, u) := hf
      unfold k_X1_goBreathed_5 at hf
      refine lv_iload hx hb d_X1_goBreathed_5 (lv_at hl 4 rfl) ?_
      refine lv_iload_n hx hb d_X1_goBreathed_7 rfl (lv_at hl 1 rfl) ?_
      refine lv_icmp_ge (tgt := 37) hx hb d_X1_goBreathed_8 (by decide) (fun c8 => ?_) (fun c8 => ?_)
      · have hf := fm_ip c8 hf
        refine lv_iload_n hx hb d_X1_goBreathed_37 rfl (lv_at hl 3 rfl) ?_
        rw [← hQ]; exact fm_reti Z hr hlk F d_X1_goBreathed_38 (Prod.mk.inj (Option.some.inj hf)).1 (Prod.mk.inj (Option.some.inj hf)).2
      · have hf := fm_ig c8 hf
        refine lv_iload_n hx hb d_X1_goBreathed_11 rfl (lv_at hl 2 rfl) ?_
        refine lv_iload hx hb d_X1_goBreathed_12 (lv_at hl 4 rfl) ?_
        refine lv_ishr hx hb d_X1_goBreathed_14 ?_
        refine lv_iconst (v := 1) hx hb d_X1_goBreathed_15 (by decide) ?_
        refine lv_iand hx hb d_X1_goBreathed_16 ?_
        refine lv_if_eq (tgt := 27) hx hb d_X1_goBreathed_17 (by decide) (fun c17 => ?_) (fun c17 => ?_)
        · have hf := fm_ip c17 hf
          refine lv_aload_n hx hb d_X1_goBreathed_27 rfl (lv_at hl 0 rfl) ?_
          obtain ⟨hk28, hf⟩ := fm_some hf
          refine fm_rcv G F hf (fun u ho => fm_runV (k := 0) Z G F N (As := []) (rest := []) (c_X1_goHour hE ho _) (by rw [eq_of_beq hk28]; decide) (by rw [eq_of_beq hk28]; rfl) kw_666 kw_667 kw_668 kw_18 kw_669 yd_X1_goHour rfl (by decide) (by decide) hl.1 (Nat.le_of_ble_eq_true rfl) d_X1_goBreathed_28 (Nat.le_refl 0) (Nat.le_refl 0)) (fun S28 H locs _ F hf => ?_)
          obtain ⟨x31, ex31⟩ : ∃ y : Int32, y = a4 + 1 := ⟨_, rfl⟩
          have hf := fm_let_at ex31 hf
          refine lv_iinc (v := x31) (lv' := [(4, .int x31), (0, .ref (ad r0)), (1, .int a1), (2, .int a2), (3, .int a3)]) hx hb d_X1_goBreathed_31 hl (k := 4) rfl (by rw [ex31]; rfl) (by decide) rfl (fun ls hl => ?_)
          refine lv_goto (tgt := 5) hx hb d_X1_goBreathed_34 (by decide) ?_
          exact ih r0 a1 a2 a3 x31 S28 _ _ _ F (lv_sub hl [1, 2, 3, 4, 0] rfl) hf
        · have hf := fm_ig c17 hf
          refine lv_iload_n hx hb d_X1_goBreathed_20 rfl (lv_at hl 3 rfl) ?_
          refine lv_aload_n hx hb d_X1_goBreathed_21 rfl (lv_at hl 0 rfl) ?_
          obtain ⟨hk22, hf⟩ := fm_some hf
          refine fm_rci G F hf (fun r u ho => fm_runV (k := 0) Z G F N (As := []) (rest := [.int a3]) (c_X1_breath hE ho _) (by rw [eq_of_beq hk22]; decide) (by rw [eq_of_beq hk22]; rfl) kw_717 kw_719 kp_20 kw_18 kw_720 yd_X1_breath rfl (by decide) (by decide) hl.1 (Nat.le_of_ble_eq_true rfl) d_X1_goBreathed_22 (Nat.le_refl 0) (Nat.le_refl 0)) (fun x22 S22 H locs _ F hf => ?_)
          refine lv_iadd hx hb d_X1_goBreathed_25 ?_
          refine lv_topi (fun x26 ex26 => ?_)
          have hf := fm_let_at ex26 hf
          refine lv_istore_n (lv' := [(3, .int x26), (0, .ref (ad r0)), (1, .int a1), (2, .int a2), (4, .int a4)]) hx hb d_X1_goBreathed_26 rfl hl (by decide) rfl (fun ls hl => ?_)
          refine lv_aload_n hx hb d_X1_goBreathed_27 rfl (lv_at hl 1 rfl) ?_
          obtain ⟨hk28, hf⟩ := fm_some hf
          refine fm_rcv G F hf (fun u ho => fm_runV (k := 0) Z G F N (As := []) (rest := []) (c_X1_goHour hE ho _) (by rw [eq_of_beq hk28]; decide) (by rw [eq_of_beq hk28]; rfl) kw_666 kw_667 kw_668 kw_18 kw_669 yd_X1_goHour rfl (by decide) (by decide) hl.1 (Nat.le_of_ble_eq_true rfl) d_X1_goBreathed_28 (Nat.le_refl 0) (Nat.le_refl 0)) (fun S28 H locs _ F hf => ?_)
          obtain ⟨x31, ex31⟩ : ∃ y : Int32, y = a4 + 1 := ⟨_, rfl⟩
          have hf := fm_let_at ex31 hf
          refine lv_iinc (v := x31) (lv' := [(4, .int x31), (3, .int x26), (0, .ref (ad r0)), (1, .int a1), (2, .int a2)]) hx hb d_X1_goBreathed_31 hl (k := 4) rfl (by rw [ex31]; rfl) (by decide) rfl (fun ls hl => ?_)
          refine lv_goto (tgt := 5) hx hb d_X1_goBreathed_34 (by decide) ?_
          exact ih r0 a1 a2 x26 x31 S28 _ _ _ F (lv_sub hl [2, 3, 4, 1, 0] rfl) hf
  unfold m_X1_goBreathed at hf
  refine lv_iconst (v := 0) hx hb d_X1_goBreathed_0 (by decide) ?_
  refine lv_topi (fun x1 ex1 => ?_)
  have hf := fm_let_at ex1 hf
  refine lv_istore_n (lv' := [(3, .int x1), (0, .ref (ad r0)), (1, .int a1), (2, .int a2)]) hx hb d_X1_goBreathed_1 rfl hl (by decide) rfl (fun ls hl => ?_)
  refine lv_iconst (v := 0) hx hb d_X1_goBreathed_2 (by decide) ?_
  refine lv_topi (fun x3 ex3 => ?_)
  have hf := fm_let_at ex3 hf
  refine lv_istore (lv' := [(4, .int x3), (3, .int x1), (0, .ref (ad r0)), (1, .int a1), (2, .int a2)]) hx hb d_X1_goBreathed_3 hl (by decide) rfl (fun ls hl => ?_)
  exact (hL fm_LF) r0 a1 a2 x1 x3 S _ _ _ F (lv_sub hl [2, 3, 4, 1, 0] rfl) hf
theorem d_X1_goPlan_0 : decode prog_3_method_9_code 0 = .ok (.iconst 0, 1) := by decide +kernel
theorem d_X1_goPlan_1 : decode prog_3_method_9_code 1 = .ok (.istore_n 2, 1) := by decide +kernel
theorem d_X1_goPlan_2 : decode prog_3_method_9_code 2 = .ok (.iconst 0, 1) := by decide +kernel
theorem d_X1_goPlan_3 : decode prog_3_method_9_code 3 = .ok (.istore_n 3, 1) := by decide +kernel
theorem d_X1_goPlan_4 : decode prog_3_method_9_code 4 = .ok (.iload_n 3, 1) := by decide +kernel
theorem d_X1_goPlan_5 : decode prog_3_method_9_code 5 = .ok (.aload_n 1, 1) := by decide +kernel
theorem d_X1_goPlan_6 : decode prog_3_method_9_code 6 = .ok (.invokevirtual 75, 3) := by decide +kernel
theorem d_X1_goPlan_9 : decode prog_3_method_9_code 9 = .ok (.if_icmp .ge 76, 3) := by decide +kernel
theorem d_X1_goPlan_12 : decode prog_3_method_9_code 12 = .ok (.aload_n 1, 1) := by decide +kernel
theorem d_X1_goPlan_13 : decode prog_3_method_9_code 13 = .ok (.iload_n 3, 1) := by decide +kernel
theorem d_X1_goPlan_14 : decode prog_3_method_9_code 14 = .ok (.iconst 0, 1) := by decide +kernel
theorem d_X1_goPlan_15 : decode prog_3_method_9_code 15 = .ok (.invokevirtual 80, 3) := by decide +kernel
theorem d_X1_goPlan_18 : decode prog_3_method_9_code 18 = .ok (.istore 4, 2) := by decide +kernel
theorem d_X1_goPlan_20 : decode prog_3_method_9_code 20 = .ok (.iload 4, 2) := by decide +kernel
theorem d_X1_goPlan_22 : decode prog_3_method_9_code 22 = .ok (.ifCond .ne 10, 3) := by decide +kernel
theorem d_X1_goPlan_25 : decode prog_3_method_9_code 25 = .ok (.aload_n 0, 1) := by decide +kernel
theorem d_X1_goPlan_26 : decode prog_3_method_9_code 26 = .ok (.invokevirtual 65, 3) := by decide +kernel
theorem d_X1_goPlan_29 : decode prog_3_method_9_code 29 = .ok (.goto 50, 3) := by decide +kernel
theorem d_X1_goPlan_32 : decode prog_3_method_9_code 32 = .ok (.aload_n 1, 1) := by decide +kernel
theorem d_X1_goPlan_33 : decode prog_3_method_9_code 33 = .ok (.iload_n 3, 1) := by decide +kernel
theorem d_X1_goPlan_34 : decode prog_3_method_9_code 34 = .ok (.iconst 1, 1) := by decide +kernel
theorem d_X1_goPlan_35 : decode prog_3_method_9_code 35 = .ok (.invokevirtual 80, 3) := by decide +kernel
theorem d_X1_goPlan_38 : decode prog_3_method_9_code 38 = .ok (.aload_n 0, 1) := by decide +kernel
theorem d_X1_goPlan_39 : decode prog_3_method_9_code 39 = .ok (.getfield 38, 3) := by decide +kernel
theorem d_X1_goPlan_42 : decode prog_3_method_9_code 42 = .ok (.getfield 84, 3) := by decide +kernel
theorem d_X1_goPlan_45 : decode prog_3_method_9_code 45 = .ok (.if_icmp .ne 34, 3) := by decide +kernel
theorem d_X1_goPlan_48 : decode prog_3_method_9_code 48 = .ok (.iload 4, 2) := by decide +kernel
theorem d_X1_goPlan_50 : decode prog_3_method_9_code 50 = .ok (.iconst 1, 1) := by decide +kernel
theorem d_X1_goPlan_51 : decode prog_3_method_9_code 51 = .ok (.if_icmp .ne 13, 3) := by decide +kernel
theorem d_X1_goPlan_54 : decode prog_3_method_9_code 54 = .ok (.iload_n 2, 1) := by decide +kernel
theorem d_X1_goPlan_55 : decode prog_3_method_9_code 55 = .ok (.aload_n 0, 1) := by decide +kernel
theorem d_X1_goPlan_56 : decode prog_3_method_9_code 56 = .ok (.invokevirtual 71, 3) := by decide +kernel
theorem d_X1_goPlan_59 : decode prog_3_method_9_code 59 = .ok (.iadd, 1) := by decide +kernel
theorem d_X1_goPlan_60 : decode prog_3_method_9_code 60 = .ok (.istore_n 2, 1) := by decide +kernel
theorem d_X1_goPlan_61 : decode prog_3_method_9_code 61 = .ok (.goto 18, 3) := by decide +kernel
theorem d_X1_goPlan_64 : decode prog_3_method_9_code 64 = .ok (.aload_n 0, 1) := by decide +kernel
theorem d_X1_goPlan_65 : decode prog_3_method_9_code 65 = .ok (.iload 4, 2) := by decide +kernel
theorem d_X1_goPlan_67 : decode prog_3_method_9_code 67 = .ok (.iconst 2, 1) := by decide +kernel
theorem d_X1_goPlan_68 : decode prog_3_method_9_code 68 = .ok (.if_icmp .ne 7, 3) := by decide +kernel
theorem d_X1_goPlan_71 : decode prog_3_method_9_code 71 = .ok (.iconst 1, 1) := by decide +kernel
theorem d_X1_goPlan_72 : decode prog_3_method_9_code 72 = .ok (.goto 4, 3) := by decide +kernel
theorem d_X1_goPlan_75 : decode prog_3_method_9_code 75 = .ok (.iconst 0, 1) := by decide +kernel
theorem d_X1_goPlan_76 : decode prog_3_method_9_code 76 = .ok (.putfield 27, 3) := by decide +kernel
theorem d_X1_goPlan_79 : decode prog_3_method_9_code 79 = .ok (.iinc 3 1, 3) := by decide +kernel
theorem d_X1_goPlan_82 : decode prog_3_method_9_code 82 = .ok (.goto (-78), 3) := by decide +kernel
theorem d_X1_goPlan_85 : decode prog_3_method_9_code 85 = .ok (.iload_n 2, 1) := by decide +kernel
theorem d_X1_goPlan_86 : decode prog_3_method_9_code 86 = .ok (.ireturn, 1) := by decide +kernel
def k_X1_goPlan_4 (kap lam : Nat → Nat) (go4 : Nat → Nat → Int32 → Int32 → fm_M → Option (Int32 × fm_M)) (r0 : Nat) (r1 : Nat) (a2 : Int32) (a3 : Int32)  (S : fm_M) : Option (Int32 × fm_M) :=
  fm_ck (kap r1 == 8) <|
  fm_b1 (m_X8_size kap lam r1 S) fun x6 =>
  if x6 ≤ a3 then (
   some (a2, S)
  ) else (
   fm_ck (kap r1 == 8) <|
   fm_b1 (m_X8_at kap lam r1 a3 0 S) fun x15 =>
   if x15 = 0 then (
    fm_ck (kap r0 == 1) <|
    fm_b1 (m_X1_goHour kap lam r0 S) fun S26 =>
    fm_let (a3 + 1 : Int32) fun x79 =>
    go4 r0 r1 a2 x79 S26
   ) else (
    fm_ck (kap r1 == 8) <|
    fm_b1 (m_X8_at kap lam r1 a3 1 S) fun x35 =>
    fm_gr kap 1 r0 0 S fun q39 =>
    fm_gi kap 5 q39 1 S fun x42 =>
    if x35 = x42 then (
     if x15 = 1 then (
      fm_ck (kap r0 == 1) <|
      fm_bi (m_X1_breath kap lam r0 S) fun x56 S56 =>
      fm_let (a2 + x56 : Int32) fun x60 =>
      fm_let (a3 + 1 : Int32) fun x79 =>
      go4 r0 r1 x60 x79 S56
     ) else (
      if x15 = 2 then (
       fm_pz kap 1 r0 7 S 1 fun S76 =>
       fm_let (a3 + 1 : Int32) fun x79 =>
       go4 r0 r1 a2 x79 S76
      ) else (
       fm_pz kap 1 r0 7 S 0 fun S76 =>
       fm_let (a3 + 1 : Int32) fun x79 =>
       go4 r0 r1 a2 x79 S76
      )
     )
    ) else (
     fm_let (a3 + 1 : Int32) fun x79 =>
     go4 r0 r1 a2 x79 S
    )
   )
  )
def b_X1_goPlan_4 (kap lam : Nat → Nat) : Nat → Nat → Nat → Int32 → Int32 → fm_M → Option (Int32 × fm_M)
  | 0 => fun _ _ _ _ _ => none
  | n + 1 => k_X1_goPlan_4 kap lam (b_X1_goPlan_4 kap lam n)
def m_X1_goPlan (kap lam : Nat → Nat) (r0 : Nat) (r1 : Nat) (S : fm_M) : Option (Int32 × fm_M) :=
  fm_let (0 : Int32) fun x1 =>
  fm_let (0 : Int32) fun x3 =>
  b_X1_goPlan_4 kap lam fm_LF r0 r1 x1 x3 S
set_option maxHeartbeats 4000000 in
set_option maxRecDepth 100000 in
theorem c_X1_goPlan {l : Launch} {D : va_G} {ids kap lam : Nat → Nat} {RL : List Nat} {ad sk sv : Nat → Nat} {S : fm_M} {r0 : Nat} {r1 : Nat} {r : Int32} {u : fm_M} (hE : fm_E kap RL ad) (hf : m_X1_goPlan kap lam r0 r1 S = some (r, u)) (sz : Nat) : fm_MI l y_X1_goPlan prog_3_method_9_code 5 (Option.some Jvm.ClassFile.FieldType.int) 5 D ids kap lam RL ad sk sv S [.ref (ad r0), .ref (ad r1)] sz r u := by
  refine fm_open rfl hE (Nat.le_of_ble_eq_true rfl) (fun p e s m args below meth c ls Z hr hlk G F N hl hsz => ?_)
  subst hsz
  obtain ⟨hx, hb, hml, hown, hts⟩ := id Z
  have hl : lv_has ls 5 [(0, .ref (ad r0)), (1, .ref (ad r1))] := hl
  generalize hQ : MQ below _ args s 0 0 (fm_A RL ad s.heap.size) = Qf
  have hL : ∀ n : Nat, (∀ (r0 : Nat) (r1 : Nat) (a2 : Int32) (a3 : Int32)  (S : fm_M) (H : Heap) (locs : List Loc) (ls : Array Slot), fm_F D ids kap lam RL ad S (fm_A RL ad s.heap.size) s.heap H locs → lv_has ls 5 [(0, .ref (ad r0)), (1, .ref (ad r1)), (2, .int a2), (3, .int a3)] → b_X1_goPlan_4 kap lam n r0 r1 a2 a3 S = some (r, u) → W p l e (fm_rm 5) s m args below meth c H locs 0 0 Qf (F0 m 4 ls [])) := by
    intro n
    induction n with
    | zero => exact fun _ _ _ _ _ _ _ _ _ _ hf => absurd hf (by intro h; cases h)
    | succ n ih =>
      intro r0 r1 a2 a3 S H locs ls F hl hf
      have hf : k_X1_goPlan_4 kap lam (b_X1_goPlan_4 kap lam n) r0 r1 a2 a3 S = some (r, u) := hf
      unfold k_X1_goPlan_4 at hf
      refine lv_iload_n hx hb d_X1_goPlan_4 rfl (lv_at hl 3 rfl) ?_
      refine lv_aload_n hx hb d_X1_goPlan_5 rfl (lv_at hl 1 rfl) ?_
      obtain ⟨hk6, hf⟩ := fm_some hf
      refine fm_rcr G F hf (fun r ho => fm_runV (k := 0) Z G F N (As := []) (rest := [.int a3]) (c_X8_size hE ho _) (by rw [eq_of_beq hk6]; decide) (by rw [eq_of_beq hk6]; rfl) kw_779 kw_194 kw_195 kw_3 kw_196 yd_X8_size rfl (by decide) (by decide) hl.1 (Nat.le_of_ble_eq_true rfl) d_X1_goPlan_6 (Nat.le_refl 0) (Nat.le_refl 0)) (fun x6 H locs _ F hf => ?_)
      refine lv_icmp_ge (tgt := 85) hx hb d_X1_goPlan_9 (by decide) (fun c9 => ?_) (fun c9 => ?_)
      · have hf := fm_ip c9 hf
        refine lv_iload_n hx hb d_X1_goPlan_85 rfl (lv_at hl 2 rfl) ?_
        rw [← hQ]; exact fm_reti Z hr hlk F d_X1_goPlan_86 (Prod.mk.inj (Option.some.inj hf)).1 (Prod.mk.inj (Option.some.inj hf)).2
      · have hf := fm_ig c9 hf
        refine lv_aload_n hx hb d_X1_goPlan_12 rfl (lv_at hl 1 rfl) ?_
        refine lv_iload_n hx hb d_X1_goPlan_13 rfl (lv_at hl 3 rfl) ?_
        refine lv_iconst (v := 0) hx hb d_X1_goPlan_14 (by decide) ?_
        obtain ⟨hk15, hf⟩ := fm_some hf
        refine fm_rcr G F hf (fun r ho => fm_runV (k := 2) Z G F N (As := [.int a3, .int 0]) (rest := []) (c_X8_at hE ho _) (by rw [eq_of_beq hk15]; decide) (by rw [eq_of_beq hk15]; rfl) kw_780 kw_211 kw_212 kw_3 kw_213 yd_X8_at rfl (by decide) (by decide) hl.1 (Nat.le_of_ble_eq_true rfl) d_X1_goPlan_15 (Nat.le_refl 0) (Nat.le_refl 0)) (fun x15 H locs _ F hf => ?_)
        refine lv_istore (lv' := [(4, .int x15), (0, .ref (ad r0)), (1, .ref (ad r1)), (2, .int a2), (3, .int a3)]) hx hb d_X1_goPlan_18 hl (by decide) rfl (fun ls hl => ?_)
        refine lv_iload hx hb d_X1_goPlan_20 (lv_at hl 0 rfl) ?_
        refine lv_if_ne (tgt := 32) hx hb d_X1_goPlan_22 (by decide) (fun c22 => ?_) (fun c22 => ?_)
        · have hf := fm_ig c22 hf
          refine lv_aload_n hx hb d_X1_goPlan_32 rfl (lv_at hl 2 rfl) ?_
          refine lv_iload_n hx hb d_X1_goPlan_33 rfl (lv_at hl 4 rfl) ?_
          refine lv_iconst (v := 1) hx hb d_X1_goPlan_34 (by decide) ?_
          obtain ⟨hk35, hf⟩ := fm_some hf
          refine fm_rcr G F hf (fun r ho => fm_runV (k := 2) Z G F N (As := [.int a3, .int 1]) (rest := []) (c_X8_at hE ho _) (by rw [eq_of_beq hk35]; decide) (by rw [eq_of_beq hk35]; rfl) kw_780 kw_211 kw_212 kw_3 kw_213 yd_X8_at rfl (by decide) (by decide) hl.1 (Nat.le_of_ble_eq_true rfl) d_X1_goPlan_35 (Nat.le_refl 0) (Nat.le_refl 0)) (fun x35 H locs _ F hf => ?_)
          refine lv_aload_n hx hb d_X1_goPlan_38 rfl (lv_at hl 1 rfl) ?_
          refine fm_rgr Z G F hf fr_X1_38 d_X1_goPlan_39 (fun q39 _ hf => ?_)
          refine fm_rgi Z G F hf fr_X1_84 d_X1_goPlan_42 (fun x42 _ hf => ?_)
          refine lv_icmp_ne (tgt := 79) hx hb d_X1_goPlan_45 (by decide) (fun c45 => ?_) (fun c45 => ?_)
          · have hf := fm_ig c45 hf
            obtain ⟨x79, ex79⟩ : ∃ y : Int32, y = a3 + 1 := ⟨_, rfl⟩
            have hf := fm_let_at ex79 hf
            refine lv_iinc (v := x79) (lv' := [(3, .int x79), (4, .int x15), (0, .ref (ad r0)), (1, .ref (ad r1)), (2, .int a2)]) hx hb d_X1_goPlan_79 hl (k := 4) rfl (by rw [ex79]; rfl) (by decide) rfl (fun ls hl => ?_)
            refine lv_goto (tgt := 4) hx hb d_X1_goPlan_82 (by decide) ?_
            exact ih r0 r1 a2 x79 S _ _ _ F (lv_sub hl [2, 3, 4, 0] rfl) hf
          · have hf := fm_ip c45 hf
            refine lv_iload hx hb d_X1_goPlan_48 (lv_at hl 0 rfl) ?_
            refine lv_iconst (v := 1) hx hb d_X1_goPlan_50 (by decide) ?_
            refine lv_icmp_ne (tgt := 64) hx hb d_X1_goPlan_51 (by decide) (fun c51 => ?_) (fun c51 => ?_)
            · have hf := fm_ig c51 hf
              refine lv_aload_n hx hb d_X1_goPlan_64 rfl (lv_at hl 1 rfl) ?_
              refine lv_iload hx hb d_X1_goPlan_65 (lv_at hl 0 rfl) ?_
              refine lv_iconst (v := 2) hx hb d_X1_goPlan_67 (by decide) ?_
              refine lv_icmp_ne (tgt := 75) hx hb d_X1_goPlan_68 (by decide) (fun c68 => ?_) (fun c68 => ?_)
              · have hf := fm_ig c68 hf
                refine lv_iconst (v := 0) hx hb d_X1_goPlan_75 (by decide) ?_
                refine fm_rpz Z G F hf fs_X1_27 d_X1_goPlan_76 (fun c h => by have h := eq_of_beq (show (c == 1) = true from h); subst h; rfl) (fun S76 H locs _ F hf => ?_)
                obtain ⟨x79, ex79⟩ : ∃ y : Int32, y = a3 + 1 := ⟨_, rfl⟩
                have hf := fm_let_at ex79 hf
                refine lv_iinc (v := x79) (lv' := [(3, .int x79), (4, .int x15), (0, .ref (ad r0)), (1, .ref (ad r1)), (2, .int a2)]) hx hb d_X1_goPlan_79 hl (k := 4) rfl (by rw [ex79]; rfl) (by decide) rfl (fun ls hl => ?_)
                refine lv_goto (tgt := 4) hx hb d_X1_goPlan_82 (by decide) ?_
                exact ih r0 r1 a2 x79 S76 _ _ _ F (lv_sub hl [2, 3, 4, 0] rfl) hf
              · have hf := fm_ip c68 hf
                refine lv_iconst (v := 1) hx hb d_X1_goPlan_71 (by decide) ?_
                refine lv_goto (tgt := 76) hx hb d_X1_goPlan_72 (by decide) ?_
                refine fm_rpz Z G F hf fs_X1_27 d_X1_goPlan_76 (fun c h => by have h := eq_of_beq (show (c == 1) = true from h); subst h; rfl) (fun S76 H locs _ F hf => ?_)
                obtain ⟨x79, ex79⟩ : ∃ y : Int32, y = a3 + 1 := ⟨_, rfl⟩
                have hf := fm_let_at ex79 hf
                refine lv_iinc (v := x79) (lv' := [(3, .int x79), (4, .int x15), (0, .ref (ad r0)), (1, .ref (ad r1)), (2, .int a2)]) hx hb d_X1_goPlan_79 hl (k := 4) rfl (by rw [ex79]; rfl) (by decide) rfl (fun ls hl => ?_)
                refine lv_goto (tgt := 4) hx hb d_X1_goPlan_82 (by decide) ?_
                exact ih r0 r1 a2 x79 S76 _ _ _ F (lv_sub hl [2, 3, 4, 0] rfl) hf
            · have hf := fm_ip c51 hf
              refine lv_iload_n hx hb d_X1_goPlan_54 rfl (lv_at hl 3 rfl) ?_
              refine lv_aload_n hx hb d_X1_goPlan_55 rfl (lv_at hl 1 rfl) ?_
              obtain ⟨hk56, hf⟩ := fm_some hf
              refine fm_rci G F hf (fun r u ho => fm_runV (k := 0) Z G F N (As := []) (rest := [.int a2]) (c_X1_breath hE ho _) (by rw [eq_of_beq hk56]; decide) (by rw [eq_of_beq hk56]; rfl) kw_717 kw_719 kp_20 kw_18 kw_720 yd_X1_breath rfl (by decide) (by decide) hl.1 (Nat.le_of_ble_eq_true rfl) d_X1_goPlan_56 (Nat.le_refl 0) (Nat.le_refl 0)) (fun x56 S56 H locs _ F hf => ?_)
              refine lv_iadd hx hb d_X1_goPlan_59 ?_
              refine lv_topi (fun x60 ex60 => ?_)
              have hf := fm_let_at ex60 hf
              refine lv_istore_n (lv' := [(2, .int x60), (4, .int x15), (0, .ref (ad r0)), (1, .ref (ad r1)), (3, .int a3)]) hx hb d_X1_goPlan_60 rfl hl (by decide) rfl (fun ls hl => ?_)
              refine lv_goto (tgt := 79) hx hb d_X1_goPlan_61 (by decide) ?_
              obtain ⟨x79, ex79⟩ : ∃ y : Int32, y = a3 + 1 := ⟨_, rfl⟩
              have hf := fm_let_at ex79 hf
              refine lv_iinc (v := x79) (lv' := [(3, .int x79), (2, .int x60), (4, .int x15), (0, .ref (ad r0)), (1, .ref (ad r1))]) hx hb d_X1_goPlan_79 hl (k := 4) rfl (by rw [ex79]; rfl) (by decide) rfl (fun ls hl => ?_)
              refine lv_goto (tgt := 4) hx hb d_X1_goPlan_82 (by decide) ?_
              exact ih r0 r1 x60 x79 S56 _ _ _ F (lv_sub hl [3, 4, 1, 0] rfl) hf
        · have hf := fm_ip c22 hf
          refine lv_aload_n hx hb d_X1_goPlan_25 rfl (lv_at hl 1 rfl) ?_
          obtain ⟨hk26, hf⟩ := fm_some hf
          refine fm_rcv G F hf (fun u ho => fm_runV (k := 0) Z G F N (As := []) (rest := []) (c_X1_goHour hE ho _) (by rw [eq_of_beq hk26]; decide) (by rw [eq_of_beq hk26]; rfl) kw_666 kw_667 kw_668 kw_18 kw_669 yd_X1_goHour rfl (by decide) (by decide) hl.1 (Nat.le_of_ble_eq_true rfl) d_X1_goPlan_26 (Nat.le_refl 0) (Nat.le_refl 0)) (fun S26 H locs _ F hf => ?_)
          refine lv_goto (tgt := 79) hx hb d_X1_goPlan_29 (by decide) ?_
          obtain ⟨x79, ex79⟩ : ∃ y : Int32, y = a3 + 1 := ⟨_, rfl⟩
          have hf := fm_let_at ex79 hf
          refine lv_iinc (v := x79) (lv' := [(3, .int x79), (4, .int x15), (0, .ref (ad r0)), (1, .ref (ad r1)), (2, .int a2)]) hx hb d_X1_goPlan_79 hl (k := 4) rfl (by rw [ex79]; rfl) (by decide) rfl (fun ls hl => ?_)
          refine lv_goto (tgt := 4) hx hb d_X1_goPlan_82 (by decide) ?_
          exact ih r0 r1 a2 x79 S26 _ _ _ F (lv_sub hl [2, 3, 4, 0] rfl) hf
  unfold m_X1_goPlan at hf
  refine lv_iconst (v := 0) hx hb d_X1_goPlan_0 (by decide) ?_
  refine lv_topi (fun x1 ex1 => ?_)
  have hf := fm_let_at ex1 hf
  refine lv_istore_n (lv' := [(2, .int x1), (0, .ref (ad r0)), (1, .ref (ad r1))]) hx hb d_X1_goPlan_1 rfl hl (by decide) rfl (fun ls hl => ?_)
  refine lv_iconst (v := 0) hx hb d_X1_goPlan_2 (by decide) ?_
  refine lv_topi (fun x3 ex3 => ?_)
  have hf := fm_let_at ex3 hf
  refine lv_istore_n (lv' := [(3, .int x3), (2, .int x1), (0, .ref (ad r0)), (1, .ref (ad r1))]) hx hb d_X1_goPlan_3 rfl hl (by decide) rfl (fun ls hl => ?_)
  exact (hL fm_LF) r0 r1 x1 x3 S _ _ _ F (lv_sub hl [2, 3, 1, 0] rfl) hf
