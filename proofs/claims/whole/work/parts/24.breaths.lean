/-! models and contracts (tool/gen.py prints them) -/
theorem d_X12_linesFrom_0 : decode prog_14_method_54_code 0 = .ok (.iload_n 1, 1) := by decide +kernel
theorem d_X12_linesFrom_1 : decode prog_14_method_54_code 1 = .ok (.iload_n 2, 1) := by decide +kernel
theorem d_X12_linesFrom_2 : decode prog_14_method_54_code 2 = .ok (.if_icmp .ne 9, 3) := by decide +kernel
theorem d_X12_linesFrom_5 : decode prog_14_method_54_code 5 = .ok (.aload_n 0, 1) := by decide +kernel
theorem d_X12_linesFrom_6 : decode prog_14_method_54_code 6 = .ok (.iload_n 2, 1) := by decide +kernel
theorem d_X12_linesFrom_7 : decode prog_14_method_54_code 7 = .ok (.invokevirtual 196, 3) := by decide +kernel
theorem d_X12_linesFrom_10 : decode prog_14_method_54_code 10 = .ok (.return_, 1) := by decide +kernel
theorem d_X12_linesFrom_11 : decode prog_14_method_54_code 11 = .ok (.iconst 0, 1) := by decide +kernel
theorem d_X12_linesFrom_12 : decode prog_14_method_54_code 12 = .ok (.istore_n 3, 1) := by decide +kernel
theorem d_X12_linesFrom_13 : decode prog_14_method_54_code 13 = .ok (.iload_n 3, 1) := by decide +kernel
theorem d_X12_linesFrom_14 : decode prog_14_method_54_code 14 = .ok (.aload_n 0, 1) := by decide +kernel
theorem d_X12_linesFrom_15 : decode prog_14_method_54_code 15 = .ok (.getfield 9, 3) := by decide +kernel
theorem d_X12_linesFrom_18 : decode prog_14_method_54_code 18 = .ok (.bipush 21, 2) := by decide +kernel
theorem d_X12_linesFrom_20 : decode prog_14_method_54_code 20 = .ok (.iaload, 1) := by decide +kernel
theorem d_X12_linesFrom_21 : decode prog_14_method_54_code 21 = .ok (.if_icmp .ge 24, 3) := by decide +kernel
theorem d_X12_linesFrom_24 : decode prog_14_method_54_code 24 = .ok (.aload_n 0, 1) := by decide +kernel
theorem d_X12_linesFrom_25 : decode prog_14_method_54_code 25 = .ok (.getfield 31, 3) := by decide +kernel
theorem d_X12_linesFrom_28 : decode prog_14_method_54_code 28 = .ok (.iload_n 1, 1) := by decide +kernel
theorem d_X12_linesFrom_29 : decode prog_14_method_54_code 29 = .ok (.iload_n 3, 1) := by decide +kernel
theorem d_X12_linesFrom_30 : decode prog_14_method_54_code 30 = .ok (.iastore, 1) := by decide +kernel
theorem d_X12_linesFrom_31 : decode prog_14_method_54_code 31 = .ok (.aload_n 0, 1) := by decide +kernel
theorem d_X12_linesFrom_32 : decode prog_14_method_54_code 32 = .ok (.iload_n 1, 1) := by decide +kernel
theorem d_X12_linesFrom_33 : decode prog_14_method_54_code 33 = .ok (.iconst 1, 1) := by decide +kernel
theorem d_X12_linesFrom_34 : decode prog_14_method_54_code 34 = .ok (.iadd, 1) := by decide +kernel
theorem d_X12_linesFrom_35 : decode prog_14_method_54_code 35 = .ok (.iload_n 2, 1) := by decide +kernel
theorem d_X12_linesFrom_36 : decode prog_14_method_54_code 36 = .ok (.invokevirtual 199, 3) := by decide +kernel
theorem d_X12_linesFrom_39 : decode prog_14_method_54_code 39 = .ok (.iinc 3 1, 3) := by decide +kernel
theorem d_X12_linesFrom_42 : decode prog_14_method_54_code 42 = .ok (.goto (-29), 3) := by decide +kernel
theorem d_X12_linesFrom_45 : decode prog_14_method_54_code 45 = .ok (.aload_n 0, 1) := by decide +kernel
theorem d_X12_linesFrom_46 : decode prog_14_method_54_code 46 = .ok (.getfield 31, 3) := by decide +kernel
theorem d_X12_linesFrom_49 : decode prog_14_method_54_code 49 = .ok (.iload_n 1, 1) := by decide +kernel
theorem d_X12_linesFrom_50 : decode prog_14_method_54_code 50 = .ok (.bipush 9, 2) := by decide +kernel
theorem d_X12_linesFrom_52 : decode prog_14_method_54_code 52 = .ok (.iastore, 1) := by decide +kernel
theorem d_X12_linesFrom_53 : decode prog_14_method_54_code 53 = .ok (.aload_n 0, 1) := by decide +kernel
theorem d_X12_linesFrom_54 : decode prog_14_method_54_code 54 = .ok (.iload_n 1, 1) := by decide +kernel
theorem d_X12_linesFrom_55 : decode prog_14_method_54_code 55 = .ok (.iconst 1, 1) := by decide +kernel
theorem d_X12_linesFrom_56 : decode prog_14_method_54_code 56 = .ok (.iadd, 1) := by decide +kernel
theorem d_X12_linesFrom_57 : decode prog_14_method_54_code 57 = .ok (.iload_n 2, 1) := by decide +kernel
theorem d_X12_linesFrom_58 : decode prog_14_method_54_code 58 = .ok (.invokevirtual 199, 3) := by decide +kernel
theorem d_X12_linesFrom_61 : decode prog_14_method_54_code 61 = .ok (.return_, 1) := by decide +kernel
def k_X12_linesFrom_13 (kap lam : Nat → Nat) (go_X12_linesFrom : Nat → Int32 → Int32 → fm_M → Option fm_M) (go13 : Nat → Int32 → Int32 → Int32 → fm_M → Option fm_M) (r0 : Nat) (a1 : Int32) (a2 : Int32) (a3 : Int32)  (S : fm_M) : Option fm_M :=
  fm_gr kap 12 r0 1 S fun q15 =>
  fm_ld kap lam 13 q15 21 S fun x20 =>
  if x20 ≤ a3 then (
   fm_gr kap 12 r0 13 S fun q46 =>
   fm_st kap lam q46 a1 9 S fun S52 =>
   fm_ck (kap r0 == 12) <|
   fm_b1 (go_X12_linesFrom r0 (a1 + 1) a2 S52) fun S58 =>
   some S58
  ) else (
   fm_gr kap 12 r0 13 S fun q25 =>
   fm_st kap lam q25 a1 a3 S fun S30 =>
   fm_ck (kap r0 == 12) <|
   fm_b1 (go_X12_linesFrom r0 (a1 + 1) a2 S30) fun S36 =>
   fm_let (a3 + 1 : Int32) fun x39 =>
   go13 r0 a1 a2 x39 S36
  )
def b_X12_linesFrom_13 (kap lam : Nat → Nat) (go_X12_linesFrom : Nat → Int32 → Int32 → fm_M → Option fm_M) : Nat → Nat → Int32 → Int32 → Int32 → fm_M → Option fm_M
  | 0 => fun _ _ _ _ _ => none
  | n + 1 => k_X12_linesFrom_13 kap lam go_X12_linesFrom (b_X12_linesFrom_13 kap lam go_X12_linesFrom n)
def s_X12_linesFrom (kap lam : Nat → Nat) (go_X12_linesFrom : Nat → Int32 → Int32 → fm_M → Option fm_M) (r0 : Nat) (a1 : Int32) (a2 : Int32) (S : fm_M) : Option fm_M :=
  if a1 = a2 then (
   fm_ck (kap r0 == 12) <|
   fm_b1 (m_X12_keepsLine kap lam r0 a2 S) fun S7 =>
   some S7
  ) else (
   fm_let (0 : Int32) fun x12 =>
   b_X12_linesFrom_13 kap lam go_X12_linesFrom fm_LF r0 a1 a2 x12 S
  )
def grp_ln (kap lam : Nat → Nat) : Nat → (Nat → Int32 → Int32 → fm_M → Option fm_M)
  | 0 => (fun _ _ _ _ => none)
  | n + 1 => s_X12_linesFrom kap lam (grp_ln kap lam n)
def m_X12_linesFrom (n : Nat) (kap lam : Nat → Nat) (r0 : Nat) (a1 : Int32) (a2 : Int32) (S : fm_M) : Option fm_M := (grp_ln kap lam n) r0 a1 a2 S
set_option maxHeartbeats 4000000 in
set_option maxRecDepth 100000 in
theorem cg_ln {l : Launch} {D : va_G} {ids kap lam : Nat → Nat} {RL : List Nat} {ad sk sv : Nat → Nat} (hE : fm_E kap RL ad) : ∀ nn : Nat, (∀ {S : fm_M} {r0 : Nat} {a1 : Int32} {a2 : Int32} {u : fm_M} , m_X12_linesFrom nn kap lam r0 a1 a2 S = some u → ∀ sz, fm_MV l y_X12_linesFrom prog_14_method_54_code 4 (Option.none : Option Jvm.ClassFile.FieldType) (2 + nn) D ids kap lam RL ad sk sv S [.ref (ad r0), .int a1, .int a2] sz u) := by
  intro nn
  induction nn with
  | zero => exact fun hf => absurd hf (by intro h; cases h)
  | succ nn ih =>
    have ih_X12_linesFrom := @ih
    intro S r0 a1 a2 u hf sz
    have hf : s_X12_linesFrom kap lam (m_X12_linesFrom nn kap lam) r0 a1 a2 S = some u := hf
    refine fm_open rfl hE (Nat.le_of_ble_eq_true rfl) (fun p e s m args below meth c ls Z hr hlk G F N hl hsz => ?_)
    subst hsz
    obtain ⟨hx, hb, hml, hown, hts⟩ := id Z
    have hl : lv_has ls 4 [(0, .ref (ad r0)), (1, .int a1), (2, .int a2)] := hl
    generalize hQ : MQ below _ args s 0 0 (fm_A RL ad s.heap.size) = Qf
    have hL : ∀ n : Nat, (∀ (r0 : Nat) (a1 : Int32) (a2 : Int32) (a3 : Int32)  (S : fm_M) (H : Heap) (locs : List Loc) (ls : Array Slot), fm_F D ids kap lam RL ad S (fm_A RL ad s.heap.size) s.heap H locs → lv_has ls 4 [(0, .ref (ad r0)), (1, .int a1), (2, .int a2), (3, .int a3)] → b_X12_linesFrom_13 kap lam (m_X12_linesFrom nn kap lam) n r0 a1 a2 a3 S = some u → W p l e (fm_rm (2 + (nn + 1))) s m args below meth c H locs 0 0 Qf (F0 m 13 ls [])) := by
      intro n
      induction n with
      | zero => exact fun _ _ _ _ _ _ _ _ _ _ hf => absurd hf (by intro h; cases h)
      | succ n ih =>
        intro r0 a1 a2 a3 S H locs ls F hl hf
        have hf : k_X12_linesFrom_13 kap lam (m_X12_linesFrom nn kap lam) (b_X12_linesFrom_13 kap lam (m_X12_linesFrom nn kap lam) n) r0 a1 a2 a3 S = some u := hf
        unfold k_X12_linesFrom_13 at hf
        refine lv_iload_n hx hb d_X12_linesFrom_13 rfl (lv_at hl 3 rfl) ?_
        refine lv_aload_n hx hb d_X12_linesFrom_14 rfl (lv_at hl 0 rfl) ?_
        refine fm_rgr Z G F hf fr_X12_9 d_X12_linesFrom_15 (fun q15 _ hf => ?_)
        refine lv_bipush (v := 21) hx hb d_X12_linesFrom_18 (by decide) ?_
        refine fm_rld Z G F hf d_X12_linesFrom_20 (fun x20 _ hf => ?_)
        refine lv_icmp_ge (tgt := 45) hx hb d_X12_linesFrom_21 (by decide) (fun c21 => ?_) (fun c21 => ?_)
        · have hf := fm_ip c21 hf
          refine lv_aload_n hx hb d_X12_linesFrom_45 rfl (lv_at hl 0 rfl) ?_
          refine fm_rgr Z G F hf fr_X12_31 d_X12_linesFrom_46 (fun q46 _ hf => ?_)
          refine lv_iload_n hx hb d_X12_linesFrom_49 rfl (lv_at hl 1 rfl) ?_
          refine lv_bipush (v := 9) hx hb d_X12_linesFrom_50 (by decide) ?_
          refine fm_rst Z G F hf d_X12_linesFrom_52 (fun S52 H locs _ F hf => ?_)
          refine lv_aload_n hx hb d_X12_linesFrom_53 rfl (lv_at hl 0 rfl) ?_
          refine lv_iload_n hx hb d_X12_linesFrom_54 rfl (lv_at hl 1 rfl) ?_
          refine lv_iconst (v := 1) hx hb d_X12_linesFrom_55 (by decide) ?_
          refine lv_iadd hx hb d_X12_linesFrom_56 ?_
          refine lv_iload_n hx hb d_X12_linesFrom_57 rfl (lv_at hl 2 rfl) ?_
          obtain ⟨hk58, hf⟩ := fm_some hf
          refine fm_rcv G F hf (fun u ho => fm_runV (k := 2) Z G F N (As := [.int (a1 + 1), .int a2]) (rest := []) (ih_X12_linesFrom ho _) (by rw [eq_of_beq hk58]; decide) (by rw [eq_of_beq hk58]; rfl) kw_1208 kw_1210 kp_56 kw_6 kw_1211 yd_X12_linesFrom rfl (by decide) (by first | omega | decide) hl.1 (Nat.le_of_ble_eq_true rfl) d_X12_linesFrom_58 (Nat.le_refl 0) (Nat.le_refl 0)) (fun S58 H locs _ F hf => ?_)
          rw [← hQ]; exact fm_retv Z hr hlk F d_X12_linesFrom_61 (Option.some.inj hf)
        · have hf := fm_ig c21 hf
          refine lv_aload_n hx hb d_X12_linesFrom_24 rfl (lv_at hl 0 rfl) ?_
          refine fm_rgr Z G F hf fr_X12_31 d_X12_linesFrom_25 (fun q25 _ hf => ?_)
          refine lv_iload_n hx hb d_X12_linesFrom_28 rfl (lv_at hl 1 rfl) ?_
          refine lv_iload_n hx hb d_X12_linesFrom_29 rfl (lv_at hl 3 rfl) ?_
          refine fm_rst Z G F hf d_X12_linesFrom_30 (fun S30 H locs _ F hf => ?_)
          refine lv_aload_n hx hb d_X12_linesFrom_31 rfl (lv_at hl 0 rfl) ?_
          refine lv_iload_n hx hb d_X12_linesFrom_32 rfl (lv_at hl 1 rfl) ?_
          refine lv_iconst (v := 1) hx hb d_X12_linesFrom_33 (by decide) ?_
          refine lv_iadd hx hb d_X12_linesFrom_34 ?_
          refine lv_iload_n hx hb d_X12_linesFrom_35 rfl (lv_at hl 2 rfl) ?_
          obtain ⟨hk36, hf⟩ := fm_some hf
          refine fm_rcv G F hf (fun u ho => fm_runV (k := 2) Z G F N (As := [.int (a1 + 1), .int a2]) (rest := []) (ih_X12_linesFrom ho _) (by rw [eq_of_beq hk36]; decide) (by rw [eq_of_beq hk36]; rfl) kw_1208 kw_1210 kp_56 kw_6 kw_1211 yd_X12_linesFrom rfl (by decide) (by first | omega | decide) hl.1 (Nat.le_of_ble_eq_true rfl) d_X12_linesFrom_36 (Nat.le_refl 0) (Nat.le_refl 0)) (fun S36 H locs _ F hf => ?_)
          obtain ⟨x39, ex39⟩ : ∃ y : Int32, y = a3 + 1 := ⟨_, rfl⟩
          have hf := fm_let_at ex39 hf
          refine lv_iinc (v := x39) (lv' := [(3, .int x39), (0, .ref (ad r0)), (1, .int a1), (2, .int a2)]) hx hb d_X12_linesFrom_39 hl (k := 3) rfl (by rw [ex39]; rfl) (by decide) rfl (fun ls hl => ?_)
          refine lv_goto (tgt := 13) hx hb d_X12_linesFrom_42 (by decide) ?_
          exact ih r0 a1 a2 x39 S36 _ _ _ F (lv_sub hl [1, 2, 3, 0] rfl) hf
    unfold s_X12_linesFrom at hf
    refine lv_iload_n hx hb d_X12_linesFrom_0 rfl (lv_at hl 1 rfl) ?_
    refine lv_iload_n hx hb d_X12_linesFrom_1 rfl (lv_at hl 2 rfl) ?_
    refine lv_icmp_ne (tgt := 11) hx hb d_X12_linesFrom_2 (by decide) (fun c2 => ?_) (fun c2 => ?_)
    · have hf := fm_ig c2 hf
      refine lv_iconst (v := 0) hx hb d_X12_linesFrom_11 (by decide) ?_
      refine lv_topi (fun x12 ex12 => ?_)
      have hf := fm_let_at ex12 hf
      refine lv_istore_n (lv' := [(3, .int x12), (0, .ref (ad r0)), (1, .int a1), (2, .int a2)]) hx hb d_X12_linesFrom_12 rfl hl (by decide) rfl (fun ls hl => ?_)
      exact (hL fm_LF) r0 a1 a2 x12 S _ _ _ F (lv_sub hl [1, 2, 3, 0] rfl) hf
    · have hf := fm_ip c2 hf
      refine lv_aload_n hx hb d_X12_linesFrom_5 rfl (lv_at hl 0 rfl) ?_
      refine lv_iload_n hx hb d_X12_linesFrom_6 rfl (lv_at hl 2 rfl) ?_
      obtain ⟨hk7, hf⟩ := fm_some hf
      refine fm_rcv G F hf (fun u ho => fm_runV (k := 1) Z G F N (As := [.int a2]) (rest := []) (c_X12_keepsLine hE ho _) (by rw [eq_of_beq hk7]; decide) (by rw [eq_of_beq hk7]; rfl) kw_1212 kw_1214 kp_57 kw_6 kw_1215 yd_X12_keepsLine rfl (by decide) (by first | omega | decide) hl.1 (Nat.le_of_ble_eq_true rfl) d_X12_linesFrom_7 (Nat.le_refl 0) (Nat.le_refl 0)) (fun S7 H locs _ F hf => ?_)
      rw [← hQ]; exact fm_retv Z hr hlk F d_X12_linesFrom_10 (Option.some.inj hf)
theorem c_X12_linesFrom (n : Nat) {l : Launch} {D : va_G} {ids kap lam : Nat → Nat} {RL : List Nat} {ad sk sv : Nat → Nat} {S : fm_M} {r0 : Nat} {a1 : Int32} {a2 : Int32} {u : fm_M} (hE : fm_E kap RL ad) (hf : m_X12_linesFrom n kap lam r0 a1 a2 S = some u) (sz : Nat) : fm_MV l y_X12_linesFrom prog_14_method_54_code 4 (Option.none : Option Jvm.ClassFile.FieldType) (2 + n) D ids kap lam RL ad sk sv S [.ref (ad r0), .int a1, .int a2] sz u := (cg_ln hE n) hf sz
theorem d_X12_breaths_0 : decode prog_14_method_55_code 0 = .ok (.iload_n 2, 1) := by decide +kernel
theorem d_X12_breaths_1 : decode prog_14_method_55_code 1 = .ok (.iconst (-1), 1) := by decide +kernel
theorem d_X12_breaths_2 : decode prog_14_method_55_code 2 = .ok (.iconst 2, 1) := by decide +kernel
theorem d_X12_breaths_3 : decode prog_14_method_55_code 3 = .ok (.invokestatic 44, 3) := by decide +kernel
theorem d_X12_breaths_6 : decode prog_14_method_55_code 6 = .ok (.ifCond .ne 5, 3) := by decide +kernel
theorem d_X12_breaths_9 : decode prog_14_method_55_code 9 = .ok (.iconst (-1), 1) := by decide +kernel
theorem d_X12_breaths_10 : decode prog_14_method_55_code 10 = .ok (.ireturn, 1) := by decide +kernel
theorem d_X12_breaths_11 : decode prog_14_method_55_code 11 = .ok (.iload_n 1, 1) := by decide +kernel
theorem d_X12_breaths_12 : decode prog_14_method_55_code 12 = .ok (.iconst 1, 1) := by decide +kernel
theorem d_X12_breaths_13 : decode prog_14_method_55_code 13 = .ok (.iconst 3, 1) := by decide +kernel
theorem d_X12_breaths_14 : decode prog_14_method_55_code 14 = .ok (.invokestatic 44, 3) := by decide +kernel
theorem d_X12_breaths_17 : decode prog_14_method_55_code 17 = .ok (.ifCond .ne 6, 3) := by decide +kernel
theorem d_X12_breaths_20 : decode prog_14_method_55_code 20 = .ok (.bipush (-2), 2) := by decide +kernel
theorem d_X12_breaths_22 : decode prog_14_method_55_code 22 = .ok (.ireturn, 1) := by decide +kernel
theorem d_X12_breaths_23 : decode prog_14_method_55_code 23 = .ok (.iconst 0, 1) := by decide +kernel
theorem d_X12_breaths_24 : decode prog_14_method_55_code 24 = .ok (.istore_n 3, 1) := by decide +kernel
theorem d_X12_breaths_25 : decode prog_14_method_55_code 25 = .ok (.iload_n 3, 1) := by decide +kernel
theorem d_X12_breaths_26 : decode prog_14_method_55_code 26 = .ok (.aload_n 0, 1) := by decide +kernel
theorem d_X12_breaths_27 : decode prog_14_method_55_code 27 = .ok (.getfield 9, 3) := by decide +kernel
theorem d_X12_breaths_30 : decode prog_14_method_55_code 30 = .ok (.bipush 21, 2) := by decide +kernel
theorem d_X12_breaths_32 : decode prog_14_method_55_code 32 = .ok (.iaload, 1) := by decide +kernel
theorem d_X12_breaths_33 : decode prog_14_method_55_code 33 = .ok (.if_icmp .ge 14, 3) := by decide +kernel
theorem d_X12_breaths_36 : decode prog_14_method_55_code 36 = .ok (.aload_n 0, 1) := by decide +kernel
theorem d_X12_breaths_37 : decode prog_14_method_55_code 37 = .ok (.iload_n 3, 1) := by decide +kernel
theorem d_X12_breaths_38 : decode prog_14_method_55_code 38 = .ok (.invokevirtual 202, 3) := by decide +kernel
theorem d_X12_breaths_41 : decode prog_14_method_55_code 41 = .ok (.iinc 3 1, 3) := by decide +kernel
theorem d_X12_breaths_44 : decode prog_14_method_55_code 44 = .ok (.goto (-19), 3) := by decide +kernel
theorem d_X12_breaths_47 : decode prog_14_method_55_code 47 = .ok (.aload_n 0, 1) := by decide +kernel
theorem d_X12_breaths_48 : decode prog_14_method_55_code 48 = .ok (.iconst (-1), 1) := by decide +kernel
theorem d_X12_breaths_49 : decode prog_14_method_55_code 49 = .ok (.putfield 193, 3) := by decide +kernel
theorem d_X12_breaths_52 : decode prog_14_method_55_code 52 = .ok (.aload_n 0, 1) := by decide +kernel
theorem d_X12_breaths_53 : decode prog_14_method_55_code 53 = .ok (.iconst 0, 1) := by decide +kernel
theorem d_X12_breaths_54 : decode prog_14_method_55_code 54 = .ok (.iload_n 1, 1) := by decide +kernel
theorem d_X12_breaths_55 : decode prog_14_method_55_code 55 = .ok (.invokevirtual 199, 3) := by decide +kernel
theorem d_X12_breaths_58 : decode prog_14_method_55_code 58 = .ok (.iload_n 2, 1) := by decide +kernel
theorem d_X12_breaths_59 : decode prog_14_method_55_code 59 = .ok (.iconst (-1), 1) := by decide +kernel
theorem d_X12_breaths_60 : decode prog_14_method_55_code 60 = .ok (.if_icmp .ne 10, 3) := by decide +kernel
theorem d_X12_breaths_63 : decode prog_14_method_55_code 63 = .ok (.aload_n 0, 1) := by decide +kernel
theorem d_X12_breaths_64 : decode prog_14_method_55_code 64 = .ok (.getfield 193, 3) := by decide +kernel
theorem d_X12_breaths_67 : decode prog_14_method_55_code 67 = .ok (.goto 19, 3) := by decide +kernel
theorem d_X12_breaths_70 : decode prog_14_method_55_code 70 = .ok (.iload_n 2, 1) := by decide +kernel
theorem d_X12_breaths_71 : decode prog_14_method_55_code 71 = .ok (.iload_n 1, 1) := by decide +kernel
theorem d_X12_breaths_72 : decode prog_14_method_55_code 72 = .ok (.if_icmp .ge 12, 3) := by decide +kernel
theorem d_X12_breaths_75 : decode prog_14_method_55_code 75 = .ok (.aload_n 0, 1) := by decide +kernel
theorem d_X12_breaths_76 : decode prog_14_method_55_code 76 = .ok (.getfield 34, 3) := by decide +kernel
theorem d_X12_breaths_79 : decode prog_14_method_55_code 79 = .ok (.iload_n 2, 1) := by decide +kernel
theorem d_X12_breaths_80 : decode prog_14_method_55_code 80 = .ok (.iaload, 1) := by decide +kernel
theorem d_X12_breaths_81 : decode prog_14_method_55_code 81 = .ok (.goto 5, 3) := by decide +kernel
theorem d_X12_breaths_84 : decode prog_14_method_55_code 84 = .ok (.bipush (-5), 2) := by decide +kernel
theorem d_X12_breaths_86 : decode prog_14_method_55_code 86 = .ok (.ireturn, 1) := by decide +kernel
def k_X12_breaths_25 (kap lam : Nat → Nat) (go25 : Nat → Int32 → Int32 → Int32 → fm_M → Option (Int32 × fm_M)) (r0 : Nat) (a1 : Int32) (a2 : Int32) (a3 : Int32)  (S : fm_M) : Option (Int32 × fm_M) :=
  fm_gr kap 12 r0 1 S fun q27 =>
  fm_ld kap lam 13 q27 21 S fun x32 =>
  if x32 ≤ a3 then (
   fm_pi kap 12 r0 15 S (-1) fun S49 =>
   fm_ck (kap r0 == 12) <|
   fm_b1 (m_X12_linesFrom fm_RF kap lam r0 0 a1 S49) fun S55 =>
   if a2 = (-1) then (
    fm_gi kap 12 r0 15 S55 fun x64 =>
    some (x64, S55)
   ) else (
    if a1 ≤ a2 then (
     some ((-5), S55)
    ) else (
     fm_gr kap 12 r0 14 S55 fun q76 =>
     fm_ld kap lam 13 q76 a2 S55 fun x80 =>
     some (x80, S55)
    )
   )
  ) else (
   fm_ck (kap r0 == 12) <|
   fm_b1 (m_X12_looksForPay kap lam r0 a3 S) fun S38 =>
   fm_let (a3 + 1 : Int32) fun x41 =>
   go25 r0 a1 a2 x41 S38
  )
def b_X12_breaths_25 (kap lam : Nat → Nat) : Nat → Nat → Int32 → Int32 → Int32 → fm_M → Option (Int32 × fm_M)
  | 0 => fun _ _ _ _ _ => none
  | n + 1 => k_X12_breaths_25 kap lam (b_X12_breaths_25 kap lam n)
def m_X12_breaths (kap lam : Nat → Nat) (r0 : Nat) (a1 : Int32) (a2 : Int32) (S : fm_M) : Option (Int32 × fm_M) :=
  fm_b1 (m_X12_in kap lam a2 (-1) 2 S) fun x3 =>
  if x3 = 0 then (
   some ((-1), S)
  ) else (
   fm_b1 (m_X12_in kap lam a1 1 3 S) fun x14 =>
   if x14 = 0 then (
    some ((-2), S)
   ) else (
    fm_let (0 : Int32) fun x24 =>
    b_X12_breaths_25 kap lam fm_LF r0 a1 a2 x24 S
   )
  )
set_option maxHeartbeats 4000000 in
set_option maxRecDepth 100000 in
theorem c_X12_breaths {l : Launch} {D : va_G} {ids kap lam : Nat → Nat} {RL : List Nat} {ad sk sv : Nat → Nat} {S : fm_M} {r0 : Nat} {a1 : Int32} {a2 : Int32} {r : Int32} {u : fm_M} (hE : fm_E kap RL ad) (hf : m_X12_breaths kap lam r0 a1 a2 S = some (r, u)) (sz : Nat) : fm_MI l y_X12_breaths prog_14_method_55_code 4 (Option.some Jvm.ClassFile.FieldType.int) 63 D ids kap lam RL ad sk sv S [.ref (ad r0), .int a1, .int a2] sz r u := by
  refine fm_open rfl hE (Nat.le_of_ble_eq_true rfl) (fun p e s m args below meth c ls Z hr hlk G F N hl hsz => ?_)
  subst hsz
  obtain ⟨hx, hb, hml, hown, hts⟩ := id Z
  have hl : lv_has ls 4 [(0, .ref (ad r0)), (1, .int a1), (2, .int a2)] := hl
  generalize hQ : MQ below _ args s 0 0 (fm_A RL ad s.heap.size) = Qf
  have hL : ∀ n : Nat, (∀ (r0 : Nat) (a1 : Int32) (a2 : Int32) (a3 : Int32)  (S : fm_M) (H : Heap) (locs : List Loc) (ls : Array Slot), fm_F D ids kap lam RL ad S (fm_A RL ad s.heap.size) s.heap H locs → lv_has ls 4 [(0, .ref (ad r0)), (1, .int a1), (2, .int a2), (3, .int a3)] → b_X12_breaths_25 kap lam n r0 a1 a2 a3 S = some (r, u) → W p l e (fm_rm 63) s m args below meth c H locs 0 0 Qf (F0 m 25 ls [])) := by
    intro n
    induction n with
    | zero => exact fun _ _ _ _ _ _ _ _ _ _ hf => absurd hf (by intro h; cases h)
    | succ n ih =>
      intro r0 a1 a2 a3 S H locs ls F hl hf
      have hf : k_X12_breaths_25 kap lam (b_X12_breaths_25 kap lam n) r0 a1 a2 a3 S = some (r, u) := hf
      unfold k_X12_breaths_25 at hf
      refine lv_iload_n hx hb d_X12_breaths_25 rfl (lv_at hl 3 rfl) ?_
      refine lv_aload_n hx hb d_X12_breaths_26 rfl (lv_at hl 0 rfl) ?_
      refine fm_rgr Z G F hf fr_X12_9 d_X12_breaths_27 (fun q27 _ hf => ?_)
      refine lv_bipush (v := 21) hx hb d_X12_breaths_30 (by decide) ?_
      refine fm_rld Z G F hf d_X12_breaths_32 (fun x32 _ hf => ?_)
      refine lv_icmp_ge (tgt := 47) hx hb d_X12_breaths_33 (by decide) (fun c33 => ?_) (fun c33 => ?_)
      · have hf := fm_ip c33 hf
        refine lv_aload_n hx hb d_X12_breaths_47 rfl (lv_at hl 0 rfl) ?_
        refine lv_iconst (v := (-1)) hx hb d_X12_breaths_48 (by decide) ?_
        refine fm_rpi Z G F hf fs_X12_193 d_X12_breaths_49 (fun c h => by have h := eq_of_beq (show (c == 12) = true from h); subst h; rfl) (fun S49 H locs _ F hf => ?_)
        refine lv_aload_n hx hb d_X12_breaths_52 rfl (lv_at hl 0 rfl) ?_
        refine lv_iconst (v := 0) hx hb d_X12_breaths_53 (by decide) ?_
        refine lv_iload_n hx hb d_X12_breaths_54 rfl (lv_at hl 1 rfl) ?_
        obtain ⟨hk55, hf⟩ := fm_some hf
        refine fm_rcv G F hf (fun u ho => fm_runV (k := 2) Z G F N (As := [.int 0, .int a1]) (rest := []) (c_X12_linesFrom fm_RF hE ho _) (by rw [eq_of_beq hk55]; decide) (by rw [eq_of_beq hk55]; rfl) kw_1208 kw_1210 kp_56 kw_6 kw_1211 yd_X12_linesFrom rfl (by decide) (by decide) hl.1 (Nat.le_of_ble_eq_true rfl) d_X12_breaths_55 (Nat.le_refl 0) (Nat.le_refl 0)) (fun S55 H locs _ F hf => ?_)
        refine lv_iload_n hx hb d_X12_breaths_58 rfl (lv_at hl 2 rfl) ?_
        refine lv_iconst (v := (-1)) hx hb d_X12_breaths_59 (by decide) ?_
        refine lv_icmp_ne (tgt := 70) hx hb d_X12_breaths_60 (by decide) (fun c60 => ?_) (fun c60 => ?_)
        · have hf := fm_ig c60 hf
          refine lv_iload_n hx hb d_X12_breaths_70 rfl (lv_at hl 2 rfl) ?_
          refine lv_iload_n hx hb d_X12_breaths_71 rfl (lv_at hl 1 rfl) ?_
          refine lv_icmp_ge (tgt := 84) hx hb d_X12_breaths_72 (by decide) (fun c72 => ?_) (fun c72 => ?_)
          · have hf := fm_ip c72 hf
            refine lv_bipush (v := (-5)) hx hb d_X12_breaths_84 (by decide) ?_
            rw [← hQ]; exact fm_reti Z hr hlk F d_X12_breaths_86 (Prod.mk.inj (Option.some.inj hf)).1 (Prod.mk.inj (Option.some.inj hf)).2
          · have hf := fm_ig c72 hf
            refine lv_aload_n hx hb d_X12_breaths_75 rfl (lv_at hl 0 rfl) ?_
            refine fm_rgr Z G F hf fr_X12_34 d_X12_breaths_76 (fun q76 _ hf => ?_)
            refine lv_iload_n hx hb d_X12_breaths_79 rfl (lv_at hl 2 rfl) ?_
            refine fm_rld Z G F hf d_X12_breaths_80 (fun x80 _ hf => ?_)
            refine lv_goto (tgt := 86) hx hb d_X12_breaths_81 (by decide) ?_
            rw [← hQ]; exact fm_reti Z hr hlk F d_X12_breaths_86 (Prod.mk.inj (Option.some.inj hf)).1 (Prod.mk.inj (Option.some.inj hf)).2
        · have hf := fm_ip c60 hf
          refine lv_aload_n hx hb d_X12_breaths_63 rfl (lv_at hl 0 rfl) ?_
          refine fm_rgi Z G F hf fr_X12_193 d_X12_breaths_64 (fun x64 _ hf => ?_)
          refine lv_goto (tgt := 86) hx hb d_X12_breaths_67 (by decide) ?_
          rw [← hQ]; exact fm_reti Z hr hlk F d_X12_breaths_86 (Prod.mk.inj (Option.some.inj hf)).1 (Prod.mk.inj (Option.some.inj hf)).2
      · have hf := fm_ig c33 hf
        refine lv_aload_n hx hb d_X12_breaths_36 rfl (lv_at hl 0 rfl) ?_
        refine lv_iload_n hx hb d_X12_breaths_37 rfl (lv_at hl 3 rfl) ?_
        obtain ⟨hk38, hf⟩ := fm_some hf
        refine fm_rcv G F hf (fun u ho => fm_runV (k := 1) Z G F N (As := [.int a3]) (rest := []) (c_X12_looksForPay hE ho _) (by rw [eq_of_beq hk38]; decide) (by rw [eq_of_beq hk38]; rfl) kw_1204 kw_1206 kp_55 kw_6 kw_1207 yd_X12_looksForPay rfl (by decide) (by decide) hl.1 (Nat.le_of_ble_eq_true rfl) d_X12_breaths_38 (Nat.le_refl 0) (Nat.le_refl 0)) (fun S38 H locs _ F hf => ?_)
        obtain ⟨x41, ex41⟩ : ∃ y : Int32, y = a3 + 1 := ⟨_, rfl⟩
        have hf := fm_let_at ex41 hf
        refine lv_iinc (v := x41) (lv' := [(3, .int x41), (0, .ref (ad r0)), (1, .int a1), (2, .int a2)]) hx hb d_X12_breaths_41 hl (k := 3) rfl (by rw [ex41]; rfl) (by decide) rfl (fun ls hl => ?_)
        refine lv_goto (tgt := 25) hx hb d_X12_breaths_44 (by decide) ?_
        exact ih r0 a1 a2 x41 S38 _ _ _ F (lv_sub hl [1, 2, 3, 0] rfl) hf
  unfold m_X12_breaths at hf
  refine lv_iload_n hx hb d_X12_breaths_0 rfl (lv_at hl 2 rfl) ?_
  refine lv_iconst (v := (-1)) hx hb d_X12_breaths_1 (by decide) ?_
  refine lv_iconst (v := 2) hx hb d_X12_breaths_2 (by decide) ?_
  refine fm_rcr G F hf (fun r ho => fm_runS (k := 3) Z G F N (As := [.int a2, .int (-1), .int 2]) (rest := []) (c_X12_in hE ho _) kw_1004 kw_1005 kw_6 kw_1006 yd_X12_in rfl (by decide) (by decide) hl.1 (Nat.le_of_ble_eq_true rfl) d_X12_breaths_3 (Nat.le_refl 0) (Nat.le_refl 0)) (fun x3 H locs _ F hf => ?_)
  refine lv_if_ne (tgt := 11) hx hb d_X12_breaths_6 (by decide) (fun c6 => ?_) (fun c6 => ?_)
  · have hf := fm_ig c6 hf
    refine lv_iload_n hx hb d_X12_breaths_11 rfl (lv_at hl 1 rfl) ?_
    refine lv_iconst (v := 1) hx hb d_X12_breaths_12 (by decide) ?_
    refine lv_iconst (v := 3) hx hb d_X12_breaths_13 (by decide) ?_
    refine fm_rcr G F hf (fun r ho => fm_runS (k := 3) Z G F N (As := [.int a1, .int 1, .int 3]) (rest := []) (c_X12_in hE ho _) kw_1004 kw_1005 kw_6 kw_1006 yd_X12_in rfl (by decide) (by decide) hl.1 (Nat.le_of_ble_eq_true rfl) d_X12_breaths_14 (Nat.le_refl 0) (Nat.le_refl 0)) (fun x14 H locs _ F hf => ?_)
    refine lv_if_ne (tgt := 23) hx hb d_X12_breaths_17 (by decide) (fun c17 => ?_) (fun c17 => ?_)
    · have hf := fm_ig c17 hf
      refine lv_iconst (v := 0) hx hb d_X12_breaths_23 (by decide) ?_
      refine lv_topi (fun x24 ex24 => ?_)
      have hf := fm_let_at ex24 hf
      refine lv_istore_n (lv' := [(3, .int x24), (0, .ref (ad r0)), (1, .int a1), (2, .int a2)]) hx hb d_X12_breaths_24 rfl hl (by decide) rfl (fun ls hl => ?_)
      exact (hL fm_LF) r0 a1 a2 x24 S _ _ _ F (lv_sub hl [1, 2, 3, 0] rfl) hf
    · have hf := fm_ip c17 hf
      refine lv_bipush (v := (-2)) hx hb d_X12_breaths_20 (by decide) ?_
      rw [← hQ]; exact fm_reti Z hr hlk F d_X12_breaths_22 (Prod.mk.inj (Option.some.inj hf)).1 (Prod.mk.inj (Option.some.inj hf)).2
  · have hf := fm_ip c6 hf
    refine lv_iconst (v := (-1)) hx hb d_X12_breaths_9 (by decide) ?_
    rw [← hQ]; exact fm_reti Z hr hlk F d_X12_breaths_10 (Prod.mk.inj (Option.some.inj hf)).1 (Prod.mk.inj (Option.some.inj hf)).2
