/-! models and contracts (tool/gen.py prints them) -/
/-! String constants: length, charAt (tool/part06.py prints the decode rows) -/
theorem d_J0_coder_7d493_0 : decode prog_16_method_152_code 0 = .ok (.getstatic 38, 3) := by decide +kernel
theorem d_J0_coder_7d493_3 : decode prog_16_method_152_code 3 = .ok (.ifCond .eq 10, 3) := by decide +kernel
theorem d_J0_coder_7d493_6 : decode prog_16_method_152_code 6 = .ok (.aload_n 0, 1) := by decide +kernel
theorem d_J0_coder_7d493_7 : decode prog_16_method_152_code 7 = .ok (.getfield 15, 3) := by decide +kernel
theorem d_J0_coder_7d493_10 : decode prog_16_method_152_code 10 = .ok (.goto 4, 3) := by decide +kernel
theorem d_J0_coder_7d493_13 : decode prog_16_method_152_code 13 = .ok (.iconst 1, 1) := by decide +kernel
theorem d_J0_coder_7d493_14 : decode prog_16_method_152_code 14 = .ok (.ireturn, 1) := by decide +kernel
theorem d_J0_isLatin1_aae02_0 : decode prog_16_method_154_code 0 = .ok (.getstatic 38, 3) := by decide +kernel
theorem d_J0_isLatin1_aae02_3 : decode prog_16_method_154_code 3 = .ok (.ifCond .eq 14, 3) := by decide +kernel
theorem d_J0_isLatin1_aae02_6 : decode prog_16_method_154_code 6 = .ok (.aload_n 0, 1) := by decide +kernel
theorem d_J0_isLatin1_aae02_7 : decode prog_16_method_154_code 7 = .ok (.getfield 15, 3) := by decide +kernel
theorem d_J0_isLatin1_aae02_10 : decode prog_16_method_154_code 10 = .ok (.ifCond .ne 7, 3) := by decide +kernel
theorem d_J0_isLatin1_aae02_13 : decode prog_16_method_154_code 13 = .ok (.iconst 1, 1) := by decide +kernel
theorem d_J0_isLatin1_aae02_14 : decode prog_16_method_154_code 14 = .ok (.goto 4, 3) := by decide +kernel
theorem d_J0_isLatin1_aae02_17 : decode prog_16_method_154_code 17 = .ok (.iconst 0, 1) := by decide +kernel
theorem d_J0_isLatin1_aae02_18 : decode prog_16_method_154_code 18 = .ok (.ireturn, 1) := by decide +kernel
theorem d_J0_length_8abf5_0 : decode prog_16_method_54_code 0 = .ok (.aload_n 0, 1) := by decide +kernel
theorem d_J0_length_8abf5_1 : decode prog_16_method_54_code 1 = .ok (.getfield 9, 3) := by decide +kernel
theorem d_J0_length_8abf5_4 : decode prog_16_method_54_code 4 = .ok (.arraylength, 1) := by decide +kernel
theorem d_J0_length_8abf5_5 : decode prog_16_method_54_code 5 = .ok (.aload_n 0, 1) := by decide +kernel
theorem d_J0_length_8abf5_6 : decode prog_16_method_54_code 6 = .ok (.invokevirtual 335, 3) := by decide +kernel
theorem d_J0_length_8abf5_9 : decode prog_16_method_54_code 9 = .ok (.ishr, 1) := by decide +kernel
theorem d_J0_length_8abf5_10 : decode prog_16_method_54_code 10 = .ok (.ireturn, 1) := by decide +kernel
theorem d_J0_charAt_5068e_0 : decode prog_16_method_56_code 0 = .ok (.aload_n 0, 1) := by decide +kernel
theorem d_J0_charAt_5068e_1 : decode prog_16_method_56_code 1 = .ok (.invokevirtual 492, 3) := by decide +kernel
theorem d_J0_charAt_5068e_4 : decode prog_16_method_56_code 4 = .ok (.ifCond .eq 12, 3) := by decide +kernel
theorem d_J0_charAt_5068e_7 : decode prog_16_method_56_code 7 = .ok (.aload_n 0, 1) := by decide +kernel
theorem d_J0_charAt_5068e_8 : decode prog_16_method_56_code 8 = .ok (.getfield 9, 3) := by decide +kernel
theorem d_J0_charAt_5068e_11 : decode prog_16_method_56_code 11 = .ok (.iload_n 1, 1) := by decide +kernel
theorem d_J0_charAt_5068e_12 : decode prog_16_method_56_code 12 = .ok (.invokestatic 495, 3) := by decide +kernel
theorem d_J0_charAt_5068e_15 : decode prog_16_method_56_code 15 = .ok (.ireturn, 1) := by decide +kernel
theorem d_J0_charAt_5068e_16 : decode prog_16_method_56_code 16 = .ok (.aload_n 0, 1) := by decide +kernel
theorem d_J0_charAt_5068e_17 : decode prog_16_method_56_code 17 = .ok (.getfield 9, 3) := by decide +kernel
theorem d_J0_charAt_5068e_20 : decode prog_16_method_56_code 20 = .ok (.iload_n 1, 1) := by decide +kernel
theorem d_J0_charAt_5068e_21 : decode prog_16_method_56_code 21 = .ok (.invokestatic 498, 3) := by decide +kernel
theorem d_J0_charAt_5068e_24 : decode prog_16_method_56_code 24 = .ok (.ireturn, 1) := by decide +kernel
theorem d_J0_checkIndex_df160_0 : decode prog_16_method_155_code 0 = .ok (.iload_n 0, 1) := by decide +kernel
theorem d_J0_checkIndex_df160_1 : decode prog_16_method_155_code 1 = .ok (.iload_n 1, 1) := by decide +kernel
theorem d_J0_checkIndex_df160_2 : decode prog_16_method_155_code 2 = .ok (.getstatic 1053, 3) := by decide +kernel
theorem d_J0_checkIndex_df160_5 : decode prog_16_method_155_code 5 = .ok (.invokestatic 1059, 3) := by decide +kernel
theorem d_J0_checkIndex_df160_8 : decode prog_16_method_155_code 8 = .ok (.pop, 1) := by decide +kernel
theorem d_J0_checkIndex_df160_9 : decode prog_16_method_155_code 9 = .ok (.return_, 1) := by decide +kernel
theorem d_J1_charAt_3b067_0 : decode prog_17_method_2_code 0 = .ok (.iload_n 1, 1) := by decide +kernel
theorem d_J1_charAt_3b067_1 : decode prog_17_method_2_code 1 = .ok (.aload_n 0, 1) := by decide +kernel
theorem d_J1_charAt_3b067_2 : decode prog_17_method_2_code 2 = .ok (.arraylength, 1) := by decide +kernel
theorem d_J1_charAt_3b067_3 : decode prog_17_method_2_code 3 = .ok (.invokestatic 9, 3) := by decide +kernel
theorem d_J1_charAt_3b067_6 : decode prog_17_method_2_code 6 = .ok (.aload_n 0, 1) := by decide +kernel
theorem d_J1_charAt_3b067_7 : decode prog_17_method_2_code 7 = .ok (.iload_n 1, 1) := by decide +kernel
theorem d_J1_charAt_3b067_8 : decode prog_17_method_2_code 8 = .ok (.baload, 1) := by decide +kernel
theorem d_J1_charAt_3b067_9 : decode prog_17_method_2_code 9 = .ok (.sipush 255, 3) := by decide +kernel
theorem d_J1_charAt_3b067_12 : decode prog_17_method_2_code 12 = .ok (.iand, 1) := by decide +kernel
theorem d_J1_charAt_3b067_13 : decode prog_17_method_2_code 13 = .ok (.i2c, 1) := by decide +kernel
theorem d_J1_charAt_3b067_14 : decode prog_17_method_2_code 14 = .ok (.ireturn, 1) := by decide +kernel
theorem d_J3_checkIndex_8e157_0 : decode prog_21_method_11_code 0 = .ok (.iload_n 0, 1) := by decide +kernel
theorem d_J3_checkIndex_8e157_1 : decode prog_21_method_11_code 1 = .ok (.ifCond .lt 8, 3) := by decide +kernel
theorem d_J3_checkIndex_8e157_4 : decode prog_21_method_11_code 4 = .ok (.iload_n 0, 1) := by decide +kernel
theorem d_J3_checkIndex_8e157_5 : decode prog_21_method_11_code 5 = .ok (.iload_n 1, 1) := by decide +kernel
theorem d_J3_checkIndex_8e157_6 : decode prog_21_method_11_code 6 = .ok (.if_icmp .lt 10, 3) := by decide +kernel
theorem d_J3_checkIndex_8e157_9 : decode prog_21_method_11_code 9 = .ok (.aload_n 2, 1) := by decide +kernel
theorem d_J3_checkIndex_8e157_10 : decode prog_21_method_11_code 10 = .ok (.iload_n 0, 1) := by decide +kernel
theorem d_J3_checkIndex_8e157_11 : decode prog_21_method_11_code 11 = .ok (.iload_n 1, 1) := by decide +kernel
theorem d_J3_checkIndex_8e157_12 : decode prog_21_method_11_code 12 = .ok (.invokestatic 95, 3) := by decide +kernel
theorem d_J3_checkIndex_8e157_15 : decode prog_21_method_11_code 15 = .ok (.athrow, 1) := by decide +kernel
theorem d_J3_checkIndex_8e157_16 : decode prog_21_method_11_code 16 = .ok (.iload_n 0, 1) := by decide +kernel
theorem d_J3_checkIndex_8e157_17 : decode prog_21_method_11_code 17 = .ok (.ireturn, 1) := by decide +kernel
def fm_sl (t : Nat) : Nat := fm_slen.getD t 0
def fm_chr (t i : Nat) : Int32 := (fm_sbyt.getD t []).getD i 0
theorem fm_chr_ok : ∀ t, t < 6 → ∀ i, i < fm_sl t → ((fm_chr t i &&& 255).toUInt32 % 65536).toInt32 = fm_chr t i ∧ narrow .char (.int (fm_chr t i)) = .int (fm_chr t i) := by decide +kernel
theorem fm_sl_ok : ∀ t, t < 6 → nI (fm_sl t) >>> ((0 : Int32) &&& 31) = nI (fm_sl t) ∧ fm_sl t < 10 := by decide +kernel
def fm_slen_ {α : Type} (t : Nat) (K : Int32 → Option α) : Option α := if t < 6 then K (nI (fm_sl t)) else none
def fm_sat_ {α : Type} (t : Nat) (i : Int32) (K : Int32 → Option α) : Option α := if t < 6 ∧ fm_inb i (fm_sl t) = true then K (fm_chr t i.toNatClampNeg) else none
set_option maxHeartbeats 4000000 in
theorem c_coder {l : Launch} {D : va_G} {ids kap lam : Nat → Nat} {RL : List Nat} {ad sk sv : Nat → Nat} {S : fm_M} (hE : fm_E kap RL ad) {t : Nat} (ht : t < 6) (sz : Nat) : fm_MI l y_J0_coder_7d493 prog_16_method_152_code 1 (Option.some Jvm.ClassFile.FieldType.byte) 0 D ids kap lam RL ad sk sv S [.ref (sk t)] sz 0 S := by
  refine fm_open rfl hE (Nat.le_of_ble_eq_true rfl) (fun p e s m args below meth c ls Z hr hlk G F N hl hsz => ?_)
  subst hsz
  obtain ⟨hx, hb, hml, hown, hts⟩ := id Z
  obtain ⟨-, -, -, hS6, hZ, hZq⟩ := id N
  have hl : lv_has ls 1 [(0, .ref (sk t))] := hl
  refine va_gets hx hb hZ F.2 hown (hts _ (fm_in kw_244 rfl)) (fun _ h => h) d_J0_coder_7d493_0 ?_
  refine lv_if_eq (tgt := 13) hx hb d_J0_coder_7d493_3 (by decide) (fun c3 => absurd c3 (by decide)) (fun _ => ?_)
  refine lv_aload_n hx hb d_J0_coder_7d493_6 rfl (lv_at hl 0 rfl) ?_
  refine vk_getf hx hb (hS6.1 t ht).2.1 F.2 hown (hts _ (fm_in kw_1345 rfl)) (fun _ h => h) d_J0_coder_7d493_7 ?_
  refine lv_goto (tgt := 14) hx hb d_J0_coder_7d493_10 (by decide) ?_
  exact W.zret (v := 0) hx hb hr (by decide) (fun t ht hW => ⟨⟨0, (), rfl, rfl, by show va_P D fm_cls (fm_w ids kap lam RL ad S) t.heap; rw [ht]; exact F.1⟩, F.2.F ht⟩) F.2.2.2 d_J0_coder_7d493_14 hlk
set_option maxHeartbeats 4000000 in
theorem c_isLatin1 {l : Launch} {D : va_G} {ids kap lam : Nat → Nat} {RL : List Nat} {ad sk sv : Nat → Nat} {S : fm_M} (hE : fm_E kap RL ad) {t : Nat} (ht : t < 6) (sz : Nat) : fm_MI l y_J0_isLatin1_aae02 prog_16_method_154_code 1 (Option.some Jvm.ClassFile.FieldType.boolean) 0 D ids kap lam RL ad sk sv S [.ref (sk t)] sz 1 S := by
  refine fm_open rfl hE (Nat.le_of_ble_eq_true rfl) (fun p e s m args below meth c ls Z hr hlk G F N hl hsz => ?_)
  subst hsz
  obtain ⟨hx, hb, hml, hown, hts⟩ := id Z
  obtain ⟨-, -, -, hS6, hZ, hZq⟩ := id N
  have hl : lv_has ls 1 [(0, .ref (sk t))] := hl
  refine va_gets hx hb hZ F.2 hown (hts _ (fm_in kw_244 rfl)) (fun _ h => h) d_J0_isLatin1_aae02_0 ?_
  refine lv_if_eq (tgt := 17) hx hb d_J0_isLatin1_aae02_3 (by decide) (fun c3 => absurd c3 (by decide)) (fun _ => ?_)
  refine lv_aload_n hx hb d_J0_isLatin1_aae02_6 rfl (lv_at hl 0 rfl) ?_
  refine vk_getf hx hb (hS6.1 t ht).2.1 F.2 hown (hts _ (fm_in kw_1345 rfl)) (fun _ h => h) d_J0_isLatin1_aae02_7 ?_
  refine lv_if_ne (tgt := 17) hx hb d_J0_isLatin1_aae02_10 (by decide) (fun c3 => absurd rfl c3) (fun _ => ?_)
  refine lv_iconst (v := 1) hx hb d_J0_isLatin1_aae02_13 (by decide) ?_
  refine lv_goto (tgt := 18) hx hb d_J0_isLatin1_aae02_14 (by decide) ?_
  exact W.zret (v := 1) hx hb hr (by decide) (fun t ht hW => ⟨⟨1, (), rfl, rfl, by show va_P D fm_cls (fm_w ids kap lam RL ad S) t.heap; rw [ht]; exact F.1⟩, F.2.F ht⟩) F.2.2.2 d_J0_isLatin1_aae02_18 hlk
set_option maxHeartbeats 4000000 in
theorem c_pcheck {l : Launch} {D : va_G} {ids kap lam : Nat → Nat} {RL : List Nat} {ad sk sv : Nat → Nat} {S : fm_M} (hE : fm_E kap RL ad) {i n : Int32} {v : Value} (hv : v = .null ∨ ∃ a, v = .ref a) (h0 : ¬ i < 0) (h1 : i < n) (sz : Nat) : fm_MI l y_J3_checkIndex_8e157 prog_21_method_11_code 3 (Option.some Jvm.ClassFile.FieldType.int) 0 D ids kap lam RL ad sk sv S [.int i, .int n, v] sz i S := by
  have hc1 : v.category = 1 := by rcases hv with h | ⟨a, h⟩ <;> subst h <;> rfl
  refine fm_open rfl hE (by rcases hv with h | ⟨a, h⟩ <;> subst h <;> exact Nat.le_of_ble_eq_true rfl) (fun p e s m args below meth c ls Z hr hlk G F N hl hsz => ?_)
  subst hsz
  obtain ⟨hx, hb, hml, hown, hts⟩ := id Z
  have hl : lv_has ls 3 [(0, .int i), (1, .int n), (2, v)] := by
    rcases hv with h | ⟨a, h⟩ <;> subst h <;> exact hl
  refine lv_iload_n hx hb d_J3_checkIndex_8e157_0 rfl (lv_at hl 0 rfl) ?_
  refine lv_if_lt (tgt := 9) hx hb d_J3_checkIndex_8e157_1 (by decide) (fun c => absurd c h0) (fun _ => ?_)
  refine lv_iload_n hx hb d_J3_checkIndex_8e157_4 rfl (lv_at hl 0 rfl) ?_
  refine lv_iload_n hx hb d_J3_checkIndex_8e157_5 rfl (lv_at hl 1 rfl) ?_
  refine lv_icmp_lt (tgt := 16) hx hb d_J3_checkIndex_8e157_6 (by decide) (fun _ => ?_) (fun c => absurd h1 c)
  refine lv_iload_n hx hb d_J3_checkIndex_8e157_16 rfl (lv_at hl 0 rfl) ?_
  exact fm_reti Z hr hlk F d_J3_checkIndex_8e157_17 rfl rfl
set_option maxHeartbeats 4000000 in
theorem c_scheck {l : Launch} {D : va_G} {ids kap lam : Nat → Nat} {RL : List Nat} {ad sk sv : Nat → Nat} {S : fm_M} (hE : fm_E kap RL ad) {i n : Int32} (h0 : ¬ i < 0) (h1 : i < n) (sz : Nat) : fm_MV l y_J0_checkIndex_df160 prog_16_method_155_code 2 (Option.none : Option Jvm.ClassFile.FieldType) 1 D ids kap lam RL ad sk sv S [.int i, .int n] sz S := by
  refine fm_open rfl hE (Nat.le_of_ble_eq_true rfl) (fun p e s m args below meth c ls Z hr hlk G F N hl hsz => ?_)
  subst hsz
  obtain ⟨hx, hb, hml, hown, hts⟩ := id Z
  obtain ⟨-, -, -, hS6, hZ, hZq⟩ := id N
  have hl : lv_has ls 2 [(0, .int i), (1, .int n)] := hl
  refine lv_iload_n hx hb d_J0_checkIndex_df160_0 rfl (lv_at hl 0 rfl) ?_
  refine lv_iload_n hx hb d_J0_checkIndex_df160_1 rfl (lv_at hl 1 rfl) ?_
  obtain ⟨v, hv, hZ2⟩ : ∃ v, (v = .null ∨ ∃ a, v = .ref a) ∧ va_Z "jdk/internal/util/Preconditions" "SIOOBE_FORMATTER" "Ljava/util/function/BiFunction;" v (fm_A RL ad s.heap.size) s s.heap := by
    rcases hZq with h | ⟨a, h⟩
    · exact ⟨_, Or.inl rfl, h⟩
    · exact ⟨_, Or.inr ⟨a, rfl⟩, h⟩
  refine va_gets hx hb hZ2 F.2 hown (hts _ (fm_in kw_260 rfl)) (fun _ h => h) d_J0_checkIndex_df160_2 ?_
  refine fm_rcr (o := some i) (K := fun r => some r) (res := i) G F rfl (fun r ho => by cases ho; exact fm_runS (k := 3) Z G F N (As := [.int i, .int n, v]) (rest := []) (c_pcheck hE hv h0 h1 _) kw_262 kw_263 kw_9 kw_264 yd_J3_checkIndex_8e157 rfl (by decide) (by decide) hl.1 (Nat.le_of_ble_eq_true rfl) d_J0_checkIndex_df160_5 (Nat.le_refl 0) (Nat.le_refl 0)) (fun r H locs ho F hf => ?_)
  refine lv_pop hx hb d_J0_checkIndex_df160_8 rfl ?_
  exact fm_retv Z hr hlk F d_J0_checkIndex_df160_9 rfl
set_option maxHeartbeats 4000000 in
theorem c_latin {l : Launch} {D : va_G} {ids kap lam : Nat → Nat} {RL : List Nat} {ad sk sv : Nat → Nat} {S : fm_M} (hE : fm_E kap RL ad) {t : Nat} {i : Int32} (ht : t < 6) (hi : fm_inb i (fm_sl t) = true) (sz : Nat) : fm_MI l y_J1_charAt_3b067 prog_17_method_2_code 2 (Option.some Jvm.ClassFile.FieldType.char) 2 D ids kap lam RL ad sk sv S [.ref (sv t), .int i] sz (fm_chr t i.toNatClampNeg) S := by
  refine fm_open rfl hE (Nat.le_of_ble_eq_true rfl) (fun p e s m args below meth c ls Z hr hlk G F N hl hsz => ?_)
  subst hsz
  obtain ⟨hx, hb, hml, hown, hts⟩ := id Z
  obtain ⟨-, -, -, hS6, hZ, hZq⟩ := id N
  have hl : lv_has ls 2 [(0, .ref (sv t)), (1, .int i)] := hl
  have hin : vp_in i (fm_sl t) := fm_inb_in hi
  obtain ⟨j, hj, ej⟩ := vp_in_of hin (by have := (fm_sl_ok t ht).2; omega)
  have hT : va_T .byte (sv t) (fm_sl t) (fun j => .int ((fm_sbyt.getD t []).getD j 0)) (fm_A RL ad s.heap.size) s s.heap := (hS6.1 t ht).2.2.2
  refine lv_iload_n hx hb d_J1_charAt_3b067_0 rfl (lv_at hl 1 rfl) ?_
  refine lv_aload_n hx hb d_J1_charAt_3b067_1 rfl (lv_at hl 0 rfl) ?_
  refine va_tlen (v := nI (fm_sl t)) hx hb hT F.2 rfl d_J1_charAt_3b067_2 ?_
  have h10 := (fm_sl_ok t ht).2
  refine fm_rcv (o := some S) (K := fun r => some r) (res := S) (rest := []) (a := ([.int i, .int (nI (fm_sl t))] : List Value).toArray) G F rfl (fun r ho => by cases ho; exact fm_runS (k := 2) Z G F N (As := [.int i, .int (nI (fm_sl t))]) (rest := []) (c_scheck hE (by rw [ej]; exact nI_pos (by omega)) (by rw [ej]; exact nI_lt hj (by omega)) _) kw_257 kw_258 kw_7 kw_259 yd_J0_checkIndex_df160 rfl (by decide) (by decide) hl.1 (Nat.le_of_ble_eq_true rfl) d_J1_charAt_3b067_3 (Nat.le_refl 0) (Nat.le_refl 0)) (fun u H locs ho F hf => ?_)
  cases ho
  refine lv_aload_n hx hb d_J1_charAt_3b067_6 rfl (lv_at hl 0 rfl) ?_
  refine lv_iload_n hx hb d_J1_charAt_3b067_7 rfl (lv_at hl 1 rfl) ?_
  refine va_tb (v := .int (fm_chr t i.toNatClampNeg)) hx hb hT F.2 hin rfl d_J1_charAt_3b067_8 ?_
  refine lv_sipush (v := 255) hx hb d_J1_charAt_3b067_9 (by decide) ?_
  refine lv_iand hx hb d_J1_charAt_3b067_12 ?_
  have hk : i.toNatClampNeg < fm_sl t := by rw [ej, nI_clamp (by omega)]; exact hj
  obtain ⟨e1, e2⟩ := fm_chr_ok t ht _ hk
  refine lv_i2c hx hb d_J1_charAt_3b067_13 e1 ?_
  exact W.zret (v := fm_chr t i.toNatClampNeg) hx hb hr e2 (fun t ht hW => ⟨⟨_, (), rfl, rfl, by show va_P D fm_cls (fm_w ids kap lam RL ad S) t.heap; rw [ht]; exact F.1⟩, F.2.F ht⟩) F.2.2.2 d_J1_charAt_3b067_14 hlk
section STRCALL
variable {p : Program} {l : Launch} {e : Env} {R : Room} {s : State} {m : MethodId} {args : Array Value} {below : List Frame} {meth : Method} {c : Code} {H : Heap} {locs : List Loc} {cells slots : Nat} {Q : State → Prop}
variable {cc : ByteArray} {pc nL : Nat} {ls : Array Slot} {rest st0 : List Value} {own : String} {D : va_G} {ids kap lam : Nat → Nat} {RL : List Nat} {ad sk sv : Nat → Nat} {S : fm_M} {A : Nat → Prop} {α : Type} {res : α}
variable {y : MethodName} {b : ByteArray} {n h h0 idx k : Nat} {ret : Option FieldType} {As : List Value} {Qc : Array Value → State → Outcome → State → Prop}
theorem fm_runVS (Z : CallFix p m c cc nL s args fm_AW own) (G : fm_G D ids kap RL ad s A) (F : fm_F D ids kap lam RL ad S A s.heap H locs) (N : fm_NW sk sv A s s.heap) {t : Nat} (ht : t < 6)
    (hM : Met l y (fm_ws y b n ret) (fm_rm h) (fm_Pre D ids kap lam RL ad sk sv S (.ref (sk t) :: As) H.size) Qc 0 0 (fm_A RL ad H.size)) (hcn : "java/lang/String" = y.cls)
    (k1 : Cond.methodLink own idx y ∈ lw_tbl) (k2 : Cond.instanceMethod y ∈ lw_tbl) (k3 : Cond.selects y.cls y y ∈ lw_tbl) (k4 : Cond.initialized y.cls ∈ lw_tbl) (k5 : Cond.code y b n ret ∈ lw_tbl)
    (hd : y.cls ≠ "java/lang/invoke/MethodHandle" ∧ y.cls ≠ "java/lang/invoke/VarHandle" ∧ (parseMethodDescriptor y.desc).map (fun d => d.parameters.length) = some k) (hk : As.length = k) (hn : n ≤ 21) (hh : h + 1 ≤ h0) (hl : ls.size = nL) (hW : (rest.map fun v => v.category).sum ≤ 8) (hdg : decode cc pc = .ok (.invokevirtual idx, 3)) :
    cells ≤ 0 → slots ≤ 0 → va_Run p l e (fm_rm h0) s m args below meth c H locs cells slots 0 0 (F0 m pc ls (As.reverse ++ .ref (sk t) :: rest)) rest (Qc (Value.ref (sk t) :: As).toArray) (fm_A RL ad H.size) := by
  intro hc0 hs0
  obtain ⟨hx, hb, hml, hown, hts⟩ := Z
  exact va_runV (n := k) ⟨hx, hb, hml, hown, hts⟩ hM ⟨fm_callB hts k1 k4 k5 hd hn hh, hts _ (fm_in k2 rfl), hts _ (fm_in k3 rfl)⟩ ⟨fm_blind, by rw [← hcn]; exact vk_recv N.2.2.2.1 ht F.2, fun U hU hW => fm_Pre_at G F N _ U hU hW⟩ rfl hk hl rfl (lv_room hW) hdg ⟨by show cells + 0 ≤ 0; omega, by show slots + 0 ≤ 0; omega⟩
end STRCALL
set_option maxHeartbeats 4000000 in
theorem c_length {l : Launch} {D : va_G} {ids kap lam : Nat → Nat} {RL : List Nat} {ad sk sv : Nat → Nat} {S : fm_M} (hE : fm_E kap RL ad) {t : Nat} (ht : t < 6) (sz : Nat) : fm_MI l y_J0_length_8abf5 prog_16_method_54_code 1 (Option.some Jvm.ClassFile.FieldType.int) 1 D ids kap lam RL ad sk sv S [.ref (sk t)] sz (nI (fm_sl t)) S := by
  refine fm_open rfl hE (Nat.le_of_ble_eq_true rfl) (fun p e s m args below meth c ls Z hr hlk G F N hl hsz => ?_)
  subst hsz
  obtain ⟨hx, hb, hml, hown, hts⟩ := id Z
  obtain ⟨-, -, -, hS6, hZ, hZq⟩ := id N
  have hl : lv_has ls 1 [(0, .ref (sk t))] := hl
  have hT : va_T .byte (sv t) (fm_sl t) (fun j => .int ((fm_sbyt.getD t []).getD j 0)) (fm_A RL ad s.heap.size) s s.heap := (hS6.1 t ht).2.2.2
  refine lv_aload_n hx hb d_J0_length_8abf5_0 rfl (lv_at hl 0 rfl) ?_
  refine vk_getf hx hb (hS6.1 t ht).2.2.1 F.2 hown (hts _ (fm_in kw_1344 rfl)) (fun _ h => h) d_J0_length_8abf5_1 ?_
  refine va_tlen (v := nI (fm_sl t)) hx hb hT F.2 rfl d_J0_length_8abf5_4 ?_
  refine lv_aload_n hx hb d_J0_length_8abf5_5 rfl (lv_at hl 0 rfl) ?_
  refine fm_rcr (o := some 0) (K := fun r => some r) (res := 0) G F rfl (fun r ho => by cases ho; exact fm_runVS (k := 0) Z G F N ht (As := []) (rest := [.int (nI (fm_sl t))]) (c_coder hE ht _) rfl kw_240 kw_241 kw_242 kw_7 kw_243 yd_J0_coder_7d493 rfl (by decide) (by decide) hl.1 (Nat.le_of_ble_eq_true rfl) d_J0_length_8abf5_6 (Nat.le_refl 0) (Nat.le_refl 0)) (fun r H locs ho F hf => ?_)
  cases ho
  refine lv_ishr hx hb d_J0_length_8abf5_9 ?_
  exact fm_reti Z hr hlk F d_J0_length_8abf5_10 (fm_sl_ok t ht).1 rfl
set_option maxHeartbeats 4000000 in
theorem c_charAt {l : Launch} {D : va_G} {ids kap lam : Nat → Nat} {RL : List Nat} {ad sk sv : Nat → Nat} {S : fm_M} (hE : fm_E kap RL ad) {t : Nat} {i : Int32} (ht : t < 6) (hi : fm_inb i (fm_sl t) = true) (sz : Nat) : fm_MI l y_J0_charAt_5068e prog_16_method_56_code 2 (Option.some Jvm.ClassFile.FieldType.char) 3 D ids kap lam RL ad sk sv S [.ref (sk t), .int i] sz (fm_chr t i.toNatClampNeg) S := by
  refine fm_open rfl hE (Nat.le_of_ble_eq_true rfl) (fun p e s m args below meth c ls Z hr hlk G F N hl hsz => ?_)
  subst hsz
  obtain ⟨hx, hb, hml, hown, hts⟩ := id Z
  obtain ⟨-, -, -, hS6, hZ, hZq⟩ := id N
  have hl : lv_has ls 2 [(0, .ref (sk t)), (1, .int i)] := hl
  refine lv_aload_n hx hb d_J0_charAt_5068e_0 rfl (lv_at hl 0 rfl) ?_
  refine fm_rcr (o := some 1) (K := fun r => some r) (res := 1) G F rfl (fun r ho => by cases ho; exact fm_runVS (k := 0) Z G F N ht (As := []) (rest := []) (c_isLatin1 hE ht _) rfl kw_250 kw_251 kw_252 kw_7 kw_253 yd_J0_isLatin1_aae02 rfl (by decide) (by decide) hl.1 (Nat.le_of_ble_eq_true rfl) d_J0_charAt_5068e_1 (Nat.le_refl 0) (Nat.le_refl 0)) (fun r H locs ho F hf => ?_)
  cases ho
  refine lv_if_eq (tgt := 16) hx hb d_J0_charAt_5068e_4 (by decide) (fun c3 => absurd c3 (by decide)) (fun _ => ?_)
  refine lv_aload_n hx hb d_J0_charAt_5068e_7 rfl (lv_at hl 0 rfl) ?_
  refine vk_getf hx hb (hS6.1 t ht).2.2.1 F.2 hown (hts _ (fm_in kw_1344 rfl)) (fun _ h => h) d_J0_charAt_5068e_8 ?_
  refine lv_iload_n hx hb d_J0_charAt_5068e_11 rfl (lv_at hl 1 rfl) ?_
  refine fm_rcr (o := some (fm_chr t i.toNatClampNeg)) (K := fun r => some r) (res := fm_chr t i.toNatClampNeg) G F rfl (fun r ho => by cases ho; exact fm_runS (k := 2) Z G F N (As := [.ref (sv t), .int i]) (rest := []) (c_latin hE ht hi _) kw_254 kw_255 kw_8 kw_256 yd_J1_charAt_3b067 rfl (by decide) (by decide) hl.1 (Nat.le_of_ble_eq_true rfl) d_J0_charAt_5068e_12 (Nat.le_refl 0) (Nat.le_refl 0)) (fun r H locs ho F hf => ?_)
  cases ho
  have hk : i.toNatClampNeg < fm_sl t := by
    obtain ⟨j, hj, ej⟩ := vp_in_of (fm_inb_in hi) (by have := (fm_sl_ok t ht).2; omega)
    rw [ej, nI_clamp (by have := (fm_sl_ok t ht).2; omega)]
    exact hj
  exact W.zret (v := fm_chr t i.toNatClampNeg) hx hb hr (fm_chr_ok t ht _ hk).2 (fun t ht hW => ⟨⟨_, (), rfl, rfl, by show va_P D fm_cls (fm_w ids kap lam RL ad S) t.heap; rw [ht]; exact F.1⟩, F.2.F ht⟩) F.2.2.2 d_J0_charAt_5068e_15 hlk
section STRRULE
variable {p : Program} {l : Launch} {e : Env} {R : Room} {s : State} {m : MethodId} {args : Array Value} {below : List Frame} {meth : Method} {c : Code} {H : Heap} {locs : List Loc} {Q : State → Prop}
variable {cc : ByteArray} {pc nL h0 idx : Nat} {ls : Array Slot} {rest : List Value} {own : String} {D : va_G} {ids kap lam : Nat → Nat} {RL : List Nat} {ad sk sv : Nat → Nat} {S : fm_M} {α : Type} {res : α}
theorem fm_rslen (hE : fm_E kap RL ad) {A : Nat → Prop} (Z : CallFix p m c cc nL s args fm_AW own) (G : fm_G D ids kap RL ad s A) (F : fm_F D ids kap lam RL ad S A s.heap H locs) (N : fm_NW sk sv A s s.heap) (hl : ls.size = nL) {t : Nat} {K : Int32 → Option α} (hf : fm_slen_ t K = some res) (k1 : Cond.methodLink own idx y_J0_length_8abf5 ∈ lw_tbl) (hdg : decode cc pc = .ok (.invokevirtual idx, 3)) (hh : 2 ≤ h0) (hW : (rest.map fun v => v.category).sum ≤ 8)
    (kk : ∀ x H1 locs1, x = nI (fm_sl t) → fm_F D ids kap lam RL ad S A s.heap H1 locs1 → K x = some res → W p l e (fm_rm h0) s m args below meth c H1 locs1 0 0 Q (F0 m (pc + 3) ls (.int x :: rest))) : W p l e (fm_rm h0) s m args below meth c H locs 0 0 Q (F0 m pc ls (.ref (sk t) :: rest)) := by
  obtain ⟨ht, hf⟩ := fm_some hf
  refine fm_rcr (o := some (nI (fm_sl t))) (K := K) (res := res) G F hf (fun r ho => by cases ho; exact fm_runVS (k := 0) Z G F N ht (As := []) (rest := rest) (c_length hE ht _) rfl k1 kw_237 kw_238 kw_7 kw_239 yd_J0_length_8abf5 rfl (by decide) hh hl hW hdg (Nat.le_refl 0) (Nat.le_refl 0)) (fun r H locs ho F hf => kk r H locs (Option.some.inj ho).symm F hf)
theorem fm_rsat (hE : fm_E kap RL ad) {A : Nat → Prop} (Z : CallFix p m c cc nL s args fm_AW own) (G : fm_G D ids kap RL ad s A) (F : fm_F D ids kap lam RL ad S A s.heap H locs) (N : fm_NW sk sv A s s.heap) (hl : ls.size = nL) {t : Nat} {i : Int32} {K : Int32 → Option α} (hf : fm_sat_ t i K = some res) (k1 : Cond.methodLink own idx y_J0_charAt_5068e ∈ lw_tbl) (hdg : decode cc pc = .ok (.invokevirtual idx, 3)) (hh : 4 ≤ h0) (hW : (rest.map fun v => v.category).sum ≤ 8)
    (kk : ∀ x H1 locs1, x = fm_chr t i.toNatClampNeg → fm_F D ids kap lam RL ad S A s.heap H1 locs1 → K x = some res → W p l e (fm_rm h0) s m args below meth c H1 locs1 0 0 Q (F0 m (pc + 3) ls (.int x :: rest))) : W p l e (fm_rm h0) s m args below meth c H locs 0 0 Q (F0 m pc ls (.int i :: .ref (sk t) :: rest)) := by
  obtain ⟨⟨ht, hi⟩, hf⟩ := fm_some hf
  refine fm_rcr (o := some (fm_chr t i.toNatClampNeg)) (K := K) (res := res) G F hf (fun r ho => by cases ho; exact fm_runVS (k := 1) Z G F N ht (As := [.int i]) (rest := rest) (c_charAt hE ht hi _) rfl k1 kw_247 kw_248 kw_7 kw_249 yd_J0_charAt_5068e rfl (by decide) hh hl hW hdg (Nat.le_refl 0) (Nat.le_refl 0)) (fun r H locs ho F hf => kk r H locs (Option.some.inj ho).symm F hf)
end STRRULE
def fm_MS (l : Launch) (y : MethodName) (b : ByteArray) (n : Nat) (ret : Option FieldType) (h : Nat) (D : va_G) (ids kap lam : Nat → Nat) (RL : List Nat) (ad sk sv : Nat → Nat) (S : fm_M) (av : List Value) (sz : Nat) (q : Nat) (u : fm_M) : Prop :=
  Met l y (fm_ws y b n ret) (fm_rm h) (fm_Pre D ids kap lam RL ad sk sv S av sz) (va_Qr (fun (_ : Unit) => True) (fun _ a t => a = sk q ∧ va_P D fm_cls (fm_w ids kap lam RL ad u) t.heap) (fm_A RL ad sz)) 0 0 (fm_A RL ad sz)
section STRRET
variable {p : Program} {l : Launch} {e : Env} {R : Room} {s : State} {m : MethodId} {args : Array Value} {below : List Frame} {meth : Method} {c : Code} {H : Heap} {locs : List Loc} {Q : State → Prop}
variable {cc : ByteArray} {pc nL : Nat} {ls : Array Slot} {rest st0 : List Value} {own : String} {D : va_G} {ids kap lam : Nat → Nat} {RL : List Nat} {ad sk sv : Nat → Nat} {S : fm_M} {A : Nat → Prop} {α : Type} {res : α}
theorem fm_rcs {o : Option Nat} {K : Nat → Option α} {a : Array Value} (G : fm_G D ids kap RL ad s A) (F : fm_F D ids kap lam RL ad S A s.heap H locs) (hf : fm_b1 o K = some res)
    (hr : ∀ q, o = some q → va_Run p l e R s m args below meth c H locs 0 0 0 0 (F0 m pc ls st0) rest (va_Qr (fun (_ : Unit) => True) (fun _ a t => a = sk q ∧ va_P D fm_cls (fm_w ids kap lam RL ad S) t.heap) (fm_A RL ad H.size) a) (fm_A RL ad H.size))
    (kk : ∀ q H1 locs1, o = some q → fm_F D ids kap lam RL ad S A s.heap H1 locs1 → K q = some res → W p l e R s m args below meth c H1 locs1 0 0 Q (F0 m (pc + 3) ls (.ref (sk q) :: rest))) : W p l e R s m args below meth c H locs 0 0 Q (F0 m pc ls st0) := by
  obtain ⟨q, ho, hf⟩ := fm_b1_some hf
  refine va_callr (hr q ho) F.2 (fun q _ h => fm_sub G F.2 q h) (fm_sub G F.2) (fun u' ra t H1 locs1 ht hvm hw hB hz hk hS => ?_)
  obtain ⟨hB1, hB⟩ := hB
  subst hB1
  exact kk q H1 locs1 ho ⟨by rw [← ht]; exact hB, hS⟩ hf
theorem fm_rets (Z : CallFix p m c cc nL s args fm_AW own) (hr : meth.sig.returnType = some (.object "java/lang/String")) (hlocks : meth.locks = false) (F : fm_F D ids kap lam RL ad S A s.heap H locs) {q : Nat} (hdg : decode cc pc = .ok (.areturn, 1)) {r : Nat} {u : fm_M} (h1 : q = r) (h2 : S = u) :
    W p l e R s m args below meth c H locs 0 0 (MQ below (va_Qr (fun (_ : Unit) => True) (fun _ a t => a = sk r ∧ va_P D fm_cls (fm_w ids kap lam RL ad u) t.heap) A) args s 0 0 A) (F0 m pc ls [.ref (sk q)]) := by
  subst h1; subst h2
  exact W.aret (v := .ref (sk q)) Z.1 Z.2.1 hr (Or.inl ⟨_, rfl⟩) (Or.inr ⟨_, rfl⟩) (fun t ht hW => ⟨⟨(), sk q, rfl, trivial, rfl, by show va_P D fm_cls (fm_w ids kap lam RL ad S) t.heap; rw [ht]; exact F.1⟩, F.2.F ht⟩) F.2.2.2 hdg hlocks
end STRRET
