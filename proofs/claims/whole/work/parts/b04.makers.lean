/-! MAKERS: constructors -/
theorem k_X10_clear {l : Launch} {D : va_G} {ids : Nat → ClassId} {a : Nat} {v0 v1 v2 v3 v4 v5 v6 v7 : Value} (sz : Nat) : mk_M l y_X10_clear prog_12_method_2_code 1 0 0 0 D ids [(a, .inr (10, [v0, v1, v2, v3, v4, v5, v6, v7]))] [.ref a] sz (fun u : Nat → Nat => [(a, .inr (10, [.int 3, .int 2, .int 0, v3, v4, .int 0, v6, v7]))]) := by
  unfold mk_M
  refine mk_open rfl (Nat.le_of_ble_eq_true rfl) (fun p e s m args below meth c ls Z hr hlk hname hK hP hD hS hA hl hsz => ?_)
  subst hsz
  obtain ⟨hx, hb, hml, hown, hts⟩ := id Z
  have hl : lv_has ls 1 [(0, .ref a)] := hl
  refine lv_aload_n hx hb d_X10_clear_0 rfl (lv_at hl 0 rfl) ?_
  refine lv_iconst (v := 3) hx hb d_X10_clear_1 (by decide) ?_
  refine mk_put (ci := 10) (k := 0) (fs := [v0, v1, v2, v3, v4, v5, v6, v7]) Z hK hP hD hS 0 rfl (by decide) mf_X10_27_10 rfl rfl rfl (Nat.le_of_ble_eq_true rfl) d_X10_clear_2 (fun H locs hP hD hS => ?_)
  have hP : va_P D fm_cls [(a, .inr (10, [.int 3, v1, v2, v3, v4, v5, v6, v7]))] H := hP
  have hD : va_D (va_A [(a, .inr (10, [v0, v1, v2, v3, v4, v5, v6, v7]))] s.heap.size) [(a, .inr (10, [.int 3, v1, v2, v3, v4, v5, v6, v7]))] := hD
  refine lv_aload_n hx hb d_X10_clear_5 rfl (lv_at hl 0 rfl) ?_
  refine lv_iconst (v := 2) hx hb d_X10_clear_6 (by decide) ?_
  refine mk_put (ci := 10) (k := 1) (fs := [.int 3, v1, v2, v3, v4, v5, v6, v7]) Z hK hP hD hS 0 rfl (by decide) mf_X10_31_10 rfl rfl rfl (Nat.le_of_ble_eq_true rfl) d_X10_clear_7 (fun H locs hP hD hS => ?_)
  have hP : va_P D fm_cls [(a, .inr (10, [.int 3, .int 2, v2, v3, v4, v5, v6, v7]))] H := hP
  have hD : va_D (va_A [(a, .inr (10, [v0, v1, v2, v3, v4, v5, v6, v7]))] s.heap.size) [(a, .inr (10, [.int 3, .int 2, v2, v3, v4, v5, v6, v7]))] := hD
  refine lv_aload_n hx hb d_X10_clear_10 rfl (lv_at hl 0 rfl) ?_
  refine lv_iconst (v := 0) hx hb d_X10_clear_11 (by decide) ?_
  refine mk_put (ci := 10) (k := 2) (fs := [.int 3, .int 2, v2, v3, v4, v5, v6, v7]) Z hK hP hD hS 0 rfl (by decide) mf_X10_34_10 rfl rfl rfl (Nat.le_of_ble_eq_true rfl) d_X10_clear_12 (fun H locs hP hD hS => ?_)
  have hP : va_P D fm_cls [(a, .inr (10, [.int 3, .int 2, .int 0, v3, v4, v5, v6, v7]))] H := hP
  have hD : va_D (va_A [(a, .inr (10, [v0, v1, v2, v3, v4, v5, v6, v7]))] s.heap.size) [(a, .inr (10, [.int 3, .int 2, .int 0, v3, v4, v5, v6, v7]))] := hD
  refine lv_aload_n hx hb d_X10_clear_15 rfl (lv_at hl 0 rfl) ?_
  refine lv_iconst (v := 0) hx hb d_X10_clear_16 (by decide) ?_
  refine mk_put (ci := 10) (k := 5) (fs := [.int 3, .int 2, .int 0, v3, v4, v5, v6, v7]) Z hK hP hD hS 0 rfl (by decide) mf_X10_37_10 rfl rfl rfl (Nat.le_of_ble_eq_true rfl) d_X10_clear_17 (fun H locs hP hD hS => ?_)
  have hP : va_P D fm_cls [(a, .inr (10, [.int 3, .int 2, .int 0, v3, v4, .int 0, v6, v7]))] H := hP
  have hD : va_D (va_A [(a, .inr (10, [v0, v1, v2, v3, v4, v5, v6, v7]))] s.heap.size) [(a, .inr (10, [.int 3, .int 2, .int 0, v3, v4, .int 0, v6, v7]))] := hD
  refine mk_ret (w0 := [(a, .inr (10, [v0, v1, v2, v3, v4, v5, v6, v7]))]) (post := (fun u : Nat → Nat => [(a, .inr (10, [.int 3, .int 2, .int 0, v3, v4, .int 0, v6, v7]))])) Z hr hlk hP hD hS (fun i => ([] : List Nat).getD i 0) rfl ?_ ?_ d_X10_clear_20
  · show _ ≤ 0; omega
  · show _ ≤ 0; first | decide +kernel | omega
theorem k_X10_init {l : Launch} {D : va_G} {ids : Nat → ClassId} {a : Nat} (sz : Nat) : mk_M l y_X10_init prog_12_method_1_code 1 1 4 220 D ids [(a, .inr (10, [.int 0, .int 0, .int 0, .null, .null, .int 0, .null, .null]))] [.ref a] sz (fun u : Nat → Nat => [((u 0), .inl (ids 13, 10, .inl (fun _ => 0))), ((u 1), .inl (ids 13, 10, .inl (fun _ => 0))), ((u 2), .inl (ids 13, 100, .inl (fun _ => 0))), ((u 3), .inl (ids 13, 100, .inl (fun _ => 0))), (a, .inr (10, [.int 3, .int 2, .int 0, .ref (u 0), .ref (u 1), .int 0, .ref (u 2), .ref (u 3)]))]) := by
  unfold mk_M
  refine mk_open rfl (Nat.le_of_ble_eq_true rfl) (fun p e s m args below meth c ls Z hr hlk hname hK hP hD hS hA hl hsz => ?_)
  subst hsz
  obtain ⟨hx, hb, hml, hown, hts⟩ := id Z
  have hl : lv_has ls 1 [(0, .ref a)] := hl
  refine lv_aload_n hx hb d_X10_init_0 rfl (lv_at hl 0 rfl) ?_
  refine mk_obj Z hl.1 kw_38 kw_27 kw_28 (by decide) d_X10_init_1 ?_
  refine lv_aload_n hx hb d_X10_init_4 rfl (lv_at hl 0 rfl) ?_
  refine lv_bipush (v := 10) hx hb d_X10_init_5 (by decide) ?_
  refine mk_newa (L := 10) Z kw_77 hK hP hD hS hA (show (10 : Int32) = nI 10 by decide) (by decide) (by show _ ≤ 4; omega) (by show _ ≤ 220; omega) d_X10_init_7 (fun q7 H hP hD hS => ?_)
  have hP : va_P D fm_cls [(a, .inr (10, [.int 0, .int 0, .int 0, .null, .null, .int 0, .null, .null])), (q7, .inl (ids 13, 10, .inl (fun _ => 0)))] H := hP
  have hD : va_D (va_A [(a, .inr (10, [.int 0, .int 0, .int 0, .null, .null, .int 0, .null, .null]))] s.heap.size) [(a, .inr (10, [.int 0, .int 0, .int 0, .null, .null, .int 0, .null, .null])), (q7, .inl (ids 13, 10, .inl (fun _ => 0)))] := hD
  refine mk_putF (ci := 10) (k := 3) (fs := [.int 0, .int 0, .int 0, .null, .null, .int 0, .null, .null]) Z hK hP hD hS 0 rfl (by decide) mf_X10_9_10 rfl hname rfl rfl rfl (Nat.le_of_ble_eq_true rfl) d_X10_init_9 (fun H locs hP hD hS => ?_)
  have hP : va_P D fm_cls [(a, .inr (10, [.int 0, .int 0, .int 0, .ref q7, .null, .int 0, .null, .null])), (q7, .inl (ids 13, 10, .inl (fun _ => 0)))] H := hP
  have hD : va_D (va_A [(a, .inr (10, [.int 0, .int 0, .int 0, .null, .null, .int 0, .null, .null]))] s.heap.size) [(a, .inr (10, [.int 0, .int 0, .int 0, .ref q7, .null, .int 0, .null, .null])), (q7, .inl (ids 13, 10, .inl (fun _ => 0)))] := hD
  refine lv_aload_n hx hb d_X10_init_12 rfl (lv_at hl 0 rfl) ?_
  refine lv_bipush (v := 10) hx hb d_X10_init_13 (by decide) ?_
  refine mk_newa (L := 10) Z kw_77 hK hP hD hS hA (show (10 : Int32) = nI 10 by decide) (by decide) (by show _ ≤ 4; omega) (by show _ ≤ 220; omega) d_X10_init_15 (fun q15 H hP hD hS => ?_)
  have hP : va_P D fm_cls [(a, .inr (10, [.int 0, .int 0, .int 0, .ref q7, .null, .int 0, .null, .null])), (q7, .inl (ids 13, 10, .inl (fun _ => 0))), (q15, .inl (ids 13, 10, .inl (fun _ => 0)))] H := hP
  have hD : va_D (va_A [(a, .inr (10, [.int 0, .int 0, .int 0, .null, .null, .int 0, .null, .null]))] s.heap.size) [(a, .inr (10, [.int 0, .int 0, .int 0, .ref q7, .null, .int 0, .null, .null])), (q7, .inl (ids 13, 10, .inl (fun _ => 0))), (q15, .inl (ids 13, 10, .inl (fun _ => 0)))] := hD
  refine mk_putF (ci := 10) (k := 4) (fs := [.int 0, .int 0, .int 0, .ref q7, .null, .int 0, .null, .null]) Z hK hP hD hS 0 rfl (by decide) mf_X10_15_10 rfl hname rfl rfl rfl (Nat.le_of_ble_eq_true rfl) d_X10_init_17 (fun H locs hP hD hS => ?_)
  have hP : va_P D fm_cls [(a, .inr (10, [.int 0, .int 0, .int 0, .ref q7, .ref q15, .int 0, .null, .null])), (q7, .inl (ids 13, 10, .inl (fun _ => 0))), (q15, .inl (ids 13, 10, .inl (fun _ => 0)))] H := hP
  have hD : va_D (va_A [(a, .inr (10, [.int 0, .int 0, .int 0, .null, .null, .int 0, .null, .null]))] s.heap.size) [(a, .inr (10, [.int 0, .int 0, .int 0, .ref q7, .ref q15, .int 0, .null, .null])), (q7, .inl (ids 13, 10, .inl (fun _ => 0))), (q15, .inl (ids 13, 10, .inl (fun _ => 0)))] := hD
  refine lv_aload_n hx hb d_X10_init_20 rfl (lv_at hl 0 rfl) ?_
  refine lv_bipush (v := 100) hx hb d_X10_init_21 (by decide) ?_
  refine mk_newa (L := 100) Z kw_77 hK hP hD hS hA (show (100 : Int32) = nI 100 by decide) (by decide) (by show _ ≤ 4; omega) (by show _ ≤ 220; omega) d_X10_init_23 (fun q23 H hP hD hS => ?_)
  have hP : va_P D fm_cls [(a, .inr (10, [.int 0, .int 0, .int 0, .ref q7, .ref q15, .int 0, .null, .null])), (q7, .inl (ids 13, 10, .inl (fun _ => 0))), (q15, .inl (ids 13, 10, .inl (fun _ => 0))), (q23, .inl (ids 13, 100, .inl (fun _ => 0)))] H := hP
  have hD : va_D (va_A [(a, .inr (10, [.int 0, .int 0, .int 0, .null, .null, .int 0, .null, .null]))] s.heap.size) [(a, .inr (10, [.int 0, .int 0, .int 0, .ref q7, .ref q15, .int 0, .null, .null])), (q7, .inl (ids 13, 10, .inl (fun _ => 0))), (q15, .inl (ids 13, 10, .inl (fun _ => 0))), (q23, .inl (ids 13, 100, .inl (fun _ => 0)))] := hD
  refine mk_putF (ci := 10) (k := 6) (fs := [.int 0, .int 0, .int 0, .ref q7, .ref q15, .int 0, .null, .null]) Z hK hP hD hS 0 rfl (by decide) mf_X10_18_10 rfl hname rfl rfl rfl (Nat.le_of_ble_eq_true rfl) d_X10_init_25 (fun H locs hP hD hS => ?_)
  have hP : va_P D fm_cls [(a, .inr (10, [.int 0, .int 0, .int 0, .ref q7, .ref q15, .int 0, .ref q23, .null])), (q7, .inl (ids 13, 10, .inl (fun _ => 0))), (q15, .inl (ids 13, 10, .inl (fun _ => 0))), (q23, .inl (ids 13, 100, .inl (fun _ => 0)))] H := hP
  have hD : va_D (va_A [(a, .inr (10, [.int 0, .int 0, .int 0, .null, .null, .int 0, .null, .null]))] s.heap.size) [(a, .inr (10, [.int 0, .int 0, .int 0, .ref q7, .ref q15, .int 0, .ref q23, .null])), (q7, .inl (ids 13, 10, .inl (fun _ => 0))), (q15, .inl (ids 13, 10, .inl (fun _ => 0))), (q23, .inl (ids 13, 100, .inl (fun _ => 0)))] := hD
  refine lv_aload_n hx hb d_X10_init_28 rfl (lv_at hl 0 rfl) ?_
  refine lv_bipush (v := 100) hx hb d_X10_init_29 (by decide) ?_
  refine mk_newa (L := 100) Z kw_77 hK hP hD hS hA (show (100 : Int32) = nI 100 by decide) (by decide) (by show _ ≤ 4; omega) (by show _ ≤ 220; omega) d_X10_init_31 (fun q31 H hP hD hS => ?_)
  have hP : va_P D fm_cls [(a, .inr (10, [.int 0, .int 0, .int 0, .ref q7, .ref q15, .int 0, .ref q23, .null])), (q7, .inl (ids 13, 10, .inl (fun _ => 0))), (q15, .inl (ids 13, 10, .inl (fun _ => 0))), (q23, .inl (ids 13, 100, .inl (fun _ => 0))), (q31, .inl (ids 13, 100, .inl (fun _ => 0)))] H := hP
  have hD : va_D (va_A [(a, .inr (10, [.int 0, .int 0, .int 0, .null, .null, .int 0, .null, .null]))] s.heap.size) [(a, .inr (10, [.int 0, .int 0, .int 0, .ref q7, .ref q15, .int 0, .ref q23, .null])), (q7, .inl (ids 13, 10, .inl (fun _ => 0))), (q15, .inl (ids 13, 10, .inl (fun _ => 0))), (q23, .inl (ids 13, 100, .inl (fun _ => 0))), (q31, .inl (ids 13, 100, .inl (fun _ => 0)))] := hD
  refine mk_putF (ci := 10) (k := 7) (fs := [.int 0, .int 0, .int 0, .ref q7, .ref q15, .int 0, .ref q23, .null]) Z hK hP hD hS 0 rfl (by decide) mf_X10_21_10 rfl hname rfl rfl rfl (Nat.le_of_ble_eq_true rfl) d_X10_init_33 (fun H locs hP hD hS => ?_)
  have hP : va_P D fm_cls [(a, .inr (10, [.int 0, .int 0, .int 0, .ref q7, .ref q15, .int 0, .ref q23, .ref q31])), (q7, .inl (ids 13, 10, .inl (fun _ => 0))), (q15, .inl (ids 13, 10, .inl (fun _ => 0))), (q23, .inl (ids 13, 100, .inl (fun _ => 0))), (q31, .inl (ids 13, 100, .inl (fun _ => 0)))] H := hP
  have hD : va_D (va_A [(a, .inr (10, [.int 0, .int 0, .int 0, .null, .null, .int 0, .null, .null]))] s.heap.size) [(a, .inr (10, [.int 0, .int 0, .int 0, .ref q7, .ref q15, .int 0, .ref q23, .ref q31])), (q7, .inl (ids 13, 10, .inl (fun _ => 0))), (q15, .inl (ids 13, 10, .inl (fun _ => 0))), (q23, .inl (ids 13, 100, .inl (fun _ => 0))), (q31, .inl (ids 13, 100, .inl (fun _ => 0)))] := hD
  refine lv_aload_n hx hb d_X10_init_36 rfl (lv_at hl 0 rfl) ?_
  refine mk_callV (q0 := 0) (ci := 10) (fs := [.int 0, .int 0, .int 0, .ref q7, .ref q15, .int 0, .ref q23, .ref q31]) (As := []) (rest := []) (q := a) (k := 0) Z (k_X10_clear (ids := ids) (D := D) _) hK hP hD hS hA rfl (by decide) rfl (isC := [0]) (isR := [1, 2, 3, 4]) (wc := [(a, .inr (10, [.int 0, .int 0, .int 0, .ref q7, .ref q15, .int 0, .ref q23, .ref q31]))]) (wr := [(q7, .inl (ids 13, 10, .inl (fun _ => 0))), (q15, .inl (ids 13, 10, .inl (fun _ => 0))), (q23, .inl (ids 13, 100, .inl (fun _ => 0))), (q31, .inl (ids 13, 100, .inl (fun _ => 0)))]) rfl rfl rfl rfl (by decide) kw_39 kw_40 kw_41 kw_2 kw_42 yd_X10_clear rfl (by decide) (by decide) hl.1 (Nat.le_of_ble_eq_true rfl) d_X10_init_37 (by show _ ≤ 4; omega) (by show _ ≤ 220; omega) rfl (fun u37 H locs hP hD hS => ?_)
  have hP : va_P D fm_cls [(q7, .inl (ids 13, 10, .inl (fun _ => 0))), (q15, .inl (ids 13, 10, .inl (fun _ => 0))), (q23, .inl (ids 13, 100, .inl (fun _ => 0))), (q31, .inl (ids 13, 100, .inl (fun _ => 0))), (a, .inr (10, [.int 3, .int 2, .int 0, .ref q7, .ref q15, .int 0, .ref q23, .ref q31]))] H := hP
  have hD : va_D (va_A [(a, .inr (10, [.int 0, .int 0, .int 0, .null, .null, .int 0, .null, .null]))] s.heap.size) [(q7, .inl (ids 13, 10, .inl (fun _ => 0))), (q15, .inl (ids 13, 10, .inl (fun _ => 0))), (q23, .inl (ids 13, 100, .inl (fun _ => 0))), (q31, .inl (ids 13, 100, .inl (fun _ => 0))), (a, .inr (10, [.int 3, .int 2, .int 0, .ref q7, .ref q15, .int 0, .ref q23, .ref q31]))] := hD
  refine mk_ret (w0 := [(a, .inr (10, [.int 0, .int 0, .int 0, .null, .null, .int 0, .null, .null]))]) (post := (fun u : Nat → Nat => [((u 0), .inl (ids 13, 10, .inl (fun _ => 0))), ((u 1), .inl (ids 13, 10, .inl (fun _ => 0))), ((u 2), .inl (ids 13, 100, .inl (fun _ => 0))), ((u 3), .inl (ids 13, 100, .inl (fun _ => 0))), (a, .inr (10, [.int 3, .int 2, .int 0, .ref (u 0), .ref (u 1), .int 0, .ref (u 2), .ref (u 3)]))])) Z hr hlk hP hD hS (fun i => ([q7, q15, q23, q31] : List Nat).getD i 0) rfl ?_ ?_ d_X10_init_40
  · show _ ≤ 4; omega
  · show _ ≤ 220; first | decide +kernel | omega
theorem k_X8_init_100 {l : Launch} {D : va_G} {ids : Nat → ClassId} {a : Nat} (sz : Nat) : mk_M l y_X8_init prog_10_method_1_code 2 1 2 600 D ids [(a, .inr (8, [.int 0, .null, .null, .int 0, .int 0]))] [.ref a, .int 100] sz (fun u : Nat → Nat => [(a, .inr (8, [.int 100, .ref (u 0), .ref (u 1), .int 0, .int 0])), ((u 0), .inl (ids 13, 300, .inl (fun _ => 0))), ((u 1), .inl (ids 13, 300, .inl (fun _ => 0)))]) := by
  unfold mk_M
  refine mk_open rfl (Nat.le_of_ble_eq_true rfl) (fun p e s m args below meth c ls Z hr hlk hname hK hP hD hS hA hl hsz => ?_)
  subst hsz
  obtain ⟨hx, hb, hml, hown, hts⟩ := id Z
  have hl : lv_has ls 2 [(0, .ref a), (1, .int 100)] := hl
  refine lv_aload_n hx hb d_X8_init_0 rfl (lv_at hl 0 rfl) ?_
  refine mk_obj Z hl.1 kw_84 kw_27 kw_28 (by decide) d_X8_init_1 ?_
  refine lv_aload_n hx hb d_X8_init_4 rfl (lv_at hl 0 rfl) ?_
  refine lv_iconst (v := 0) hx hb d_X8_init_5 (by decide) ?_
  refine mk_put (ci := 8) (k := 3) (fs := [.int 0, .null, .null, .int 0, .int 0]) Z hK hP hD hS 0 rfl (by decide) mf_X8_9_8 rfl rfl rfl (Nat.le_of_ble_eq_true rfl) d_X8_init_6 (fun H locs hP hD hS => ?_)
  have hP : va_P D fm_cls [(a, .inr (8, [.int 0, .null, .null, .int 0, .int 0]))] H := hP
  have hD : va_D (va_A [(a, .inr (8, [.int 0, .null, .null, .int 0, .int 0]))] s.heap.size) [(a, .inr (8, [.int 0, .null, .null, .int 0, .int 0]))] := hD
  refine lv_aload_n hx hb d_X8_init_9 rfl (lv_at hl 0 rfl) ?_
  refine lv_iconst (v := 0) hx hb d_X8_init_10 (by decide) ?_
  refine mk_put (ci := 8) (k := 4) (fs := [.int 0, .null, .null, .int 0, .int 0]) Z hK hP hD hS 0 rfl (by decide) mf_X8_15_8 rfl rfl rfl (Nat.le_of_ble_eq_true rfl) d_X8_init_11 (fun H locs hP hD hS => ?_)
  have hP : va_P D fm_cls [(a, .inr (8, [.int 0, .null, .null, .int 0, .int 0]))] H := hP
  have hD : va_D (va_A [(a, .inr (8, [.int 0, .null, .null, .int 0, .int 0]))] s.heap.size) [(a, .inr (8, [.int 0, .null, .null, .int 0, .int 0]))] := hD
  refine lv_aload_n hx hb d_X8_init_14 rfl (lv_at hl 0 rfl) ?_
  refine lv_iconst (v := 0) hx hb d_X8_init_15 (by decide) ?_
  refine lv_iload_n hx hb d_X8_init_16 rfl (lv_at hl 1 rfl) ?_
  refine va_mmax hx hb (hml.trans hl.1.symm) hown (hts _ (fm_in kw_85 rfl)) (hts _ (fm_in kw_86 rfl)) (hts _ (fm_in kw_4 rfl)) (hts _ (fm_in kw_87 rfl)) (by decide) (Nat.le_of_ble_eq_true rfl) (by show _ ≤ 2; omega) (by show _ ≤ 600; omega) d_X8_init_17 ?_
  rw [show (if (0 : Int32) < 100 then (100 : Int32) else 0) = 100 by decide]
  refine mk_putF (ci := 8) (k := 0) (fs := [.int 0, .null, .null, .int 0, .int 0]) Z hK hP hD hS 0 rfl (by decide) mf_X8_24_8 rfl hname rfl rfl rfl (Nat.le_of_ble_eq_true rfl) d_X8_init_20 (fun H locs hP hD hS => ?_)
  have hP : va_P D fm_cls [(a, .inr (8, [.int 100, .null, .null, .int 0, .int 0]))] H := hP
  have hD : va_D (va_A [(a, .inr (8, [.int 0, .null, .null, .int 0, .int 0]))] s.heap.size) [(a, .inr (8, [.int 100, .null, .null, .int 0, .int 0]))] := hD
  refine lv_aload_n hx hb d_X8_init_23 rfl (lv_at hl 0 rfl) ?_
  refine lv_aload_n hx hb d_X8_init_24 rfl (lv_at hl 0 rfl) ?_
  refine mk_get (ci := 8) (k := 0) (fs := [.int 100, .null, .null, .int 0, .int 0]) (v := .int 100) Z hK hP 0 rfl (by decide) mf_X8_24_8 rfl d_X8_init_25 ?_
  refine lv_iconst (v := 3) hx hb d_X8_init_28 (by decide) ?_
  refine lv_imul hx hb d_X8_init_29 ?_
  rw [show (100 * 3 : Int32) = 300 by decide]
  refine mk_newa (L := 300) Z kw_77 hK hP hD hS hA (show (300 : Int32) = nI 300 by decide) (by decide) (by show _ ≤ 2; omega) (by show _ ≤ 600; omega) d_X8_init_30 (fun q30 H hP hD hS => ?_)
  have hP : va_P D fm_cls [(a, .inr (8, [.int 100, .null, .null, .int 0, .int 0])), (q30, .inl (ids 13, 300, .inl (fun _ => 0)))] H := hP
  have hD : va_D (va_A [(a, .inr (8, [.int 0, .null, .null, .int 0, .int 0]))] s.heap.size) [(a, .inr (8, [.int 100, .null, .null, .int 0, .int 0])), (q30, .inl (ids 13, 300, .inl (fun _ => 0)))] := hD
  refine mk_putF (ci := 8) (k := 1) (fs := [.int 100, .null, .null, .int 0, .int 0]) Z hK hP hD hS 0 rfl (by decide) mf_X8_27_8 rfl hname rfl rfl rfl (Nat.le_of_ble_eq_true rfl) d_X8_init_32 (fun H locs hP hD hS => ?_)
  have hP : va_P D fm_cls [(a, .inr (8, [.int 100, .ref q30, .null, .int 0, .int 0])), (q30, .inl (ids 13, 300, .inl (fun _ => 0)))] H := hP
  have hD : va_D (va_A [(a, .inr (8, [.int 0, .null, .null, .int 0, .int 0]))] s.heap.size) [(a, .inr (8, [.int 100, .ref q30, .null, .int 0, .int 0])), (q30, .inl (ids 13, 300, .inl (fun _ => 0)))] := hD
  refine lv_aload_n hx hb d_X8_init_35 rfl (lv_at hl 0 rfl) ?_
  refine lv_aload_n hx hb d_X8_init_36 rfl (lv_at hl 0 rfl) ?_
  refine mk_get (ci := 8) (k := 0) (fs := [.int 100, .ref q30, .null, .int 0, .int 0]) (v := .int 100) Z hK hP 0 rfl (by decide) mf_X8_24_8 rfl d_X8_init_37 ?_
  refine lv_iconst (v := 3) hx hb d_X8_init_40 (by decide) ?_
  refine lv_imul hx hb d_X8_init_41 ?_
  rw [show (100 * 3 : Int32) = 300 by decide]
  refine mk_newa (L := 300) Z kw_77 hK hP hD hS hA (show (300 : Int32) = nI 300 by decide) (by decide) (by show _ ≤ 2; omega) (by show _ ≤ 600; omega) d_X8_init_42 (fun q42 H hP hD hS => ?_)
  have hP : va_P D fm_cls [(a, .inr (8, [.int 100, .ref q30, .null, .int 0, .int 0])), (q30, .inl (ids 13, 300, .inl (fun _ => 0))), (q42, .inl (ids 13, 300, .inl (fun _ => 0)))] H := hP
  have hD : va_D (va_A [(a, .inr (8, [.int 0, .null, .null, .int 0, .int 0]))] s.heap.size) [(a, .inr (8, [.int 100, .ref q30, .null, .int 0, .int 0])), (q30, .inl (ids 13, 300, .inl (fun _ => 0))), (q42, .inl (ids 13, 300, .inl (fun _ => 0)))] := hD
  refine mk_putF (ci := 8) (k := 2) (fs := [.int 100, .ref q30, .null, .int 0, .int 0]) Z hK hP hD hS 0 rfl (by decide) mf_X8_31_8 rfl hname rfl rfl rfl (Nat.le_of_ble_eq_true rfl) d_X8_init_44 (fun H locs hP hD hS => ?_)
  have hP : va_P D fm_cls [(a, .inr (8, [.int 100, .ref q30, .ref q42, .int 0, .int 0])), (q30, .inl (ids 13, 300, .inl (fun _ => 0))), (q42, .inl (ids 13, 300, .inl (fun _ => 0)))] H := hP
  have hD : va_D (va_A [(a, .inr (8, [.int 0, .null, .null, .int 0, .int 0]))] s.heap.size) [(a, .inr (8, [.int 100, .ref q30, .ref q42, .int 0, .int 0])), (q30, .inl (ids 13, 300, .inl (fun _ => 0))), (q42, .inl (ids 13, 300, .inl (fun _ => 0)))] := hD
  refine mk_ret (w0 := [(a, .inr (8, [.int 0, .null, .null, .int 0, .int 0]))]) (post := (fun u : Nat → Nat => [(a, .inr (8, [.int 100, .ref (u 0), .ref (u 1), .int 0, .int 0])), ((u 0), .inl (ids 13, 300, .inl (fun _ => 0))), ((u 1), .inl (ids 13, 300, .inl (fun _ => 0)))])) Z hr hlk hP hD hS (fun i => ([q30, q42] : List Nat).getD i 0) rfl ?_ ?_ d_X8_init_47
  · show _ ≤ 2; omega
  · show _ ≤ 600; first | decide +kernel | omega
theorem k_X8_init_5 {l : Launch} {D : va_G} {ids : Nat → ClassId} {a : Nat} (sz : Nat) : mk_M l y_X8_init prog_10_method_1_code 2 1 2 30 D ids [(a, .inr (8, [.int 0, .null, .null, .int 0, .int 0]))] [.ref a, .int 5] sz (fun u : Nat → Nat => [(a, .inr (8, [.int 5, .ref (u 0), .ref (u 1), .int 0, .int 0])), ((u 0), .inl (ids 13, 15, .inl (fun _ => 0))), ((u 1), .inl (ids 13, 15, .inl (fun _ => 0)))]) := by
  unfold mk_M
  refine mk_open rfl (Nat.le_of_ble_eq_true rfl) (fun p e s m args below meth c ls Z hr hlk hname hK hP hD hS hA hl hsz => ?_)
  subst hsz
  obtain ⟨hx, hb, hml, hown, hts⟩ := id Z
  have hl : lv_has ls 2 [(0, .ref a), (1, .int 5)] := hl
  refine lv_aload_n hx hb d_X8_init_0 rfl (lv_at hl 0 rfl) ?_
  refine mk_obj Z hl.1 kw_84 kw_27 kw_28 (by decide) d_X8_init_1 ?_
  refine lv_aload_n hx hb d_X8_init_4 rfl (lv_at hl 0 rfl) ?_
  refine lv_iconst (v := 0) hx hb d_X8_init_5 (by decide) ?_
  refine mk_put (ci := 8) (k := 3) (fs := [.int 0, .null, .null, .int 0, .int 0]) Z hK hP hD hS 0 rfl (by decide) mf_X8_9_8 rfl rfl rfl (Nat.le_of_ble_eq_true rfl) d_X8_init_6 (fun H locs hP hD hS => ?_)
  have hP : va_P D fm_cls [(a, .inr (8, [.int 0, .null, .null, .int 0, .int 0]))] H := hP
  have hD : va_D (va_A [(a, .inr (8, [.int 0, .null, .null, .int 0, .int 0]))] s.heap.size) [(a, .inr (8, [.int 0, .null, .null, .int 0, .int 0]))] := hD
  refine lv_aload_n hx hb d_X8_init_9 rfl (lv_at hl 0 rfl) ?_
  refine lv_iconst (v := 0) hx hb d_X8_init_10 (by decide) ?_
  refine mk_put (ci := 8) (k := 4) (fs := [.int 0, .null, .null, .int 0, .int 0]) Z hK hP hD hS 0 rfl (by decide) mf_X8_15_8 rfl rfl rfl (Nat.le_of_ble_eq_true rfl) d_X8_init_11 (fun H locs hP hD hS => ?_)
  have hP : va_P D fm_cls [(a, .inr (8, [.int 0, .null, .null, .int 0, .int 0]))] H := hP
  have hD : va_D (va_A [(a, .inr (8, [.int 0, .null, .null, .int 0, .int 0]))] s.heap.size) [(a, .inr (8, [.int 0, .null, .null, .int 0, .int 0]))] := hD
  refine lv_aload_n hx hb d_X8_init_14 rfl (lv_at hl 0 rfl) ?_
  refine lv_iconst (v := 0) hx hb d_X8_init_15 (by decide) ?_
  refine lv_iload_n hx hb d_X8_init_16 rfl (lv_at hl 1 rfl) ?_
  refine va_mmax hx hb (hml.trans hl.1.symm) hown (hts _ (fm_in kw_85 rfl)) (hts _ (fm_in kw_86 rfl)) (hts _ (fm_in kw_4 rfl)) (hts _ (fm_in kw_87 rfl)) (by decide) (Nat.le_of_ble_eq_true rfl) (by show _ ≤ 2; omega) (by show _ ≤ 30; omega) d_X8_init_17 ?_
  rw [show (if (0 : Int32) < 5 then (5 : Int32) else 0) = 5 by decide]
  refine mk_putF (ci := 8) (k := 0) (fs := [.int 0, .null, .null, .int 0, .int 0]) Z hK hP hD hS 0 rfl (by decide) mf_X8_24_8 rfl hname rfl rfl rfl (Nat.le_of_ble_eq_true rfl) d_X8_init_20 (fun H locs hP hD hS => ?_)
  have hP : va_P D fm_cls [(a, .inr (8, [.int 5, .null, .null, .int 0, .int 0]))] H := hP
  have hD : va_D (va_A [(a, .inr (8, [.int 0, .null, .null, .int 0, .int 0]))] s.heap.size) [(a, .inr (8, [.int 5, .null, .null, .int 0, .int 0]))] := hD
  refine lv_aload_n hx hb d_X8_init_23 rfl (lv_at hl 0 rfl) ?_
  refine lv_aload_n hx hb d_X8_init_24 rfl (lv_at hl 0 rfl) ?_
  refine mk_get (ci := 8) (k := 0) (fs := [.int 5, .null, .null, .int 0, .int 0]) (v := .int 5) Z hK hP 0 rfl (by decide) mf_X8_24_8 rfl d_X8_init_25 ?_
  refine lv_iconst (v := 3) hx hb d_X8_init_28 (by decide) ?_
  refine lv_imul hx hb d_X8_init_29 ?_
  rw [show (5 * 3 : Int32) = 15 by decide]
  refine mk_newa (L := 15) Z kw_77 hK hP hD hS hA (show (15 : Int32) = nI 15 by decide) (by decide) (by show _ ≤ 2; omega) (by show _ ≤ 30; omega) d_X8_init_30 (fun q30 H hP hD hS => ?_)
  have hP : va_P D fm_cls [(a, .inr (8, [.int 5, .null, .null, .int 0, .int 0])), (q30, .inl (ids 13, 15, .inl (fun _ => 0)))] H := hP
  have hD : va_D (va_A [(a, .inr (8, [.int 0, .null, .null, .int 0, .int 0]))] s.heap.size) [(a, .inr (8, [.int 5, .null, .null, .int 0, .int 0])), (q30, .inl (ids 13, 15, .inl (fun _ => 0)))] := hD
  refine mk_putF (ci := 8) (k := 1) (fs := [.int 5, .null, .null, .int 0, .int 0]) Z hK hP hD hS 0 rfl (by decide) mf_X8_27_8 rfl hname rfl rfl rfl (Nat.le_of_ble_eq_true rfl) d_X8_init_32 (fun H locs hP hD hS => ?_)
  have hP : va_P D fm_cls [(a, .inr (8, [.int 5, .ref q30, .null, .int 0, .int 0])), (q30, .inl (ids 13, 15, .inl (fun _ => 0)))] H := hP
  have hD : va_D (va_A [(a, .inr (8, [.int 0, .null, .null, .int 0, .int 0]))] s.heap.size) [(a, .inr (8, [.int 5, .ref q30, .null, .int 0, .int 0])), (q30, .inl (ids 13, 15, .inl (fun _ => 0)))] := hD
  refine lv_aload_n hx hb d_X8_init_35 rfl (lv_at hl 0 rfl) ?_
  refine lv_aload_n hx hb d_X8_init_36 rfl (lv_at hl 0 rfl) ?_
  refine mk_get (ci := 8) (k := 0) (fs := [.int 5, .ref q30, .null, .int 0, .int 0]) (v := .int 5) Z hK hP 0 rfl (by decide) mf_X8_24_8 rfl d_X8_init_37 ?_
  refine lv_iconst (v := 3) hx hb d_X8_init_40 (by decide) ?_
  refine lv_imul hx hb d_X8_init_41 ?_
  rw [show (5 * 3 : Int32) = 15 by decide]
  refine mk_newa (L := 15) Z kw_77 hK hP hD hS hA (show (15 : Int32) = nI 15 by decide) (by decide) (by show _ ≤ 2; omega) (by show _ ≤ 30; omega) d_X8_init_42 (fun q42 H hP hD hS => ?_)
  have hP : va_P D fm_cls [(a, .inr (8, [.int 5, .ref q30, .null, .int 0, .int 0])), (q30, .inl (ids 13, 15, .inl (fun _ => 0))), (q42, .inl (ids 13, 15, .inl (fun _ => 0)))] H := hP
  have hD : va_D (va_A [(a, .inr (8, [.int 0, .null, .null, .int 0, .int 0]))] s.heap.size) [(a, .inr (8, [.int 5, .ref q30, .null, .int 0, .int 0])), (q30, .inl (ids 13, 15, .inl (fun _ => 0))), (q42, .inl (ids 13, 15, .inl (fun _ => 0)))] := hD
  refine mk_putF (ci := 8) (k := 2) (fs := [.int 5, .ref q30, .null, .int 0, .int 0]) Z hK hP hD hS 0 rfl (by decide) mf_X8_31_8 rfl hname rfl rfl rfl (Nat.le_of_ble_eq_true rfl) d_X8_init_44 (fun H locs hP hD hS => ?_)
  have hP : va_P D fm_cls [(a, .inr (8, [.int 5, .ref q30, .ref q42, .int 0, .int 0])), (q30, .inl (ids 13, 15, .inl (fun _ => 0))), (q42, .inl (ids 13, 15, .inl (fun _ => 0)))] H := hP
  have hD : va_D (va_A [(a, .inr (8, [.int 0, .null, .null, .int 0, .int 0]))] s.heap.size) [(a, .inr (8, [.int 5, .ref q30, .ref q42, .int 0, .int 0])), (q30, .inl (ids 13, 15, .inl (fun _ => 0))), (q42, .inl (ids 13, 15, .inl (fun _ => 0)))] := hD
  refine mk_ret (w0 := [(a, .inr (8, [.int 0, .null, .null, .int 0, .int 0]))]) (post := (fun u : Nat → Nat => [(a, .inr (8, [.int 5, .ref (u 0), .ref (u 1), .int 0, .int 0])), ((u 0), .inl (ids 13, 15, .inl (fun _ => 0))), ((u 1), .inl (ids 13, 15, .inl (fun _ => 0)))])) Z hr hlk hP hD hS (fun i => ([q30, q42] : List Nat).getD i 0) rfl ?_ ?_ d_X8_init_47
  · show _ ≤ 2; omega
  · show _ ≤ 30; first | decide +kernel | omega
theorem k_X8_init_8 {l : Launch} {D : va_G} {ids : Nat → ClassId} {a : Nat} (sz : Nat) : mk_M l y_X8_init prog_10_method_1_code 2 1 2 48 D ids [(a, .inr (8, [.int 0, .null, .null, .int 0, .int 0]))] [.ref a, .int 8] sz (fun u : Nat → Nat => [(a, .inr (8, [.int 8, .ref (u 0), .ref (u 1), .int 0, .int 0])), ((u 0), .inl (ids 13, 24, .inl (fun _ => 0))), ((u 1), .inl (ids 13, 24, .inl (fun _ => 0)))]) := by
  unfold mk_M
  refine mk_open rfl (Nat.le_of_ble_eq_true rfl) (fun p e s m args below meth c ls Z hr hlk hname hK hP hD hS hA hl hsz => ?_)
  subst hsz
  obtain ⟨hx, hb, hml, hown, hts⟩ := id Z
  have hl : lv_has ls 2 [(0, .ref a), (1, .int 8)] := hl
  refine lv_aload_n hx hb d_X8_init_0 rfl (lv_at hl 0 rfl) ?_
  refine mk_obj Z hl.1 kw_84 kw_27 kw_28 (by decide) d_X8_init_1 ?_
  refine lv_aload_n hx hb d_X8_init_4 rfl (lv_at hl 0 rfl) ?_
  refine lv_iconst (v := 0) hx hb d_X8_init_5 (by decide) ?_
  refine mk_put (ci := 8) (k := 3) (fs := [.int 0, .null, .null, .int 0, .int 0]) Z hK hP hD hS 0 rfl (by decide) mf_X8_9_8 rfl rfl rfl (Nat.le_of_ble_eq_true rfl) d_X8_init_6 (fun H locs hP hD hS => ?_)
  have hP : va_P D fm_cls [(a, .inr (8, [.int 0, .null, .null, .int 0, .int 0]))] H := hP
  have hD : va_D (va_A [(a, .inr (8, [.int 0, .null, .null, .int 0, .int 0]))] s.heap.size) [(a, .inr (8, [.int 0, .null, .null, .int 0, .int 0]))] := hD
  refine lv_aload_n hx hb d_X8_init_9 rfl (lv_at hl 0 rfl) ?_
  refine lv_iconst (v := 0) hx hb d_X8_init_10 (by decide) ?_
  refine mk_put (ci := 8) (k := 4) (fs := [.int 0, .null, .null, .int 0, .int 0]) Z hK hP hD hS 0 rfl (by decide) mf_X8_15_8 rfl rfl rfl (Nat.le_of_ble_eq_true rfl) d_X8_init_11 (fun H locs hP hD hS => ?_)
  have hP : va_P D fm_cls [(a, .inr (8, [.int 0, .null, .null, .int 0, .int 0]))] H := hP
  have hD : va_D (va_A [(a, .inr (8, [.int 0, .null, .null, .int 0, .int 0]))] s.heap.size) [(a, .inr (8, [.int 0, .null, .null, .int 0, .int 0]))] := hD
  refine lv_aload_n hx hb d_X8_init_14 rfl (lv_at hl 0 rfl) ?_
  refine lv_iconst (v := 0) hx hb d_X8_init_15 (by decide) ?_
  refine lv_iload_n hx hb d_X8_init_16 rfl (lv_at hl 1 rfl) ?_
  refine va_mmax hx hb (hml.trans hl.1.symm) hown (hts _ (fm_in kw_85 rfl)) (hts _ (fm_in kw_86 rfl)) (hts _ (fm_in kw_4 rfl)) (hts _ (fm_in kw_87 rfl)) (by decide) (Nat.le_of_ble_eq_true rfl) (by show _ ≤ 2; omega) (by show _ ≤ 48; omega) d_X8_init_17 ?_
  rw [show (if (0 : Int32) < 8 then (8 : Int32) else 0) = 8 by decide]
  refine mk_putF (ci := 8) (k := 0) (fs := [.int 0, .null, .null, .int 0, .int 0]) Z hK hP hD hS 0 rfl (by decide) mf_X8_24_8 rfl hname rfl rfl rfl (Nat.le_of_ble_eq_true rfl) d_X8_init_20 (fun H locs hP hD hS => ?_)
  have hP : va_P D fm_cls [(a, .inr (8, [.int 8, .null, .null, .int 0, .int 0]))] H := hP
  have hD : va_D (va_A [(a, .inr (8, [.int 0, .null, .null, .int 0, .int 0]))] s.heap.size) [(a, .inr (8, [.int 8, .null, .null, .int 0, .int 0]))] := hD
  refine lv_aload_n hx hb d_X8_init_23 rfl (lv_at hl 0 rfl) ?_
  refine lv_aload_n hx hb d_X8_init_24 rfl (lv_at hl 0 rfl) ?_
  refine mk_get (ci := 8) (k := 0) (fs := [.int 8, .null, .null, .int 0, .int 0]) (v := .int 8) Z hK hP 0 rfl (by decide) mf_X8_24_8 rfl d_X8_init_25 ?_
  refine lv_iconst (v := 3) hx hb d_X8_init_28 (by decide) ?_
  refine lv_imul hx hb d_X8_init_29 ?_
  rw [show (8 * 3 : Int32) = 24 by decide]
  refine mk_newa (L := 24) Z kw_77 hK hP hD hS hA (show (24 : Int32) = nI 24 by decide) (by decide) (by show _ ≤ 2; omega) (by show _ ≤ 48; omega) d_X8_init_30 (fun q30 H hP hD hS => ?_)
  have hP : va_P D fm_cls [(a, .inr (8, [.int 8, .null, .null, .int 0, .int 0])), (q30, .inl (ids 13, 24, .inl (fun _ => 0)))] H := hP
  have hD : va_D (va_A [(a, .inr (8, [.int 0, .null, .null, .int 0, .int 0]))] s.heap.size) [(a, .inr (8, [.int 8, .null, .null, .int 0, .int 0])), (q30, .inl (ids 13, 24, .inl (fun _ => 0)))] := hD
  refine mk_putF (ci := 8) (k := 1) (fs := [.int 8, .null, .null, .int 0, .int 0]) Z hK hP hD hS 0 rfl (by decide) mf_X8_27_8 rfl hname rfl rfl rfl (Nat.le_of_ble_eq_true rfl) d_X8_init_32 (fun H locs hP hD hS => ?_)
  have hP : va_P D fm_cls [(a, .inr (8, [.int 8, .ref q30, .null, .int 0, .int 0])), (q30, .inl (ids 13, 24, .inl (fun _ => 0)))] H := hP
  have hD : va_D (va_A [(a, .inr (8, [.int 0, .null, .null, .int 0, .int 0]))] s.heap.size) [(a, .inr (8, [.int 8, .ref q30, .null, .int 0, .int 0])), (q30, .inl (ids 13, 24, .inl (fun _ => 0)))] := hD
  refine lv_aload_n hx hb d_X8_init_35 rfl (lv_at hl 0 rfl) ?_
  refine lv_aload_n hx hb d_X8_init_36 rfl (lv_at hl 0 rfl) ?_
  refine mk_get (ci := 8) (k := 0) (fs := [.int 8, .ref q30, .null, .int 0, .int 0]) (v := .int 8) Z hK hP 0 rfl (by decide) mf_X8_24_8 rfl d_X8_init_37 ?_
  refine lv_iconst (v := 3) hx hb d_X8_init_40 (by decide) ?_
  refine lv_imul hx hb d_X8_init_41 ?_
  rw [show (8 * 3 : Int32) = 24 by decide]
  refine mk_newa (L := 24) Z kw_77 hK hP hD hS hA (show (24 : Int32) = nI 24 by decide) (by decide) (by show _ ≤ 2; omega) (by show _ ≤ 48; omega) d_X8_init_42 (fun q42 H hP hD hS => ?_)
  have hP : va_P D fm_cls [(a, .inr (8, [.int 8, .ref q30, .null, .int 0, .int 0])), (q30, .inl (ids 13, 24, .inl (fun _ => 0))), (q42, .inl (ids 13, 24, .inl (fun _ => 0)))] H := hP
  have hD : va_D (va_A [(a, .inr (8, [.int 0, .null, .null, .int 0, .int 0]))] s.heap.size) [(a, .inr (8, [.int 8, .ref q30, .null, .int 0, .int 0])), (q30, .inl (ids 13, 24, .inl (fun _ => 0))), (q42, .inl (ids 13, 24, .inl (fun _ => 0)))] := hD
  refine mk_putF (ci := 8) (k := 2) (fs := [.int 8, .ref q30, .null, .int 0, .int 0]) Z hK hP hD hS 0 rfl (by decide) mf_X8_31_8 rfl hname rfl rfl rfl (Nat.le_of_ble_eq_true rfl) d_X8_init_44 (fun H locs hP hD hS => ?_)
  have hP : va_P D fm_cls [(a, .inr (8, [.int 8, .ref q30, .ref q42, .int 0, .int 0])), (q30, .inl (ids 13, 24, .inl (fun _ => 0))), (q42, .inl (ids 13, 24, .inl (fun _ => 0)))] H := hP
  have hD : va_D (va_A [(a, .inr (8, [.int 0, .null, .null, .int 0, .int 0]))] s.heap.size) [(a, .inr (8, [.int 8, .ref q30, .ref q42, .int 0, .int 0])), (q30, .inl (ids 13, 24, .inl (fun _ => 0))), (q42, .inl (ids 13, 24, .inl (fun _ => 0)))] := hD
  refine mk_ret (w0 := [(a, .inr (8, [.int 0, .null, .null, .int 0, .int 0]))]) (post := (fun u : Nat → Nat => [(a, .inr (8, [.int 8, .ref (u 0), .ref (u 1), .int 0, .int 0])), ((u 0), .inl (ids 13, 24, .inl (fun _ => 0))), ((u 1), .inl (ids 13, 24, .inl (fun _ => 0)))])) Z hr hlk hP hD hS (fun i => ([q30, q42] : List Nat).getD i 0) rfl ?_ ?_ d_X8_init_47
  · show _ ≤ 2; omega
  · show _ ≤ 48; first | decide +kernel | omega
theorem k_X8_init_20 {l : Launch} {D : va_G} {ids : Nat → ClassId} {a : Nat} (sz : Nat) : mk_M l y_X8_init prog_10_method_1_code 2 1 2 120 D ids [(a, .inr (8, [.int 0, .null, .null, .int 0, .int 0]))] [.ref a, .int 20] sz (fun u : Nat → Nat => [(a, .inr (8, [.int 20, .ref (u 0), .ref (u 1), .int 0, .int 0])), ((u 0), .inl (ids 13, 60, .inl (fun _ => 0))), ((u 1), .inl (ids 13, 60, .inl (fun _ => 0)))]) := by
  unfold mk_M
  refine mk_open rfl (Nat.le_of_ble_eq_true rfl) (fun p e s m args below meth c ls Z hr hlk hname hK hP hD hS hA hl hsz => ?_)
  subst hsz
  obtain ⟨hx, hb, hml, hown, hts⟩ := id Z
  have hl : lv_has ls 2 [(0, .ref a), (1, .int 20)] := hl
  refine lv_aload_n hx hb d_X8_init_0 rfl (lv_at hl 0 rfl) ?_
  refine mk_obj Z hl.1 kw_84 kw_27 kw_28 (by decide) d_X8_init_1 ?_
  refine lv_aload_n hx hb d_X8_init_4 rfl (lv_at hl 0 rfl) ?_
  refine lv_iconst (v := 0) hx hb d_X8_init_5 (by decide) ?_
  refine mk_put (ci := 8) (k := 3) (fs := [.int 0, .null, .null, .int 0, .int 0]) Z hK hP hD hS 0 rfl (by decide) mf_X8_9_8 rfl rfl rfl (Nat.le_of_ble_eq_true rfl) d_X8_init_6 (fun H locs hP hD hS => ?_)
  have hP : va_P D fm_cls [(a, .inr (8, [.int 0, .null, .null, .int 0, .int 0]))] H := hP
  have hD : va_D (va_A [(a, .inr (8, [.int 0, .null, .null, .int 0, .int 0]))] s.heap.size) [(a, .inr (8, [.int 0, .null, .null, .int 0, .int 0]))] := hD
  refine lv_aload_n hx hb d_X8_init_9 rfl (lv_at hl 0 rfl) ?_
  refine lv_iconst (v := 0) hx hb d_X8_init_10 (by decide) ?_
  refine mk_put (ci := 8) (k := 4) (fs := [.int 0, .null, .null, .int 0, .int 0]) Z hK hP hD hS 0 rfl (by decide) mf_X8_15_8 rfl rfl rfl (Nat.le_of_ble_eq_true rfl) d_X8_init_11 (fun H locs hP hD hS => ?_)
  have hP : va_P D fm_cls [(a, .inr (8, [.int 0, .null, .null, .int 0, .int 0]))] H := hP
  have hD : va_D (va_A [(a, .inr (8, [.int 0, .null, .null, .int 0, .int 0]))] s.heap.size) [(a, .inr (8, [.int 0, .null, .null, .int 0, .int 0]))] := hD
  refine lv_aload_n hx hb d_X8_init_14 rfl (lv_at hl 0 rfl) ?_
  refine lv_iconst (v := 0) hx hb d_X8_init_15 (by decide) ?_
  refine lv_iload_n hx hb d_X8_init_16 rfl (lv_at hl 1 rfl) ?_
  refine va_mmax hx hb (hml.trans hl.1.symm) hown (hts _ (fm_in kw_85 rfl)) (hts _ (fm_in kw_86 rfl)) (hts _ (fm_in kw_4 rfl)) (hts _ (fm_in kw_87 rfl)) (by decide) (Nat.le_of_ble_eq_true rfl) (by show _ ≤ 2; omega) (by show _ ≤ 120; omega) d_X8_init_17 ?_
  rw [show (if (0 : Int32) < 20 then (20 : Int32) else 0) = 20 by decide]
  refine mk_putF (ci := 8) (k := 0) (fs := [.int 0, .null, .null, .int 0, .int 0]) Z hK hP hD hS 0 rfl (by decide) mf_X8_24_8 rfl hname rfl rfl rfl (Nat.le_of_ble_eq_true rfl) d_X8_init_20 (fun H locs hP hD hS => ?_)
  have hP : va_P D fm_cls [(a, .inr (8, [.int 20, .null, .null, .int 0, .int 0]))] H := hP
  have hD : va_D (va_A [(a, .inr (8, [.int 0, .null, .null, .int 0, .int 0]))] s.heap.size) [(a, .inr (8, [.int 20, .null, .null, .int 0, .int 0]))] := hD
  refine lv_aload_n hx hb d_X8_init_23 rfl (lv_at hl 0 rfl) ?_
  refine lv_aload_n hx hb d_X8_init_24 rfl (lv_at hl 0 rfl) ?_
  refine mk_get (ci := 8) (k := 0) (fs := [.int 20, .null, .null, .int 0, .int 0]) (v := .int 20) Z hK hP 0 rfl (by decide) mf_X8_24_8 rfl d_X8_init_25 ?_
  refine lv_iconst (v := 3) hx hb d_X8_init_28 (by decide) ?_
  refine lv_imul hx hb d_X8_init_29 ?_
  rw [show (20 * 3 : Int32) = 60 by decide]
  refine mk_newa (L := 60) Z kw_77 hK hP hD hS hA (show (60 : Int32) = nI 60 by decide) (by decide) (by show _ ≤ 2; omega) (by show _ ≤ 120; omega) d_X8_init_30 (fun q30 H hP hD hS => ?_)
  have hP : va_P D fm_cls [(a, .inr (8, [.int 20, .null, .null, .int 0, .int 0])), (q30, .inl (ids 13, 60, .inl (fun _ => 0)))] H := hP
  have hD : va_D (va_A [(a, .inr (8, [.int 0, .null, .null, .int 0, .int 0]))] s.heap.size) [(a, .inr (8, [.int 20, .null, .null, .int 0, .int 0])), (q30, .inl (ids 13, 60, .inl (fun _ => 0)))] := hD
  refine mk_putF (ci := 8) (k := 1) (fs := [.int 20, .null, .null, .int 0, .int 0]) Z hK hP hD hS 0 rfl (by decide) mf_X8_27_8 rfl hname rfl rfl rfl (Nat.le_of_ble_eq_true rfl) d_X8_init_32 (fun H locs hP hD hS => ?_)
  have hP : va_P D fm_cls [(a, .inr (8, [.int 20, .ref q30, .null, .int 0, .int 0])), (q30, .inl (ids 13, 60, .inl (fun _ => 0)))] H := hP
  have hD : va_D (va_A [(a, .inr (8, [.int 0, .null, .null, .int 0, .int 0]))] s.heap.size) [(a, .inr (8, [.int 20, .ref q30, .null, .int 0, .int 0])), (q30, .inl (ids 13, 60, .inl (fun _ => 0)))] := hD
  refine lv_aload_n hx hb d_X8_init_35 rfl (lv_at hl 0 rfl) ?_
  refine lv_aload_n hx hb d_X8_init_36 rfl (lv_at hl 0 rfl) ?_
  refine mk_get (ci := 8) (k := 0) (fs := [.int 20, .ref q30, .null, .int 0, .int 0]) (v := .int 20) Z hK hP 0 rfl (by decide) mf_X8_24_8 rfl d_X8_init_37 ?_
  refine lv_iconst (v := 3) hx hb d_X8_init_40 (by decide) ?_
  refine lv_imul hx hb d_X8_init_41 ?_
  rw [show (20 * 3 : Int32) = 60 by decide]
  refine mk_newa (L := 60) Z kw_77 hK hP hD hS hA (show (60 : Int32) = nI 60 by decide) (by decide) (by show _ ≤ 2; omega) (by show _ ≤ 120; omega) d_X8_init_42 (fun q42 H hP hD hS => ?_)
  have hP : va_P D fm_cls [(a, .inr (8, [.int 20, .ref q30, .null, .int 0, .int 0])), (q30, .inl (ids 13, 60, .inl (fun _ => 0))), (q42, .inl (ids 13, 60, .inl (fun _ => 0)))] H := hP
  have hD : va_D (va_A [(a, .inr (8, [.int 0, .null, .null, .int 0, .int 0]))] s.heap.size) [(a, .inr (8, [.int 20, .ref q30, .null, .int 0, .int 0])), (q30, .inl (ids 13, 60, .inl (fun _ => 0))), (q42, .inl (ids 13, 60, .inl (fun _ => 0)))] := hD
  refine mk_putF (ci := 8) (k := 2) (fs := [.int 20, .ref q30, .null, .int 0, .int 0]) Z hK hP hD hS 0 rfl (by decide) mf_X8_31_8 rfl hname rfl rfl rfl (Nat.le_of_ble_eq_true rfl) d_X8_init_44 (fun H locs hP hD hS => ?_)
  have hP : va_P D fm_cls [(a, .inr (8, [.int 20, .ref q30, .ref q42, .int 0, .int 0])), (q30, .inl (ids 13, 60, .inl (fun _ => 0))), (q42, .inl (ids 13, 60, .inl (fun _ => 0)))] H := hP
  have hD : va_D (va_A [(a, .inr (8, [.int 0, .null, .null, .int 0, .int 0]))] s.heap.size) [(a, .inr (8, [.int 20, .ref q30, .ref q42, .int 0, .int 0])), (q30, .inl (ids 13, 60, .inl (fun _ => 0))), (q42, .inl (ids 13, 60, .inl (fun _ => 0)))] := hD
  refine mk_ret (w0 := [(a, .inr (8, [.int 0, .null, .null, .int 0, .int 0]))]) (post := (fun u : Nat → Nat => [(a, .inr (8, [.int 20, .ref (u 0), .ref (u 1), .int 0, .int 0])), ((u 0), .inl (ids 13, 60, .inl (fun _ => 0))), ((u 1), .inl (ids 13, 60, .inl (fun _ => 0)))])) Z hr hlk hP hD hS (fun i => ([q30, q42] : List Nat).getD i 0) rfl ?_ ?_ d_X8_init_47
  · show _ ≤ 2; omega
  · show _ ≤ 120; first | decide +kernel | omega
theorem k_X8_init_2 {l : Launch} {D : va_G} {ids : Nat → ClassId} {a : Nat} (sz : Nat) : mk_M l y_X8_init prog_10_method_1_code 2 1 2 12 D ids [(a, .inr (8, [.int 0, .null, .null, .int 0, .int 0]))] [.ref a, .int 2] sz (fun u : Nat → Nat => [(a, .inr (8, [.int 2, .ref (u 0), .ref (u 1), .int 0, .int 0])), ((u 0), .inl (ids 13, 6, .inl (fun _ => 0))), ((u 1), .inl (ids 13, 6, .inl (fun _ => 0)))]) := by
  unfold mk_M
  refine mk_open rfl (Nat.le_of_ble_eq_true rfl) (fun p e s m args below meth c ls Z hr hlk hname hK hP hD hS hA hl hsz => ?_)
  subst hsz
  obtain ⟨hx, hb, hml, hown, hts⟩ := id Z
  have hl : lv_has ls 2 [(0, .ref a), (1, .int 2)] := hl
  refine lv_aload_n hx hb d_X8_init_0 rfl (lv_at hl 0 rfl) ?_
  refine mk_obj Z hl.1 kw_84 kw_27 kw_28 (by decide) d_X8_init_1 ?_
  refine lv_aload_n hx hb d_X8_init_4 rfl (lv_at hl 0 rfl) ?_
  refine lv_iconst (v := 0) hx hb d_X8_init_5 (by decide) ?_
  refine mk_put (ci := 8) (k := 3) (fs := [.int 0, .null, .null, .int 0, .int 0]) Z hK hP hD hS 0 rfl (by decide) mf_X8_9_8 rfl rfl rfl (Nat.le_of_ble_eq_true rfl) d_X8_init_6 (fun H locs hP hD hS => ?_)
  have hP : va_P D fm_cls [(a, .inr (8, [.int 0, .null, .null, .int 0, .int 0]))] H := hP
  have hD : va_D (va_A [(a, .inr (8, [.int 0, .null, .null, .int 0, .int 0]))] s.heap.size) [(a, .inr (8, [.int 0, .null, .null, .int 0, .int 0]))] := hD
  refine lv_aload_n hx hb d_X8_init_9 rfl (lv_at hl 0 rfl) ?_
  refine lv_iconst (v := 0) hx hb d_X8_init_10 (by decide) ?_
  refine mk_put (ci := 8) (k := 4) (fs := [.int 0, .null, .null, .int 0, .int 0]) Z hK hP hD hS 0 rfl (by decide) mf_X8_15_8 rfl rfl rfl (Nat.le_of_ble_eq_true rfl) d_X8_init_11 (fun H locs hP hD hS => ?_)
  have hP : va_P D fm_cls [(a, .inr (8, [.int 0, .null, .null, .int 0, .int 0]))] H := hP
  have hD : va_D (va_A [(a, .inr (8, [.int 0, .null, .null, .int 0, .int 0]))] s.heap.size) [(a, .inr (8, [.int 0, .null, .null, .int 0, .int 0]))] := hD
  refine lv_aload_n hx hb d_X8_init_14 rfl (lv_at hl 0 rfl) ?_
  refine lv_iconst (v := 0) hx hb d_X8_init_15 (by decide) ?_
  refine lv_iload_n hx hb d_X8_init_16 rfl (lv_at hl 1 rfl) ?_
  refine va_mmax hx hb (hml.trans hl.1.symm) hown (hts _ (fm_in kw_85 rfl)) (hts _ (fm_in kw_86 rfl)) (hts _ (fm_in kw_4 rfl)) (hts _ (fm_in kw_87 rfl)) (by decide) (Nat.le_of_ble_eq_true rfl) (by show _ ≤ 2; omega) (by show _ ≤ 12; omega) d_X8_init_17 ?_
  rw [show (if (0 : Int32) < 2 then (2 : Int32) else 0) = 2 by decide]
  refine mk_putF (ci := 8) (k := 0) (fs := [.int 0, .null, .null, .int 0, .int 0]) Z hK hP hD hS 0 rfl (by decide) mf_X8_24_8 rfl hname rfl rfl rfl (Nat.le_of_ble_eq_true rfl) d_X8_init_20 (fun H locs hP hD hS => ?_)
  have hP : va_P D fm_cls [(a, .inr (8, [.int 2, .null, .null, .int 0, .int 0]))] H := hP
  have hD : va_D (va_A [(a, .inr (8, [.int 0, .null, .null, .int 0, .int 0]))] s.heap.size) [(a, .inr (8, [.int 2, .null, .null, .int 0, .int 0]))] := hD
  refine lv_aload_n hx hb d_X8_init_23 rfl (lv_at hl 0 rfl) ?_
  refine lv_aload_n hx hb d_X8_init_24 rfl (lv_at hl 0 rfl) ?_
  refine mk_get (ci := 8) (k := 0) (fs := [.int 2, .null, .null, .int 0, .int 0]) (v := .int 2) Z hK hP 0 rfl (by decide) mf_X8_24_8 rfl d_X8_init_25 ?_
  refine lv_iconst (v := 3) hx hb d_X8_init_28 (by decide) ?_
  refine lv_imul hx hb d_X8_init_29 ?_
  rw [show (2 * 3 : Int32) = 6 by decide]
  refine mk_newa (L := 6) Z kw_77 hK hP hD hS hA (show (6 : Int32) = nI 6 by decide) (by decide) (by show _ ≤ 2; omega) (by show _ ≤ 12; omega) d_X8_init_30 (fun q30 H hP hD hS => ?_)
  have hP : va_P D fm_cls [(a, .inr (8, [.int 2, .null, .null, .int 0, .int 0])), (q30, .inl (ids 13, 6, .inl (fun _ => 0)))] H := hP
  have hD : va_D (va_A [(a, .inr (8, [.int 0, .null, .null, .int 0, .int 0]))] s.heap.size) [(a, .inr (8, [.int 2, .null, .null, .int 0, .int 0])), (q30, .inl (ids 13, 6, .inl (fun _ => 0)))] := hD
  refine mk_putF (ci := 8) (k := 1) (fs := [.int 2, .null, .null, .int 0, .int 0]) Z hK hP hD hS 0 rfl (by decide) mf_X8_27_8 rfl hname rfl rfl rfl (Nat.le_of_ble_eq_true rfl) d_X8_init_32 (fun H locs hP hD hS => ?_)
  have hP : va_P D fm_cls [(a, .inr (8, [.int 2, .ref q30, .null, .int 0, .int 0])), (q30, .inl (ids 13, 6, .inl (fun _ => 0)))] H := hP
  have hD : va_D (va_A [(a, .inr (8, [.int 0, .null, .null, .int 0, .int 0]))] s.heap.size) [(a, .inr (8, [.int 2, .ref q30, .null, .int 0, .int 0])), (q30, .inl (ids 13, 6, .inl (fun _ => 0)))] := hD
  refine lv_aload_n hx hb d_X8_init_35 rfl (lv_at hl 0 rfl) ?_
  refine lv_aload_n hx hb d_X8_init_36 rfl (lv_at hl 0 rfl) ?_
  refine mk_get (ci := 8) (k := 0) (fs := [.int 2, .ref q30, .null, .int 0, .int 0]) (v := .int 2) Z hK hP 0 rfl (by decide) mf_X8_24_8 rfl d_X8_init_37 ?_
  refine lv_iconst (v := 3) hx hb d_X8_init_40 (by decide) ?_
  refine lv_imul hx hb d_X8_init_41 ?_
  rw [show (2 * 3 : Int32) = 6 by decide]
  refine mk_newa (L := 6) Z kw_77 hK hP hD hS hA (show (6 : Int32) = nI 6 by decide) (by decide) (by show _ ≤ 2; omega) (by show _ ≤ 12; omega) d_X8_init_42 (fun q42 H hP hD hS => ?_)
  have hP : va_P D fm_cls [(a, .inr (8, [.int 2, .ref q30, .null, .int 0, .int 0])), (q30, .inl (ids 13, 6, .inl (fun _ => 0))), (q42, .inl (ids 13, 6, .inl (fun _ => 0)))] H := hP
  have hD : va_D (va_A [(a, .inr (8, [.int 0, .null, .null, .int 0, .int 0]))] s.heap.size) [(a, .inr (8, [.int 2, .ref q30, .null, .int 0, .int 0])), (q30, .inl (ids 13, 6, .inl (fun _ => 0))), (q42, .inl (ids 13, 6, .inl (fun _ => 0)))] := hD
  refine mk_putF (ci := 8) (k := 2) (fs := [.int 2, .ref q30, .null, .int 0, .int 0]) Z hK hP hD hS 0 rfl (by decide) mf_X8_31_8 rfl hname rfl rfl rfl (Nat.le_of_ble_eq_true rfl) d_X8_init_44 (fun H locs hP hD hS => ?_)
  have hP : va_P D fm_cls [(a, .inr (8, [.int 2, .ref q30, .ref q42, .int 0, .int 0])), (q30, .inl (ids 13, 6, .inl (fun _ => 0))), (q42, .inl (ids 13, 6, .inl (fun _ => 0)))] H := hP
  have hD : va_D (va_A [(a, .inr (8, [.int 0, .null, .null, .int 0, .int 0]))] s.heap.size) [(a, .inr (8, [.int 2, .ref q30, .ref q42, .int 0, .int 0])), (q30, .inl (ids 13, 6, .inl (fun _ => 0))), (q42, .inl (ids 13, 6, .inl (fun _ => 0)))] := hD
  refine mk_ret (w0 := [(a, .inr (8, [.int 0, .null, .null, .int 0, .int 0]))]) (post := (fun u : Nat → Nat => [(a, .inr (8, [.int 2, .ref (u 0), .ref (u 1), .int 0, .int 0])), ((u 0), .inl (ids 13, 6, .inl (fun _ => 0))), ((u 1), .inl (ids 13, 6, .inl (fun _ => 0)))])) Z hr hlk hP hD hS (fun i => ([q30, q42] : List Nat).getD i 0) rfl ?_ ?_ d_X8_init_47
  · show _ ≤ 2; omega
  · show _ ≤ 12; first | decide +kernel | omega
theorem k_X6_init {l : Launch} {D : va_G} {ids : Nat → ClassId} {a : Nat} (sz : Nat) : mk_M l y_X6_init prog_8_method_1_code 1 2 6 329 D ids [(a, .inr (6, [.null, .null, .int 0, .int 0]))] [.ref a] sz (fun u : Nat → Nat => [(a, .inr (6, [.ref (u 0), .ref (u 1), .int 0, .int 0])), ((u 0), .inl (ids 13, 101, .inl (fun _ => 0))), ((u 2), .inl (ids 13, 10, .inl (fun _ => 0))), ((u 3), .inl (ids 13, 10, .inl (fun _ => 0))), ((u 4), .inl (ids 13, 100, .inl (fun _ => 0))), ((u 5), .inl (ids 13, 100, .inl (fun _ => 0))), ((u 1), .inr (10, [.int 3, .int 2, .int 0, .ref (u 2), .ref (u 3), .int 0, .ref (u 4), .ref (u 5)]))]) := by
  unfold mk_M
  refine mk_open rfl (Nat.le_of_ble_eq_true rfl) (fun p e s m args below meth c ls Z hr hlk hname hK hP hD hS hA hl hsz => ?_)
  subst hsz
  obtain ⟨hx, hb, hml, hown, hts⟩ := id Z
  have hl : lv_has ls 1 [(0, .ref a)] := hl
  have hN10 : fm_N 10 = 8 := rfl
  refine lv_aload_n hx hb d_X6_init_0 rfl (lv_at hl 0 rfl) ?_
  refine mk_obj Z hl.1 kw_110 kw_27 kw_28 (by decide) d_X6_init_1 ?_
  refine lv_aload_n hx hb d_X6_init_4 rfl (lv_at hl 0 rfl) ?_
  refine lv_bipush (v := 101) hx hb d_X6_init_5 (by decide) ?_
  refine mk_newa (L := 101) Z kw_77 hK hP hD hS hA (show (101 : Int32) = nI 101 by decide) (by decide) (by show _ ≤ 6; omega) (by show _ ≤ 329; omega) d_X6_init_7 (fun q7 H hP hD hS => ?_)
  have hP : va_P D fm_cls [(a, .inr (6, [.null, .null, .int 0, .int 0])), (q7, .inl (ids 13, 101, .inl (fun _ => 0)))] H := hP
  have hD : va_D (va_A [(a, .inr (6, [.null, .null, .int 0, .int 0]))] s.heap.size) [(a, .inr (6, [.null, .null, .int 0, .int 0])), (q7, .inl (ids 13, 101, .inl (fun _ => 0)))] := hD
  refine mk_putF (ci := 6) (k := 0) (fs := [.null, .null, .int 0, .int 0]) Z hK hP hD hS 0 rfl (by decide) mf_X6_9_6 rfl hname rfl rfl rfl (Nat.le_of_ble_eq_true rfl) d_X6_init_9 (fun H locs hP hD hS => ?_)
  have hP : va_P D fm_cls [(a, .inr (6, [.ref q7, .null, .int 0, .int 0])), (q7, .inl (ids 13, 101, .inl (fun _ => 0)))] H := hP
  have hD : va_D (va_A [(a, .inr (6, [.null, .null, .int 0, .int 0]))] s.heap.size) [(a, .inr (6, [.ref q7, .null, .int 0, .int 0])), (q7, .inl (ids 13, 101, .inl (fun _ => 0)))] := hD
  refine lv_aload_n hx hb d_X6_init_12 rfl (lv_at hl 0 rfl) ?_
  refine mk_new (ci := 10) (fs := [.int 0, .int 0, .int 0, .null, .null, .int 0, .null, .null]) Z (by decide) kw_111 kw_34 kw_2 hK hP hD hS hA mn_10 (by show _ ≤ 6; omega) (by show _ ≤ 329; omega) d_X6_init_13 (fun q13 H hP hD hS => ?_)
  have hP : va_P D fm_cls [(a, .inr (6, [.ref q7, .null, .int 0, .int 0])), (q7, .inl (ids 13, 101, .inl (fun _ => 0))), (q13, .inr (10, [.int 0, .int 0, .int 0, .null, .null, .int 0, .null, .null]))] H := hP
  have hD : va_D (va_A [(a, .inr (6, [.null, .null, .int 0, .int 0]))] s.heap.size) [(a, .inr (6, [.ref q7, .null, .int 0, .int 0])), (q7, .inl (ids 13, 101, .inl (fun _ => 0))), (q13, .inr (10, [.int 0, .int 0, .int 0, .null, .null, .int 0, .null, .null]))] := hD
  refine lv_dup hx hb d_X6_init_16 rfl ?_
  refine mk_callI (As := []) (rest := [.ref q13, .ref a]) (q := q13) (k := 0) Z (k_X10_init (ids := ids) (D := D) _) hK hP hD hS hA (isC := [2]) (isR := [0, 1]) (wc := [(q13, .inr (10, [.int 0, .int 0, .int 0, .null, .null, .int 0, .null, .null]))]) (wr := [(a, .inr (6, [.ref q7, .null, .int 0, .int 0])), (q7, .inl (ids 13, 101, .inl (fun _ => 0)))]) rfl rfl rfl rfl (by decide) rfl kw_112 kw_36 kw_2 kw_37 yd_X10_init rfl (by decide) (by decide) hl.1 (Nat.le_of_ble_eq_true rfl) d_X6_init_17 (by show _ ≤ 6; omega) (by show _ ≤ 329; omega) rfl (fun u17 H locs hP hD hS => ?_)
  have hP : va_P D fm_cls [(a, .inr (6, [.ref q7, .null, .int 0, .int 0])), (q7, .inl (ids 13, 101, .inl (fun _ => 0))), ((u17 0), .inl (ids 13, 10, .inl (fun _ => 0))), ((u17 1), .inl (ids 13, 10, .inl (fun _ => 0))), ((u17 2), .inl (ids 13, 100, .inl (fun _ => 0))), ((u17 3), .inl (ids 13, 100, .inl (fun _ => 0))), (q13, .inr (10, [.int 3, .int 2, .int 0, .ref (u17 0), .ref (u17 1), .int 0, .ref (u17 2), .ref (u17 3)]))] H := hP
  have hD : va_D (va_A [(a, .inr (6, [.null, .null, .int 0, .int 0]))] s.heap.size) [(a, .inr (6, [.ref q7, .null, .int 0, .int 0])), (q7, .inl (ids 13, 101, .inl (fun _ => 0))), ((u17 0), .inl (ids 13, 10, .inl (fun _ => 0))), ((u17 1), .inl (ids 13, 10, .inl (fun _ => 0))), ((u17 2), .inl (ids 13, 100, .inl (fun _ => 0))), ((u17 3), .inl (ids 13, 100, .inl (fun _ => 0))), (q13, .inr (10, [.int 3, .int 2, .int 0, .ref (u17 0), .ref (u17 1), .int 0, .ref (u17 2), .ref (u17 3)]))] := hD
  refine mk_put (ci := 6) (k := 1) (fs := [.ref q7, .null, .int 0, .int 0]) Z hK hP hD hS 0 rfl (by decide) mf_X6_18_6 rfl rfl rfl (Nat.le_of_ble_eq_true rfl) d_X6_init_20 (fun H locs hP hD hS => ?_)
  have hP : va_P D fm_cls [(a, .inr (6, [.ref q7, .ref q13, .int 0, .int 0])), (q7, .inl (ids 13, 101, .inl (fun _ => 0))), ((u17 0), .inl (ids 13, 10, .inl (fun _ => 0))), ((u17 1), .inl (ids 13, 10, .inl (fun _ => 0))), ((u17 2), .inl (ids 13, 100, .inl (fun _ => 0))), ((u17 3), .inl (ids 13, 100, .inl (fun _ => 0))), (q13, .inr (10, [.int 3, .int 2, .int 0, .ref (u17 0), .ref (u17 1), .int 0, .ref (u17 2), .ref (u17 3)]))] H := hP
  have hD : va_D (va_A [(a, .inr (6, [.null, .null, .int 0, .int 0]))] s.heap.size) [(a, .inr (6, [.ref q7, .ref q13, .int 0, .int 0])), (q7, .inl (ids 13, 101, .inl (fun _ => 0))), ((u17 0), .inl (ids 13, 10, .inl (fun _ => 0))), ((u17 1), .inl (ids 13, 10, .inl (fun _ => 0))), ((u17 2), .inl (ids 13, 100, .inl (fun _ => 0))), ((u17 3), .inl (ids 13, 100, .inl (fun _ => 0))), (q13, .inr (10, [.int 3, .int 2, .int 0, .ref (u17 0), .ref (u17 1), .int 0, .ref (u17 2), .ref (u17 3)]))] := hD
  refine lv_aload_n hx hb d_X6_init_23 rfl (lv_at hl 0 rfl) ?_
  refine lv_iconst (v := 0) hx hb d_X6_init_24 (by decide) ?_
  refine mk_put (ci := 6) (k := 2) (fs := [.ref q7, .ref q13, .int 0, .int 0]) Z hK hP hD hS 0 rfl (by decide) mf_X6_22_6 rfl rfl rfl (Nat.le_of_ble_eq_true rfl) d_X6_init_25 (fun H locs hP hD hS => ?_)
  have hP : va_P D fm_cls [(a, .inr (6, [.ref q7, .ref q13, .int 0, .int 0])), (q7, .inl (ids 13, 101, .inl (fun _ => 0))), ((u17 0), .inl (ids 13, 10, .inl (fun _ => 0))), ((u17 1), .inl (ids 13, 10, .inl (fun _ => 0))), ((u17 2), .inl (ids 13, 100, .inl (fun _ => 0))), ((u17 3), .inl (ids 13, 100, .inl (fun _ => 0))), (q13, .inr (10, [.int 3, .int 2, .int 0, .ref (u17 0), .ref (u17 1), .int 0, .ref (u17 2), .ref (u17 3)]))] H := hP
  have hD : va_D (va_A [(a, .inr (6, [.null, .null, .int 0, .int 0]))] s.heap.size) [(a, .inr (6, [.ref q7, .ref q13, .int 0, .int 0])), (q7, .inl (ids 13, 101, .inl (fun _ => 0))), ((u17 0), .inl (ids 13, 10, .inl (fun _ => 0))), ((u17 1), .inl (ids 13, 10, .inl (fun _ => 0))), ((u17 2), .inl (ids 13, 100, .inl (fun _ => 0))), ((u17 3), .inl (ids 13, 100, .inl (fun _ => 0))), (q13, .inr (10, [.int 3, .int 2, .int 0, .ref (u17 0), .ref (u17 1), .int 0, .ref (u17 2), .ref (u17 3)]))] := hD
  refine lv_aload_n hx hb d_X6_init_28 rfl (lv_at hl 0 rfl) ?_
  refine lv_iconst (v := 0) hx hb d_X6_init_29 (by decide) ?_
  refine mk_put (ci := 6) (k := 3) (fs := [.ref q7, .ref q13, .int 0, .int 0]) Z hK hP hD hS 0 rfl (by decide) mf_X6_26_6 rfl rfl rfl (Nat.le_of_ble_eq_true rfl) d_X6_init_30 (fun H locs hP hD hS => ?_)
  have hP : va_P D fm_cls [(a, .inr (6, [.ref q7, .ref q13, .int 0, .int 0])), (q7, .inl (ids 13, 101, .inl (fun _ => 0))), ((u17 0), .inl (ids 13, 10, .inl (fun _ => 0))), ((u17 1), .inl (ids 13, 10, .inl (fun _ => 0))), ((u17 2), .inl (ids 13, 100, .inl (fun _ => 0))), ((u17 3), .inl (ids 13, 100, .inl (fun _ => 0))), (q13, .inr (10, [.int 3, .int 2, .int 0, .ref (u17 0), .ref (u17 1), .int 0, .ref (u17 2), .ref (u17 3)]))] H := hP
  have hD : va_D (va_A [(a, .inr (6, [.null, .null, .int 0, .int 0]))] s.heap.size) [(a, .inr (6, [.ref q7, .ref q13, .int 0, .int 0])), (q7, .inl (ids 13, 101, .inl (fun _ => 0))), ((u17 0), .inl (ids 13, 10, .inl (fun _ => 0))), ((u17 1), .inl (ids 13, 10, .inl (fun _ => 0))), ((u17 2), .inl (ids 13, 100, .inl (fun _ => 0))), ((u17 3), .inl (ids 13, 100, .inl (fun _ => 0))), (q13, .inr (10, [.int 3, .int 2, .int 0, .ref (u17 0), .ref (u17 1), .int 0, .ref (u17 2), .ref (u17 3)]))] := hD
  refine mk_ret (w0 := [(a, .inr (6, [.null, .null, .int 0, .int 0]))]) (post := (fun u : Nat → Nat => [(a, .inr (6, [.ref (u 0), .ref (u 1), .int 0, .int 0])), ((u 0), .inl (ids 13, 101, .inl (fun _ => 0))), ((u 2), .inl (ids 13, 10, .inl (fun _ => 0))), ((u 3), .inl (ids 13, 10, .inl (fun _ => 0))), ((u 4), .inl (ids 13, 100, .inl (fun _ => 0))), ((u 5), .inl (ids 13, 100, .inl (fun _ => 0))), ((u 1), .inr (10, [.int 3, .int 2, .int 0, .ref (u 2), .ref (u 3), .int 0, .ref (u 4), .ref (u 5)]))])) Z hr hlk hP hD hS (fun i => ([q7, q13, (u17 0), (u17 1), (u17 2), (u17 3)] : List Nat).getD i 0) rfl ?_ ?_ d_X6_init_33
  · show _ ≤ 6; omega
  · show _ ≤ 329; first | decide +kernel | omega
theorem k_X5_init_5 {l : Launch} {D : va_G} {ids : Nat → ClassId} {a b : Nat} {x y z w : Int32} (sz : Nat) : mk_M l y_X5_init prog_7_method_1_code 6 1 0 0 D ids [(a, .inr (5, [.int 0, .int 0, .int 0, .int 0, .int 0, .int 0, .int 0, .int 0, .int 0, .null]))] [.ref a, .int x, .int y, .int z, .int w, .ref b] sz (fun u : Nat → Nat => [(a, .inr (5, [.int x, .int y, .int z, .int w, .int 0, .int 0, .int 0, .int 0, .int 0, .ref b]))]) := by
  unfold mk_M
  refine mk_open rfl (Nat.le_of_ble_eq_true rfl) (fun p e s m args below meth c ls Z hr hlk hname hK hP hD hS hA hl hsz => ?_)
  subst hsz
  obtain ⟨hx, hb, hml, hown, hts⟩ := id Z
  have hl : lv_has ls 6 [(0, .ref a), (1, .int x), (2, .int y), (3, .int z), (4, .int w), (5, .ref b)] := hl
  refine lv_aload_n hx hb d_X5_init_0 rfl (lv_at hl 0 rfl) ?_
  refine mk_obj Z hl.1 kw_336 kw_27 kw_28 (by decide) d_X5_init_1 ?_
  refine lv_aload_n hx hb d_X5_init_4 rfl (lv_at hl 0 rfl) ?_
  refine lv_iconst (v := 0) hx hb d_X5_init_5 (by decide) ?_
  refine mk_put (ci := 5) (k := 4) (fs := [.int 0, .int 0, .int 0, .int 0, .int 0, .int 0, .int 0, .int 0, .int 0, .null]) Z hK hP hD hS 0 rfl (by decide) mf_X5_7_5 rfl rfl rfl (Nat.le_of_ble_eq_true rfl) d_X5_init_6 (fun H locs hP hD hS => ?_)
  have hP : va_P D fm_cls [(a, .inr (5, [.int 0, .int 0, .int 0, .int 0, .int 0, .int 0, .int 0, .int 0, .int 0, .null]))] H := hP
  have hD : va_D (va_A [(a, .inr (5, [.int 0, .int 0, .int 0, .int 0, .int 0, .int 0, .int 0, .int 0, .int 0, .null]))] s.heap.size) [(a, .inr (5, [.int 0, .int 0, .int 0, .int 0, .int 0, .int 0, .int 0, .int 0, .int 0, .null]))] := hD
  refine lv_aload_n hx hb d_X5_init_9 rfl (lv_at hl 0 rfl) ?_
  refine lv_iconst (v := 0) hx hb d_X5_init_10 (by decide) ?_
  refine mk_put (ci := 5) (k := 5) (fs := [.int 0, .int 0, .int 0, .int 0, .int 0, .int 0, .int 0, .int 0, .int 0, .null]) Z hK hP hD hS 0 rfl (by decide) mf_X5_13_5 rfl rfl rfl (Nat.le_of_ble_eq_true rfl) d_X5_init_11 (fun H locs hP hD hS => ?_)
  have hP : va_P D fm_cls [(a, .inr (5, [.int 0, .int 0, .int 0, .int 0, .int 0, .int 0, .int 0, .int 0, .int 0, .null]))] H := hP
  have hD : va_D (va_A [(a, .inr (5, [.int 0, .int 0, .int 0, .int 0, .int 0, .int 0, .int 0, .int 0, .int 0, .null]))] s.heap.size) [(a, .inr (5, [.int 0, .int 0, .int 0, .int 0, .int 0, .int 0, .int 0, .int 0, .int 0, .null]))] := hD
  refine lv_aload_n hx hb d_X5_init_14 rfl (lv_at hl 0 rfl) ?_
  refine lv_iconst (v := 0) hx hb d_X5_init_15 (by decide) ?_
  refine mk_put (ci := 5) (k := 6) (fs := [.int 0, .int 0, .int 0, .int 0, .int 0, .int 0, .int 0, .int 0, .int 0, .null]) Z hK hP hD hS 0 rfl (by decide) mf_X5_17_5 rfl rfl rfl (Nat.le_of_ble_eq_true rfl) d_X5_init_16 (fun H locs hP hD hS => ?_)
  have hP : va_P D fm_cls [(a, .inr (5, [.int 0, .int 0, .int 0, .int 0, .int 0, .int 0, .int 0, .int 0, .int 0, .null]))] H := hP
  have hD : va_D (va_A [(a, .inr (5, [.int 0, .int 0, .int 0, .int 0, .int 0, .int 0, .int 0, .int 0, .int 0, .null]))] s.heap.size) [(a, .inr (5, [.int 0, .int 0, .int 0, .int 0, .int 0, .int 0, .int 0, .int 0, .int 0, .null]))] := hD
  refine lv_aload_n hx hb d_X5_init_19 rfl (lv_at hl 0 rfl) ?_
  refine lv_iconst (v := 0) hx hb d_X5_init_20 (by decide) ?_
  refine mk_put (ci := 5) (k := 7) (fs := [.int 0, .int 0, .int 0, .int 0, .int 0, .int 0, .int 0, .int 0, .int 0, .null]) Z hK hP hD hS 0 rfl (by decide) mf_X5_20_5 rfl rfl rfl (Nat.le_of_ble_eq_true rfl) d_X5_init_21 (fun H locs hP hD hS => ?_)
  have hP : va_P D fm_cls [(a, .inr (5, [.int 0, .int 0, .int 0, .int 0, .int 0, .int 0, .int 0, .int 0, .int 0, .null]))] H := hP
  have hD : va_D (va_A [(a, .inr (5, [.int 0, .int 0, .int 0, .int 0, .int 0, .int 0, .int 0, .int 0, .int 0, .null]))] s.heap.size) [(a, .inr (5, [.int 0, .int 0, .int 0, .int 0, .int 0, .int 0, .int 0, .int 0, .int 0, .null]))] := hD
  refine lv_aload_n hx hb d_X5_init_24 rfl (lv_at hl 0 rfl) ?_
  refine lv_iconst (v := 0) hx hb d_X5_init_25 (by decide) ?_
  refine mk_put (ci := 5) (k := 8) (fs := [.int 0, .int 0, .int 0, .int 0, .int 0, .int 0, .int 0, .int 0, .int 0, .null]) Z hK hP hD hS 0 rfl (by decide) mf_X5_23_5 rfl rfl rfl (Nat.le_of_ble_eq_true rfl) d_X5_init_26 (fun H locs hP hD hS => ?_)
  have hP : va_P D fm_cls [(a, .inr (5, [.int 0, .int 0, .int 0, .int 0, .int 0, .int 0, .int 0, .int 0, .int 0, .null]))] H := hP
  have hD : va_D (va_A [(a, .inr (5, [.int 0, .int 0, .int 0, .int 0, .int 0, .int 0, .int 0, .int 0, .int 0, .null]))] s.heap.size) [(a, .inr (5, [.int 0, .int 0, .int 0, .int 0, .int 0, .int 0, .int 0, .int 0, .int 0, .null]))] := hD
  refine lv_aload_n hx hb d_X5_init_29 rfl (lv_at hl 0 rfl) ?_
  refine lv_iload_n hx hb d_X5_init_30 rfl (lv_at hl 1 rfl) ?_
  refine mk_putF (ci := 5) (k := 0) (fs := [.int 0, .int 0, .int 0, .int 0, .int 0, .int 0, .int 0, .int 0, .int 0, .null]) Z hK hP hD hS 0 rfl (by decide) mf_X5_26_5 rfl hname rfl rfl rfl (Nat.le_of_ble_eq_true rfl) d_X5_init_31 (fun H locs hP hD hS => ?_)
  have hP : va_P D fm_cls [(a, .inr (5, [.int x, .int 0, .int 0, .int 0, .int 0, .int 0, .int 0, .int 0, .int 0, .null]))] H := hP
  have hD : va_D (va_A [(a, .inr (5, [.int 0, .int 0, .int 0, .int 0, .int 0, .int 0, .int 0, .int 0, .int 0, .null]))] s.heap.size) [(a, .inr (5, [.int x, .int 0, .int 0, .int 0, .int 0, .int 0, .int 0, .int 0, .int 0, .null]))] := hD
  refine lv_aload_n hx hb d_X5_init_34 rfl (lv_at hl 0 rfl) ?_
  refine lv_iload_n hx hb d_X5_init_35 rfl (lv_at hl 2 rfl) ?_
  refine mk_putF (ci := 5) (k := 1) (fs := [.int x, .int 0, .int 0, .int 0, .int 0, .int 0, .int 0, .int 0, .int 0, .null]) Z hK hP hD hS 0 rfl (by decide) mf_X5_29_5 rfl hname rfl rfl rfl (Nat.le_of_ble_eq_true rfl) d_X5_init_36 (fun H locs hP hD hS => ?_)
  have hP : va_P D fm_cls [(a, .inr (5, [.int x, .int y, .int 0, .int 0, .int 0, .int 0, .int 0, .int 0, .int 0, .null]))] H := hP
  have hD : va_D (va_A [(a, .inr (5, [.int 0, .int 0, .int 0, .int 0, .int 0, .int 0, .int 0, .int 0, .int 0, .null]))] s.heap.size) [(a, .inr (5, [.int x, .int y, .int 0, .int 0, .int 0, .int 0, .int 0, .int 0, .int 0, .null]))] := hD
  refine lv_aload_n hx hb d_X5_init_39 rfl (lv_at hl 0 rfl) ?_
  refine lv_iload_n hx hb d_X5_init_40 rfl (lv_at hl 3 rfl) ?_
  refine mk_putF (ci := 5) (k := 2) (fs := [.int x, .int y, .int 0, .int 0, .int 0, .int 0, .int 0, .int 0, .int 0, .null]) Z hK hP hD hS 0 rfl (by decide) mf_X5_32_5 rfl hname rfl rfl rfl (Nat.le_of_ble_eq_true rfl) d_X5_init_41 (fun H locs hP hD hS => ?_)
  have hP : va_P D fm_cls [(a, .inr (5, [.int x, .int y, .int z, .int 0, .int 0, .int 0, .int 0, .int 0, .int 0, .null]))] H := hP
  have hD : va_D (va_A [(a, .inr (5, [.int 0, .int 0, .int 0, .int 0, .int 0, .int 0, .int 0, .int 0, .int 0, .null]))] s.heap.size) [(a, .inr (5, [.int x, .int y, .int z, .int 0, .int 0, .int 0, .int 0, .int 0, .int 0, .null]))] := hD
  refine lv_aload_n hx hb d_X5_init_44 rfl (lv_at hl 0 rfl) ?_
  refine lv_iload hx hb d_X5_init_45 (lv_at hl 4 rfl) ?_
  refine mk_put (ci := 5) (k := 3) (fs := [.int x, .int y, .int z, .int 0, .int 0, .int 0, .int 0, .int 0, .int 0, .null]) Z hK hP hD hS 0 rfl (by decide) mf_X5_35_5 rfl rfl rfl (Nat.le_of_ble_eq_true rfl) d_X5_init_47 (fun H locs hP hD hS => ?_)
  have hP : va_P D fm_cls [(a, .inr (5, [.int x, .int y, .int z, .int w, .int 0, .int 0, .int 0, .int 0, .int 0, .null]))] H := hP
  have hD : va_D (va_A [(a, .inr (5, [.int 0, .int 0, .int 0, .int 0, .int 0, .int 0, .int 0, .int 0, .int 0, .null]))] s.heap.size) [(a, .inr (5, [.int x, .int y, .int z, .int w, .int 0, .int 0, .int 0, .int 0, .int 0, .null]))] := hD
  refine lv_aload_n hx hb d_X5_init_50 rfl (lv_at hl 0 rfl) ?_
  refine lv_aload hx hb d_X5_init_51 (lv_at hl 5 rfl) ?_
  refine mk_putF (ci := 5) (k := 9) (fs := [.int x, .int y, .int z, .int w, .int 0, .int 0, .int 0, .int 0, .int 0, .null]) Z hK hP hD hS 0 rfl (by decide) mf_X5_38_5 rfl hname rfl rfl rfl (Nat.le_of_ble_eq_true rfl) d_X5_init_53 (fun H locs hP hD hS => ?_)
  have hP : va_P D fm_cls [(a, .inr (5, [.int x, .int y, .int z, .int w, .int 0, .int 0, .int 0, .int 0, .int 0, .ref b]))] H := hP
  have hD : va_D (va_A [(a, .inr (5, [.int 0, .int 0, .int 0, .int 0, .int 0, .int 0, .int 0, .int 0, .int 0, .null]))] s.heap.size) [(a, .inr (5, [.int x, .int y, .int z, .int w, .int 0, .int 0, .int 0, .int 0, .int 0, .ref b]))] := hD
  refine mk_ret (w0 := [(a, .inr (5, [.int 0, .int 0, .int 0, .int 0, .int 0, .int 0, .int 0, .int 0, .int 0, .null]))]) (post := (fun u : Nat → Nat => [(a, .inr (5, [.int x, .int y, .int z, .int w, .int 0, .int 0, .int 0, .int 0, .int 0, .ref b]))])) Z hr hlk hP hD hS (fun i => ([] : List Nat).getD i 0) rfl ?_ ?_ d_X5_init_56
  · show _ ≤ 0; omega
  · show _ ≤ 0; first | decide +kernel | omega
theorem k_X5_init_3 {l : Launch} {D : va_G} {ids : Nat → ClassId} {a b : Nat} {x y z w : Int32} (sz : Nat) : mk_M l y_X5_init prog_7_method_1_code 6 1 0 0 D ids [(a, .inr (3, [.int 0, .int 0, .int 0, .int 0, .int 0, .int 0, .int 0, .int 0, .int 0, .null]))] [.ref a, .int x, .int y, .int z, .int w, .ref b] sz (fun u : Nat → Nat => [(a, .inr (3, [.int x, .int y, .int z, .int w, .int 0, .int 0, .int 0, .int 0, .int 0, .ref b]))]) := by
  unfold mk_M
  refine mk_open rfl (Nat.le_of_ble_eq_true rfl) (fun p e s m args below meth c ls Z hr hlk hname hK hP hD hS hA hl hsz => ?_)
  subst hsz
  obtain ⟨hx, hb, hml, hown, hts⟩ := id Z
  have hl : lv_has ls 6 [(0, .ref a), (1, .int x), (2, .int y), (3, .int z), (4, .int w), (5, .ref b)] := hl
  refine lv_aload_n hx hb d_X5_init_0 rfl (lv_at hl 0 rfl) ?_
  refine mk_obj Z hl.1 kw_336 kw_27 kw_28 (by decide) d_X5_init_1 ?_
  refine lv_aload_n hx hb d_X5_init_4 rfl (lv_at hl 0 rfl) ?_
  refine lv_iconst (v := 0) hx hb d_X5_init_5 (by decide) ?_
  refine mk_put (ci := 3) (k := 4) (fs := [.int 0, .int 0, .int 0, .int 0, .int 0, .int 0, .int 0, .int 0, .int 0, .null]) Z hK hP hD hS 0 rfl (by decide) mf_X5_7_3 rfl rfl rfl (Nat.le_of_ble_eq_true rfl) d_X5_init_6 (fun H locs hP hD hS => ?_)
  have hP : va_P D fm_cls [(a, .inr (3, [.int 0, .int 0, .int 0, .int 0, .int 0, .int 0, .int 0, .int 0, .int 0, .null]))] H := hP
  have hD : va_D (va_A [(a, .inr (3, [.int 0, .int 0, .int 0, .int 0, .int 0, .int 0, .int 0, .int 0, .int 0, .null]))] s.heap.size) [(a, .inr (3, [.int 0, .int 0, .int 0, .int 0, .int 0, .int 0, .int 0, .int 0, .int 0, .null]))] := hD
  refine lv_aload_n hx hb d_X5_init_9 rfl (lv_at hl 0 rfl) ?_
  refine lv_iconst (v := 0) hx hb d_X5_init_10 (by decide) ?_
  refine mk_put (ci := 3) (k := 5) (fs := [.int 0, .int 0, .int 0, .int 0, .int 0, .int 0, .int 0, .int 0, .int 0, .null]) Z hK hP hD hS 0 rfl (by decide) mf_X5_13_3 rfl rfl rfl (Nat.le_of_ble_eq_true rfl) d_X5_init_11 (fun H locs hP hD hS => ?_)
  have hP : va_P D fm_cls [(a, .inr (3, [.int 0, .int 0, .int 0, .int 0, .int 0, .int 0, .int 0, .int 0, .int 0, .null]))] H := hP
  have hD : va_D (va_A [(a, .inr (3, [.int 0, .int 0, .int 0, .int 0, .int 0, .int 0, .int 0, .int 0, .int 0, .null]))] s.heap.size) [(a, .inr (3, [.int 0, .int 0, .int 0, .int 0, .int 0, .int 0, .int 0, .int 0, .int 0, .null]))] := hD
  refine lv_aload_n hx hb d_X5_init_14 rfl (lv_at hl 0 rfl) ?_
  refine lv_iconst (v := 0) hx hb d_X5_init_15 (by decide) ?_
  refine mk_put (ci := 3) (k := 6) (fs := [.int 0, .int 0, .int 0, .int 0, .int 0, .int 0, .int 0, .int 0, .int 0, .null]) Z hK hP hD hS 0 rfl (by decide) mf_X5_17_3 rfl rfl rfl (Nat.le_of_ble_eq_true rfl) d_X5_init_16 (fun H locs hP hD hS => ?_)
  have hP : va_P D fm_cls [(a, .inr (3, [.int 0, .int 0, .int 0, .int 0, .int 0, .int 0, .int 0, .int 0, .int 0, .null]))] H := hP
  have hD : va_D (va_A [(a, .inr (3, [.int 0, .int 0, .int 0, .int 0, .int 0, .int 0, .int 0, .int 0, .int 0, .null]))] s.heap.size) [(a, .inr (3, [.int 0, .int 0, .int 0, .int 0, .int 0, .int 0, .int 0, .int 0, .int 0, .null]))] := hD
  refine lv_aload_n hx hb d_X5_init_19 rfl (lv_at hl 0 rfl) ?_
  refine lv_iconst (v := 0) hx hb d_X5_init_20 (by decide) ?_
  refine mk_put (ci := 3) (k := 7) (fs := [.int 0, .int 0, .int 0, .int 0, .int 0, .int 0, .int 0, .int 0, .int 0, .null]) Z hK hP hD hS 0 rfl (by decide) mf_X5_20_3 rfl rfl rfl (Nat.le_of_ble_eq_true rfl) d_X5_init_21 (fun H locs hP hD hS => ?_)
  have hP : va_P D fm_cls [(a, .inr (3, [.int 0, .int 0, .int 0, .int 0, .int 0, .int 0, .int 0, .int 0, .int 0, .null]))] H := hP
  have hD : va_D (va_A [(a, .inr (3, [.int 0, .int 0, .int 0, .int 0, .int 0, .int 0, .int 0, .int 0, .int 0, .null]))] s.heap.size) [(a, .inr (3, [.int 0, .int 0, .int 0, .int 0, .int 0, .int 0, .int 0, .int 0, .int 0, .null]))] := hD
  refine lv_aload_n hx hb d_X5_init_24 rfl (lv_at hl 0 rfl) ?_
  refine lv_iconst (v := 0) hx hb d_X5_init_25 (by decide) ?_
  refine mk_put (ci := 3) (k := 8) (fs := [.int 0, .int 0, .int 0, .int 0, .int 0, .int 0, .int 0, .int 0, .int 0, .null]) Z hK hP hD hS 0 rfl (by decide) mf_X5_23_3 rfl rfl rfl (Nat.le_of_ble_eq_true rfl) d_X5_init_26 (fun H locs hP hD hS => ?_)
  have hP : va_P D fm_cls [(a, .inr (3, [.int 0, .int 0, .int 0, .int 0, .int 0, .int 0, .int 0, .int 0, .int 0, .null]))] H := hP
  have hD : va_D (va_A [(a, .inr (3, [.int 0, .int 0, .int 0, .int 0, .int 0, .int 0, .int 0, .int 0, .int 0, .null]))] s.heap.size) [(a, .inr (3, [.int 0, .int 0, .int 0, .int 0, .int 0, .int 0, .int 0, .int 0, .int 0, .null]))] := hD
  refine lv_aload_n hx hb d_X5_init_29 rfl (lv_at hl 0 rfl) ?_
  refine lv_iload_n hx hb d_X5_init_30 rfl (lv_at hl 1 rfl) ?_
  refine mk_putF (ci := 3) (k := 0) (fs := [.int 0, .int 0, .int 0, .int 0, .int 0, .int 0, .int 0, .int 0, .int 0, .null]) Z hK hP hD hS 0 rfl (by decide) mf_X5_26_3 rfl hname rfl rfl rfl (Nat.le_of_ble_eq_true rfl) d_X5_init_31 (fun H locs hP hD hS => ?_)
  have hP : va_P D fm_cls [(a, .inr (3, [.int x, .int 0, .int 0, .int 0, .int 0, .int 0, .int 0, .int 0, .int 0, .null]))] H := hP
  have hD : va_D (va_A [(a, .inr (3, [.int 0, .int 0, .int 0, .int 0, .int 0, .int 0, .int 0, .int 0, .int 0, .null]))] s.heap.size) [(a, .inr (3, [.int x, .int 0, .int 0, .int 0, .int 0, .int 0, .int 0, .int 0, .int 0, .null]))] := hD
  refine lv_aload_n hx hb d_X5_init_34 rfl (lv_at hl 0 rfl) ?_
  refine lv_iload_n hx hb d_X5_init_35 rfl (lv_at hl 2 rfl) ?_
  refine mk_putF (ci := 3) (k := 1) (fs := [.int x, .int 0, .int 0, .int 0, .int 0, .int 0, .int 0, .int 0, .int 0, .null]) Z hK hP hD hS 0 rfl (by decide) mf_X5_29_3 rfl hname rfl rfl rfl (Nat.le_of_ble_eq_true rfl) d_X5_init_36 (fun H locs hP hD hS => ?_)
  have hP : va_P D fm_cls [(a, .inr (3, [.int x, .int y, .int 0, .int 0, .int 0, .int 0, .int 0, .int 0, .int 0, .null]))] H := hP
  have hD : va_D (va_A [(a, .inr (3, [.int 0, .int 0, .int 0, .int 0, .int 0, .int 0, .int 0, .int 0, .int 0, .null]))] s.heap.size) [(a, .inr (3, [.int x, .int y, .int 0, .int 0, .int 0, .int 0, .int 0, .int 0, .int 0, .null]))] := hD
  refine lv_aload_n hx hb d_X5_init_39 rfl (lv_at hl 0 rfl) ?_
  refine lv_iload_n hx hb d_X5_init_40 rfl (lv_at hl 3 rfl) ?_
  refine mk_putF (ci := 3) (k := 2) (fs := [.int x, .int y, .int 0, .int 0, .int 0, .int 0, .int 0, .int 0, .int 0, .null]) Z hK hP hD hS 0 rfl (by decide) mf_X5_32_3 rfl hname rfl rfl rfl (Nat.le_of_ble_eq_true rfl) d_X5_init_41 (fun H locs hP hD hS => ?_)
  have hP : va_P D fm_cls [(a, .inr (3, [.int x, .int y, .int z, .int 0, .int 0, .int 0, .int 0, .int 0, .int 0, .null]))] H := hP
  have hD : va_D (va_A [(a, .inr (3, [.int 0, .int 0, .int 0, .int 0, .int 0, .int 0, .int 0, .int 0, .int 0, .null]))] s.heap.size) [(a, .inr (3, [.int x, .int y, .int z, .int 0, .int 0, .int 0, .int 0, .int 0, .int 0, .null]))] := hD
  refine lv_aload_n hx hb d_X5_init_44 rfl (lv_at hl 0 rfl) ?_
  refine lv_iload hx hb d_X5_init_45 (lv_at hl 4 rfl) ?_
  refine mk_put (ci := 3) (k := 3) (fs := [.int x, .int y, .int z, .int 0, .int 0, .int 0, .int 0, .int 0, .int 0, .null]) Z hK hP hD hS 0 rfl (by decide) mf_X5_35_3 rfl rfl rfl (Nat.le_of_ble_eq_true rfl) d_X5_init_47 (fun H locs hP hD hS => ?_)
  have hP : va_P D fm_cls [(a, .inr (3, [.int x, .int y, .int z, .int w, .int 0, .int 0, .int 0, .int 0, .int 0, .null]))] H := hP
  have hD : va_D (va_A [(a, .inr (3, [.int 0, .int 0, .int 0, .int 0, .int 0, .int 0, .int 0, .int 0, .int 0, .null]))] s.heap.size) [(a, .inr (3, [.int x, .int y, .int z, .int w, .int 0, .int 0, .int 0, .int 0, .int 0, .null]))] := hD
  refine lv_aload_n hx hb d_X5_init_50 rfl (lv_at hl 0 rfl) ?_
  refine lv_aload hx hb d_X5_init_51 (lv_at hl 5 rfl) ?_
  refine mk_putF (ci := 3) (k := 9) (fs := [.int x, .int y, .int z, .int w, .int 0, .int 0, .int 0, .int 0, .int 0, .null]) Z hK hP hD hS 0 rfl (by decide) mf_X5_38_3 rfl hname rfl rfl rfl (Nat.le_of_ble_eq_true rfl) d_X5_init_53 (fun H locs hP hD hS => ?_)
  have hP : va_P D fm_cls [(a, .inr (3, [.int x, .int y, .int z, .int w, .int 0, .int 0, .int 0, .int 0, .int 0, .ref b]))] H := hP
  have hD : va_D (va_A [(a, .inr (3, [.int 0, .int 0, .int 0, .int 0, .int 0, .int 0, .int 0, .int 0, .int 0, .null]))] s.heap.size) [(a, .inr (3, [.int x, .int y, .int z, .int w, .int 0, .int 0, .int 0, .int 0, .int 0, .ref b]))] := hD
  refine mk_ret (w0 := [(a, .inr (3, [.int 0, .int 0, .int 0, .int 0, .int 0, .int 0, .int 0, .int 0, .int 0, .null]))]) (post := (fun u : Nat → Nat => [(a, .inr (3, [.int x, .int y, .int z, .int w, .int 0, .int 0, .int 0, .int 0, .int 0, .ref b]))])) Z hr hlk hP hD hS (fun i => ([] : List Nat).getD i 0) rfl ?_ ?_ d_X5_init_56
  · show _ ≤ 0; omega
  · show _ ≤ 0; first | decide +kernel | omega
theorem k_X5_init_4 {l : Launch} {D : va_G} {ids : Nat → ClassId} {a b : Nat} {x y z w : Int32} (sz : Nat) : mk_M l y_X5_init prog_7_method_1_code 6 1 0 0 D ids [(a, .inr (4, [.int 0, .int 0, .int 0, .int 0, .int 0, .int 0, .int 0, .int 0, .int 0, .null]))] [.ref a, .int x, .int y, .int z, .int w, .ref b] sz (fun u : Nat → Nat => [(a, .inr (4, [.int x, .int y, .int z, .int w, .int 0, .int 0, .int 0, .int 0, .int 0, .ref b]))]) := by
  unfold mk_M
  refine mk_open rfl (Nat.le_of_ble_eq_true rfl) (fun p e s m args below meth c ls Z hr hlk hname hK hP hD hS hA hl hsz => ?_)
  subst hsz
  obtain ⟨hx, hb, hml, hown, hts⟩ := id Z
  have hl : lv_has ls 6 [(0, .ref a), (1, .int x), (2, .int y), (3, .int z), (4, .int w), (5, .ref b)] := hl
  refine lv_aload_n hx hb d_X5_init_0 rfl (lv_at hl 0 rfl) ?_
  refine mk_obj Z hl.1 kw_336 kw_27 kw_28 (by decide) d_X5_init_1 ?_
  refine lv_aload_n hx hb d_X5_init_4 rfl (lv_at hl 0 rfl) ?_
  refine lv_iconst (v := 0) hx hb d_X5_init_5 (by decide) ?_
  refine mk_put (ci := 4) (k := 4) (fs := [.int 0, .int 0, .int 0, .int 0, .int 0, .int 0, .int 0, .int 0, .int 0, .null]) Z hK hP hD hS 0 rfl (by decide) mf_X5_7_4 rfl rfl rfl (Nat.le_of_ble_eq_true rfl) d_X5_init_6 (fun H locs hP hD hS => ?_)
  have hP : va_P D fm_cls [(a, .inr (4, [.int 0, .int 0, .int 0, .int 0, .int 0, .int 0, .int 0, .int 0, .int 0, .null]))] H := hP
  have hD : va_D (va_A [(a, .inr (4, [.int 0, .int 0, .int 0, .int 0, .int 0, .int 0, .int 0, .int 0, .int 0, .null]))] s.heap.size) [(a, .inr (4, [.int 0, .int 0, .int 0, .int 0, .int 0, .int 0, .int 0, .int 0, .int 0, .null]))] := hD
  refine lv_aload_n hx hb d_X5_init_9 rfl (lv_at hl 0 rfl) ?_
  refine lv_iconst (v := 0) hx hb d_X5_init_10 (by decide) ?_
  refine mk_put (ci := 4) (k := 5) (fs := [.int 0, .int 0, .int 0, .int 0, .int 0, .int 0, .int 0, .int 0, .int 0, .null]) Z hK hP hD hS 0 rfl (by decide) mf_X5_13_4 rfl rfl rfl (Nat.le_of_ble_eq_true rfl) d_X5_init_11 (fun H locs hP hD hS => ?_)
  have hP : va_P D fm_cls [(a, .inr (4, [.int 0, .int 0, .int 0, .int 0, .int 0, .int 0, .int 0, .int 0, .int 0, .null]))] H := hP
  have hD : va_D (va_A [(a, .inr (4, [.int 0, .int 0, .int 0, .int 0, .int 0, .int 0, .int 0, .int 0, .int 0, .null]))] s.heap.size) [(a, .inr (4, [.int 0, .int 0, .int 0, .int 0, .int 0, .int 0, .int 0, .int 0, .int 0, .null]))] := hD
  refine lv_aload_n hx hb d_X5_init_14 rfl (lv_at hl 0 rfl) ?_
  refine lv_iconst (v := 0) hx hb d_X5_init_15 (by decide) ?_
  refine mk_put (ci := 4) (k := 6) (fs := [.int 0, .int 0, .int 0, .int 0, .int 0, .int 0, .int 0, .int 0, .int 0, .null]) Z hK hP hD hS 0 rfl (by decide) mf_X5_17_4 rfl rfl rfl (Nat.le_of_ble_eq_true rfl) d_X5_init_16 (fun H locs hP hD hS => ?_)
  have hP : va_P D fm_cls [(a, .inr (4, [.int 0, .int 0, .int 0, .int 0, .int 0, .int 0, .int 0, .int 0, .int 0, .null]))] H := hP
  have hD : va_D (va_A [(a, .inr (4, [.int 0, .int 0, .int 0, .int 0, .int 0, .int 0, .int 0, .int 0, .int 0, .null]))] s.heap.size) [(a, .inr (4, [.int 0, .int 0, .int 0, .int 0, .int 0, .int 0, .int 0, .int 0, .int 0, .null]))] := hD
  refine lv_aload_n hx hb d_X5_init_19 rfl (lv_at hl 0 rfl) ?_
  refine lv_iconst (v := 0) hx hb d_X5_init_20 (by decide) ?_
  refine mk_put (ci := 4) (k := 7) (fs := [.int 0, .int 0, .int 0, .int 0, .int 0, .int 0, .int 0, .int 0, .int 0, .null]) Z hK hP hD hS 0 rfl (by decide) mf_X5_20_4 rfl rfl rfl (Nat.le_of_ble_eq_true rfl) d_X5_init_21 (fun H locs hP hD hS => ?_)
  have hP : va_P D fm_cls [(a, .inr (4, [.int 0, .int 0, .int 0, .int 0, .int 0, .int 0, .int 0, .int 0, .int 0, .null]))] H := hP
  have hD : va_D (va_A [(a, .inr (4, [.int 0, .int 0, .int 0, .int 0, .int 0, .int 0, .int 0, .int 0, .int 0, .null]))] s.heap.size) [(a, .inr (4, [.int 0, .int 0, .int 0, .int 0, .int 0, .int 0, .int 0, .int 0, .int 0, .null]))] := hD
  refine lv_aload_n hx hb d_X5_init_24 rfl (lv_at hl 0 rfl) ?_
  refine lv_iconst (v := 0) hx hb d_X5_init_25 (by decide) ?_
  refine mk_put (ci := 4) (k := 8) (fs := [.int 0, .int 0, .int 0, .int 0, .int 0, .int 0, .int 0, .int 0, .int 0, .null]) Z hK hP hD hS 0 rfl (by decide) mf_X5_23_4 rfl rfl rfl (Nat.le_of_ble_eq_true rfl) d_X5_init_26 (fun H locs hP hD hS => ?_)
  have hP : va_P D fm_cls [(a, .inr (4, [.int 0, .int 0, .int 0, .int 0, .int 0, .int 0, .int 0, .int 0, .int 0, .null]))] H := hP
  have hD : va_D (va_A [(a, .inr (4, [.int 0, .int 0, .int 0, .int 0, .int 0, .int 0, .int 0, .int 0, .int 0, .null]))] s.heap.size) [(a, .inr (4, [.int 0, .int 0, .int 0, .int 0, .int 0, .int 0, .int 0, .int 0, .int 0, .null]))] := hD
  refine lv_aload_n hx hb d_X5_init_29 rfl (lv_at hl 0 rfl) ?_
  refine lv_iload_n hx hb d_X5_init_30 rfl (lv_at hl 1 rfl) ?_
  refine mk_putF (ci := 4) (k := 0) (fs := [.int 0, .int 0, .int 0, .int 0, .int 0, .int 0, .int 0, .int 0, .int 0, .null]) Z hK hP hD hS 0 rfl (by decide) mf_X5_26_4 rfl hname rfl rfl rfl (Nat.le_of_ble_eq_true rfl) d_X5_init_31 (fun H locs hP hD hS => ?_)
  have hP : va_P D fm_cls [(a, .inr (4, [.int x, .int 0, .int 0, .int 0, .int 0, .int 0, .int 0, .int 0, .int 0, .null]))] H := hP
  have hD : va_D (va_A [(a, .inr (4, [.int 0, .int 0, .int 0, .int 0, .int 0, .int 0, .int 0, .int 0, .int 0, .null]))] s.heap.size) [(a, .inr (4, [.int x, .int 0, .int 0, .int 0, .int 0, .int 0, .int 0, .int 0, .int 0, .null]))] := hD
  refine lv_aload_n hx hb d_X5_init_34 rfl (lv_at hl 0 rfl) ?_
  refine lv_iload_n hx hb d_X5_init_35 rfl (lv_at hl 2 rfl) ?_
  refine mk_putF (ci := 4) (k := 1) (fs := [.int x, .int 0, .int 0, .int 0, .int 0, .int 0, .int 0, .int 0, .int 0, .null]) Z hK hP hD hS 0 rfl (by decide) mf_X5_29_4 rfl hname rfl rfl rfl (Nat.le_of_ble_eq_true rfl) d_X5_init_36 (fun H locs hP hD hS => ?_)
  have hP : va_P D fm_cls [(a, .inr (4, [.int x, .int y, .int 0, .int 0, .int 0, .int 0, .int 0, .int 0, .int 0, .null]))] H := hP
  have hD : va_D (va_A [(a, .inr (4, [.int 0, .int 0, .int 0, .int 0, .int 0, .int 0, .int 0, .int 0, .int 0, .null]))] s.heap.size) [(a, .inr (4, [.int x, .int y, .int 0, .int 0, .int 0, .int 0, .int 0, .int 0, .int 0, .null]))] := hD
  refine lv_aload_n hx hb d_X5_init_39 rfl (lv_at hl 0 rfl) ?_
  refine lv_iload_n hx hb d_X5_init_40 rfl (lv_at hl 3 rfl) ?_
  refine mk_putF (ci := 4) (k := 2) (fs := [.int x, .int y, .int 0, .int 0, .int 0, .int 0, .int 0, .int 0, .int 0, .null]) Z hK hP hD hS 0 rfl (by decide) mf_X5_32_4 rfl hname rfl rfl rfl (Nat.le_of_ble_eq_true rfl) d_X5_init_41 (fun H locs hP hD hS => ?_)
  have hP : va_P D fm_cls [(a, .inr (4, [.int x, .int y, .int z, .int 0, .int 0, .int 0, .int 0, .int 0, .int 0, .null]))] H := hP
  have hD : va_D (va_A [(a, .inr (4, [.int 0, .int 0, .int 0, .int 0, .int 0, .int 0, .int 0, .int 0, .int 0, .null]))] s.heap.size) [(a, .inr (4, [.int x, .int y, .int z, .int 0, .int 0, .int 0, .int 0, .int 0, .int 0, .null]))] := hD
  refine lv_aload_n hx hb d_X5_init_44 rfl (lv_at hl 0 rfl) ?_
  refine lv_iload hx hb d_X5_init_45 (lv_at hl 4 rfl) ?_
  refine mk_put (ci := 4) (k := 3) (fs := [.int x, .int y, .int z, .int 0, .int 0, .int 0, .int 0, .int 0, .int 0, .null]) Z hK hP hD hS 0 rfl (by decide) mf_X5_35_4 rfl rfl rfl (Nat.le_of_ble_eq_true rfl) d_X5_init_47 (fun H locs hP hD hS => ?_)
  have hP : va_P D fm_cls [(a, .inr (4, [.int x, .int y, .int z, .int w, .int 0, .int 0, .int 0, .int 0, .int 0, .null]))] H := hP
  have hD : va_D (va_A [(a, .inr (4, [.int 0, .int 0, .int 0, .int 0, .int 0, .int 0, .int 0, .int 0, .int 0, .null]))] s.heap.size) [(a, .inr (4, [.int x, .int y, .int z, .int w, .int 0, .int 0, .int 0, .int 0, .int 0, .null]))] := hD
  refine lv_aload_n hx hb d_X5_init_50 rfl (lv_at hl 0 rfl) ?_
  refine lv_aload hx hb d_X5_init_51 (lv_at hl 5 rfl) ?_
  refine mk_putF (ci := 4) (k := 9) (fs := [.int x, .int y, .int z, .int w, .int 0, .int 0, .int 0, .int 0, .int 0, .null]) Z hK hP hD hS 0 rfl (by decide) mf_X5_38_4 rfl hname rfl rfl rfl (Nat.le_of_ble_eq_true rfl) d_X5_init_53 (fun H locs hP hD hS => ?_)
  have hP : va_P D fm_cls [(a, .inr (4, [.int x, .int y, .int z, .int w, .int 0, .int 0, .int 0, .int 0, .int 0, .ref b]))] H := hP
  have hD : va_D (va_A [(a, .inr (4, [.int 0, .int 0, .int 0, .int 0, .int 0, .int 0, .int 0, .int 0, .int 0, .null]))] s.heap.size) [(a, .inr (4, [.int x, .int y, .int z, .int w, .int 0, .int 0, .int 0, .int 0, .int 0, .ref b]))] := hD
  refine mk_ret (w0 := [(a, .inr (4, [.int 0, .int 0, .int 0, .int 0, .int 0, .int 0, .int 0, .int 0, .int 0, .null]))]) (post := (fun u : Nat → Nat => [(a, .inr (4, [.int x, .int y, .int z, .int w, .int 0, .int 0, .int 0, .int 0, .int 0, .ref b]))])) Z hr hlk hP hD hS (fun i => ([] : List Nat).getD i 0) rfl ?_ ?_ d_X5_init_56
  · show _ ≤ 0; omega
  · show _ ≤ 0; first | decide +kernel | omega
theorem k_X5_init_7 {l : Launch} {D : va_G} {ids : Nat → ClassId} {a b : Nat} {x y z w : Int32} (sz : Nat) : mk_M l y_X5_init prog_7_method_1_code 6 1 0 0 D ids [(a, .inr (7, [.int 0, .int 0, .int 0, .int 0, .int 0, .int 0, .int 0, .int 0, .int 0, .null]))] [.ref a, .int x, .int y, .int z, .int w, .ref b] sz (fun u : Nat → Nat => [(a, .inr (7, [.int x, .int y, .int z, .int w, .int 0, .int 0, .int 0, .int 0, .int 0, .ref b]))]) := by
  unfold mk_M
  refine mk_open rfl (Nat.le_of_ble_eq_true rfl) (fun p e s m args below meth c ls Z hr hlk hname hK hP hD hS hA hl hsz => ?_)
  subst hsz
  obtain ⟨hx, hb, hml, hown, hts⟩ := id Z
  have hl : lv_has ls 6 [(0, .ref a), (1, .int x), (2, .int y), (3, .int z), (4, .int w), (5, .ref b)] := hl
  refine lv_aload_n hx hb d_X5_init_0 rfl (lv_at hl 0 rfl) ?_
  refine mk_obj Z hl.1 kw_336 kw_27 kw_28 (by decide) d_X5_init_1 ?_
  refine lv_aload_n hx hb d_X5_init_4 rfl (lv_at hl 0 rfl) ?_
  refine lv_iconst (v := 0) hx hb d_X5_init_5 (by decide) ?_
  refine mk_put (ci := 7) (k := 4) (fs := [.int 0, .int 0, .int 0, .int 0, .int 0, .int 0, .int 0, .int 0, .int 0, .null]) Z hK hP hD hS 0 rfl (by decide) mf_X5_7_7 rfl rfl rfl (Nat.le_of_ble_eq_true rfl) d_X5_init_6 (fun H locs hP hD hS => ?_)
  have hP : va_P D fm_cls [(a, .inr (7, [.int 0, .int 0, .int 0, .int 0, .int 0, .int 0, .int 0, .int 0, .int 0, .null]))] H := hP
  have hD : va_D (va_A [(a, .inr (7, [.int 0, .int 0, .int 0, .int 0, .int 0, .int 0, .int 0, .int 0, .int 0, .null]))] s.heap.size) [(a, .inr (7, [.int 0, .int 0, .int 0, .int 0, .int 0, .int 0, .int 0, .int 0, .int 0, .null]))] := hD
  refine lv_aload_n hx hb d_X5_init_9 rfl (lv_at hl 0 rfl) ?_
  refine lv_iconst (v := 0) hx hb d_X5_init_10 (by decide) ?_
  refine mk_put (ci := 7) (k := 5) (fs := [.int 0, .int 0, .int 0, .int 0, .int 0, .int 0, .int 0, .int 0, .int 0, .null]) Z hK hP hD hS 0 rfl (by decide) mf_X5_13_7 rfl rfl rfl (Nat.le_of_ble_eq_true rfl) d_X5_init_11 (fun H locs hP hD hS => ?_)
  have hP : va_P D fm_cls [(a, .inr (7, [.int 0, .int 0, .int 0, .int 0, .int 0, .int 0, .int 0, .int 0, .int 0, .null]))] H := hP
  have hD : va_D (va_A [(a, .inr (7, [.int 0, .int 0, .int 0, .int 0, .int 0, .int 0, .int 0, .int 0, .int 0, .null]))] s.heap.size) [(a, .inr (7, [.int 0, .int 0, .int 0, .int 0, .int 0, .int 0, .int 0, .int 0, .int 0, .null]))] := hD
  refine lv_aload_n hx hb d_X5_init_14 rfl (lv_at hl 0 rfl) ?_
  refine lv_iconst (v := 0) hx hb d_X5_init_15 (by decide) ?_
  refine mk_put (ci := 7) (k := 6) (fs := [.int 0, .int 0, .int 0, .int 0, .int 0, .int 0, .int 0, .int 0, .int 0, .null]) Z hK hP hD hS 0 rfl (by decide) mf_X5_17_7 rfl rfl rfl (Nat.le_of_ble_eq_true rfl) d_X5_init_16 (fun H locs hP hD hS => ?_)
  have hP : va_P D fm_cls [(a, .inr (7, [.int 0, .int 0, .int 0, .int 0, .int 0, .int 0, .int 0, .int 0, .int 0, .null]))] H := hP
  have hD : va_D (va_A [(a, .inr (7, [.int 0, .int 0, .int 0, .int 0, .int 0, .int 0, .int 0, .int 0, .int 0, .null]))] s.heap.size) [(a, .inr (7, [.int 0, .int 0, .int 0, .int 0, .int 0, .int 0, .int 0, .int 0, .int 0, .null]))] := hD
  refine lv_aload_n hx hb d_X5_init_19 rfl (lv_at hl 0 rfl) ?_
  refine lv_iconst (v := 0) hx hb d_X5_init_20 (by decide) ?_
  refine mk_put (ci := 7) (k := 7) (fs := [.int 0, .int 0, .int 0, .int 0, .int 0, .int 0, .int 0, .int 0, .int 0, .null]) Z hK hP hD hS 0 rfl (by decide) mf_X5_20_7 rfl rfl rfl (Nat.le_of_ble_eq_true rfl) d_X5_init_21 (fun H locs hP hD hS => ?_)
  have hP : va_P D fm_cls [(a, .inr (7, [.int 0, .int 0, .int 0, .int 0, .int 0, .int 0, .int 0, .int 0, .int 0, .null]))] H := hP
  have hD : va_D (va_A [(a, .inr (7, [.int 0, .int 0, .int 0, .int 0, .int 0, .int 0, .int 0, .int 0, .int 0, .null]))] s.heap.size) [(a, .inr (7, [.int 0, .int 0, .int 0, .int 0, .int 0, .int 0, .int 0, .int 0, .int 0, .null]))] := hD
  refine lv_aload_n hx hb d_X5_init_24 rfl (lv_at hl 0 rfl) ?_
  refine lv_iconst (v := 0) hx hb d_X5_init_25 (by decide) ?_
  refine mk_put (ci := 7) (k := 8) (fs := [.int 0, .int 0, .int 0, .int 0, .int 0, .int 0, .int 0, .int 0, .int 0, .null]) Z hK hP hD hS 0 rfl (by decide) mf_X5_23_7 rfl rfl rfl (Nat.le_of_ble_eq_true rfl) d_X5_init_26 (fun H locs hP hD hS => ?_)
  have hP : va_P D fm_cls [(a, .inr (7, [.int 0, .int 0, .int 0, .int 0, .int 0, .int 0, .int 0, .int 0, .int 0, .null]))] H := hP
  have hD : va_D (va_A [(a, .inr (7, [.int 0, .int 0, .int 0, .int 0, .int 0, .int 0, .int 0, .int 0, .int 0, .null]))] s.heap.size) [(a, .inr (7, [.int 0, .int 0, .int 0, .int 0, .int 0, .int 0, .int 0, .int 0, .int 0, .null]))] := hD
  refine lv_aload_n hx hb d_X5_init_29 rfl (lv_at hl 0 rfl) ?_
  refine lv_iload_n hx hb d_X5_init_30 rfl (lv_at hl 1 rfl) ?_
  refine mk_putF (ci := 7) (k := 0) (fs := [.int 0, .int 0, .int 0, .int 0, .int 0, .int 0, .int 0, .int 0, .int 0, .null]) Z hK hP hD hS 0 rfl (by decide) mf_X5_26_7 rfl hname rfl rfl rfl (Nat.le_of_ble_eq_true rfl) d_X5_init_31 (fun H locs hP hD hS => ?_)
  have hP : va_P D fm_cls [(a, .inr (7, [.int x, .int 0, .int 0, .int 0, .int 0, .int 0, .int 0, .int 0, .int 0, .null]))] H := hP
  have hD : va_D (va_A [(a, .inr (7, [.int 0, .int 0, .int 0, .int 0, .int 0, .int 0, .int 0, .int 0, .int 0, .null]))] s.heap.size) [(a, .inr (7, [.int x, .int 0, .int 0, .int 0, .int 0, .int 0, .int 0, .int 0, .int 0, .null]))] := hD
  refine lv_aload_n hx hb d_X5_init_34 rfl (lv_at hl 0 rfl) ?_
  refine lv_iload_n hx hb d_X5_init_35 rfl (lv_at hl 2 rfl) ?_
  refine mk_putF (ci := 7) (k := 1) (fs := [.int x, .int 0, .int 0, .int 0, .int 0, .int 0, .int 0, .int 0, .int 0, .null]) Z hK hP hD hS 0 rfl (by decide) mf_X5_29_7 rfl hname rfl rfl rfl (Nat.le_of_ble_eq_true rfl) d_X5_init_36 (fun H locs hP hD hS => ?_)
  have hP : va_P D fm_cls [(a, .inr (7, [.int x, .int y, .int 0, .int 0, .int 0, .int 0, .int 0, .int 0, .int 0, .null]))] H := hP
  have hD : va_D (va_A [(a, .inr (7, [.int 0, .int 0, .int 0, .int 0, .int 0, .int 0, .int 0, .int 0, .int 0, .null]))] s.heap.size) [(a, .inr (7, [.int x, .int y, .int 0, .int 0, .int 0, .int 0, .int 0, .int 0, .int 0, .null]))] := hD
  refine lv_aload_n hx hb d_X5_init_39 rfl (lv_at hl 0 rfl) ?_
  refine lv_iload_n hx hb d_X5_init_40 rfl (lv_at hl 3 rfl) ?_
  refine mk_putF (ci := 7) (k := 2) (fs := [.int x, .int y, .int 0, .int 0, .int 0, .int 0, .int 0, .int 0, .int 0, .null]) Z hK hP hD hS 0 rfl (by decide) mf_X5_32_7 rfl hname rfl rfl rfl (Nat.le_of_ble_eq_true rfl) d_X5_init_41 (fun H locs hP hD hS => ?_)
  have hP : va_P D fm_cls [(a, .inr (7, [.int x, .int y, .int z, .int 0, .int 0, .int 0, .int 0, .int 0, .int 0, .null]))] H := hP
  have hD : va_D (va_A [(a, .inr (7, [.int 0, .int 0, .int 0, .int 0, .int 0, .int 0, .int 0, .int 0, .int 0, .null]))] s.heap.size) [(a, .inr (7, [.int x, .int y, .int z, .int 0, .int 0, .int 0, .int 0, .int 0, .int 0, .null]))] := hD
  refine lv_aload_n hx hb d_X5_init_44 rfl (lv_at hl 0 rfl) ?_
  refine lv_iload hx hb d_X5_init_45 (lv_at hl 4 rfl) ?_
  refine mk_put (ci := 7) (k := 3) (fs := [.int x, .int y, .int z, .int 0, .int 0, .int 0, .int 0, .int 0, .int 0, .null]) Z hK hP hD hS 0 rfl (by decide) mf_X5_35_7 rfl rfl rfl (Nat.le_of_ble_eq_true rfl) d_X5_init_47 (fun H locs hP hD hS => ?_)
  have hP : va_P D fm_cls [(a, .inr (7, [.int x, .int y, .int z, .int w, .int 0, .int 0, .int 0, .int 0, .int 0, .null]))] H := hP
  have hD : va_D (va_A [(a, .inr (7, [.int 0, .int 0, .int 0, .int 0, .int 0, .int 0, .int 0, .int 0, .int 0, .null]))] s.heap.size) [(a, .inr (7, [.int x, .int y, .int z, .int w, .int 0, .int 0, .int 0, .int 0, .int 0, .null]))] := hD
  refine lv_aload_n hx hb d_X5_init_50 rfl (lv_at hl 0 rfl) ?_
  refine lv_aload hx hb d_X5_init_51 (lv_at hl 5 rfl) ?_
  refine mk_putF (ci := 7) (k := 9) (fs := [.int x, .int y, .int z, .int w, .int 0, .int 0, .int 0, .int 0, .int 0, .null]) Z hK hP hD hS 0 rfl (by decide) mf_X5_38_7 rfl hname rfl rfl rfl (Nat.le_of_ble_eq_true rfl) d_X5_init_53 (fun H locs hP hD hS => ?_)
  have hP : va_P D fm_cls [(a, .inr (7, [.int x, .int y, .int z, .int w, .int 0, .int 0, .int 0, .int 0, .int 0, .ref b]))] H := hP
  have hD : va_D (va_A [(a, .inr (7, [.int 0, .int 0, .int 0, .int 0, .int 0, .int 0, .int 0, .int 0, .int 0, .null]))] s.heap.size) [(a, .inr (7, [.int x, .int y, .int z, .int w, .int 0, .int 0, .int 0, .int 0, .int 0, .ref b]))] := hD
  refine mk_ret (w0 := [(a, .inr (7, [.int 0, .int 0, .int 0, .int 0, .int 0, .int 0, .int 0, .int 0, .int 0, .null]))]) (post := (fun u : Nat → Nat => [(a, .inr (7, [.int x, .int y, .int z, .int w, .int 0, .int 0, .int 0, .int 0, .int 0, .ref b]))])) Z hr hlk hP hD hS (fun i => ([] : List Nat).getD i 0) rfl ?_ ?_ d_X5_init_56
  · show _ ≤ 0; omega
  · show _ ≤ 0; first | decide +kernel | omega
theorem k_X5_init_2 {l : Launch} {D : va_G} {ids : Nat → ClassId} {a b : Nat} {x y z w : Int32} (sz : Nat) : mk_M l y_X5_init prog_7_method_1_code 6 1 0 0 D ids [(a, .inr (2, [.int 0, .int 0, .int 0, .int 0, .int 0, .int 0, .int 0, .int 0, .int 0, .null]))] [.ref a, .int x, .int y, .int z, .int w, .ref b] sz (fun u : Nat → Nat => [(a, .inr (2, [.int x, .int y, .int z, .int w, .int 0, .int 0, .int 0, .int 0, .int 0, .ref b]))]) := by
  unfold mk_M
  refine mk_open rfl (Nat.le_of_ble_eq_true rfl) (fun p e s m args below meth c ls Z hr hlk hname hK hP hD hS hA hl hsz => ?_)
  subst hsz
  obtain ⟨hx, hb, hml, hown, hts⟩ := id Z
  have hl : lv_has ls 6 [(0, .ref a), (1, .int x), (2, .int y), (3, .int z), (4, .int w), (5, .ref b)] := hl
  refine lv_aload_n hx hb d_X5_init_0 rfl (lv_at hl 0 rfl) ?_
  refine mk_obj Z hl.1 kw_336 kw_27 kw_28 (by decide) d_X5_init_1 ?_
  refine lv_aload_n hx hb d_X5_init_4 rfl (lv_at hl 0 rfl) ?_
  refine lv_iconst (v := 0) hx hb d_X5_init_5 (by decide) ?_
  refine mk_put (ci := 2) (k := 4) (fs := [.int 0, .int 0, .int 0, .int 0, .int 0, .int 0, .int 0, .int 0, .int 0, .null]) Z hK hP hD hS 0 rfl (by decide) mf_X5_7_2 rfl rfl rfl (Nat.le_of_ble_eq_true rfl) d_X5_init_6 (fun H locs hP hD hS => ?_)
  have hP : va_P D fm_cls [(a, .inr (2, [.int 0, .int 0, .int 0, .int 0, .int 0, .int 0, .int 0, .int 0, .int 0, .null]))] H := hP
  have hD : va_D (va_A [(a, .inr (2, [.int 0, .int 0, .int 0, .int 0, .int 0, .int 0, .int 0, .int 0, .int 0, .null]))] s.heap.size) [(a, .inr (2, [.int 0, .int 0, .int 0, .int 0, .int 0, .int 0, .int 0, .int 0, .int 0, .null]))] := hD
  refine lv_aload_n hx hb d_X5_init_9 rfl (lv_at hl 0 rfl) ?_
  refine lv_iconst (v := 0) hx hb d_X5_init_10 (by decide) ?_
  refine mk_put (ci := 2) (k := 5) (fs := [.int 0, .int 0, .int 0, .int 0, .int 0, .int 0, .int 0, .int 0, .int 0, .null]) Z hK hP hD hS 0 rfl (by decide) mf_X5_13_2 rfl rfl rfl (Nat.le_of_ble_eq_true rfl) d_X5_init_11 (fun H locs hP hD hS => ?_)
  have hP : va_P D fm_cls [(a, .inr (2, [.int 0, .int 0, .int 0, .int 0, .int 0, .int 0, .int 0, .int 0, .int 0, .null]))] H := hP
  have hD : va_D (va_A [(a, .inr (2, [.int 0, .int 0, .int 0, .int 0, .int 0, .int 0, .int 0, .int 0, .int 0, .null]))] s.heap.size) [(a, .inr (2, [.int 0, .int 0, .int 0, .int 0, .int 0, .int 0, .int 0, .int 0, .int 0, .null]))] := hD
  refine lv_aload_n hx hb d_X5_init_14 rfl (lv_at hl 0 rfl) ?_
  refine lv_iconst (v := 0) hx hb d_X5_init_15 (by decide) ?_
  refine mk_put (ci := 2) (k := 6) (fs := [.int 0, .int 0, .int 0, .int 0, .int 0, .int 0, .int 0, .int 0, .int 0, .null]) Z hK hP hD hS 0 rfl (by decide) mf_X5_17_2 rfl rfl rfl (Nat.le_of_ble_eq_true rfl) d_X5_init_16 (fun H locs hP hD hS => ?_)
  have hP : va_P D fm_cls [(a, .inr (2, [.int 0, .int 0, .int 0, .int 0, .int 0, .int 0, .int 0, .int 0, .int 0, .null]))] H := hP
  have hD : va_D (va_A [(a, .inr (2, [.int 0, .int 0, .int 0, .int 0, .int 0, .int 0, .int 0, .int 0, .int 0, .null]))] s.heap.size) [(a, .inr (2, [.int 0, .int 0, .int 0, .int 0, .int 0, .int 0, .int 0, .int 0, .int 0, .null]))] := hD
  refine lv_aload_n hx hb d_X5_init_19 rfl (lv_at hl 0 rfl) ?_
  refine lv_iconst (v := 0) hx hb d_X5_init_20 (by decide) ?_
  refine mk_put (ci := 2) (k := 7) (fs := [.int 0, .int 0, .int 0, .int 0, .int 0, .int 0, .int 0, .int 0, .int 0, .null]) Z hK hP hD hS 0 rfl (by decide) mf_X5_20_2 rfl rfl rfl (Nat.le_of_ble_eq_true rfl) d_X5_init_21 (fun H locs hP hD hS => ?_)
  have hP : va_P D fm_cls [(a, .inr (2, [.int 0, .int 0, .int 0, .int 0, .int 0, .int 0, .int 0, .int 0, .int 0, .null]))] H := hP
  have hD : va_D (va_A [(a, .inr (2, [.int 0, .int 0, .int 0, .int 0, .int 0, .int 0, .int 0, .int 0, .int 0, .null]))] s.heap.size) [(a, .inr (2, [.int 0, .int 0, .int 0, .int 0, .int 0, .int 0, .int 0, .int 0, .int 0, .null]))] := hD
  refine lv_aload_n hx hb d_X5_init_24 rfl (lv_at hl 0 rfl) ?_
  refine lv_iconst (v := 0) hx hb d_X5_init_25 (by decide) ?_
  refine mk_put (ci := 2) (k := 8) (fs := [.int 0, .int 0, .int 0, .int 0, .int 0, .int 0, .int 0, .int 0, .int 0, .null]) Z hK hP hD hS 0 rfl (by decide) mf_X5_23_2 rfl rfl rfl (Nat.le_of_ble_eq_true rfl) d_X5_init_26 (fun H locs hP hD hS => ?_)
  have hP : va_P D fm_cls [(a, .inr (2, [.int 0, .int 0, .int 0, .int 0, .int 0, .int 0, .int 0, .int 0, .int 0, .null]))] H := hP
  have hD : va_D (va_A [(a, .inr (2, [.int 0, .int 0, .int 0, .int 0, .int 0, .int 0, .int 0, .int 0, .int 0, .null]))] s.heap.size) [(a, .inr (2, [.int 0, .int 0, .int 0, .int 0, .int 0, .int 0, .int 0, .int 0, .int 0, .null]))] := hD
  refine lv_aload_n hx hb d_X5_init_29 rfl (lv_at hl 0 rfl) ?_
  refine lv_iload_n hx hb d_X5_init_30 rfl (lv_at hl 1 rfl) ?_
  refine mk_putF (ci := 2) (k := 0) (fs := [.int 0, .int 0, .int 0, .int 0, .int 0, .int 0, .int 0, .int 0, .int 0, .null]) Z hK hP hD hS 0 rfl (by decide) mf_X5_26_2 rfl hname rfl rfl rfl (Nat.le_of_ble_eq_true rfl) d_X5_init_31 (fun H locs hP hD hS => ?_)
  have hP : va_P D fm_cls [(a, .inr (2, [.int x, .int 0, .int 0, .int 0, .int 0, .int 0, .int 0, .int 0, .int 0, .null]))] H := hP
  have hD : va_D (va_A [(a, .inr (2, [.int 0, .int 0, .int 0, .int 0, .int 0, .int 0, .int 0, .int 0, .int 0, .null]))] s.heap.size) [(a, .inr (2, [.int x, .int 0, .int 0, .int 0, .int 0, .int 0, .int 0, .int 0, .int 0, .null]))] := hD
  refine lv_aload_n hx hb d_X5_init_34 rfl (lv_at hl 0 rfl) ?_
  refine lv_iload_n hx hb d_X5_init_35 rfl (lv_at hl 2 rfl) ?_
  refine mk_putF (ci := 2) (k := 1) (fs := [.int x, .int 0, .int 0, .int 0, .int 0, .int 0, .int 0, .int 0, .int 0, .null]) Z hK hP hD hS 0 rfl (by decide) mf_X5_29_2 rfl hname rfl rfl rfl (Nat.le_of_ble_eq_true rfl) d_X5_init_36 (fun H locs hP hD hS => ?_)
  have hP : va_P D fm_cls [(a, .inr (2, [.int x, .int y, .int 0, .int 0, .int 0, .int 0, .int 0, .int 0, .int 0, .null]))] H := hP
  have hD : va_D (va_A [(a, .inr (2, [.int 0, .int 0, .int 0, .int 0, .int 0, .int 0, .int 0, .int 0, .int 0, .null]))] s.heap.size) [(a, .inr (2, [.int x, .int y, .int 0, .int 0, .int 0, .int 0, .int 0, .int 0, .int 0, .null]))] := hD
  refine lv_aload_n hx hb d_X5_init_39 rfl (lv_at hl 0 rfl) ?_
  refine lv_iload_n hx hb d_X5_init_40 rfl (lv_at hl 3 rfl) ?_
  refine mk_putF (ci := 2) (k := 2) (fs := [.int x, .int y, .int 0, .int 0, .int 0, .int 0, .int 0, .int 0, .int 0, .null]) Z hK hP hD hS 0 rfl (by decide) mf_X5_32_2 rfl hname rfl rfl rfl (Nat.le_of_ble_eq_true rfl) d_X5_init_41 (fun H locs hP hD hS => ?_)
  have hP : va_P D fm_cls [(a, .inr (2, [.int x, .int y, .int z, .int 0, .int 0, .int 0, .int 0, .int 0, .int 0, .null]))] H := hP
  have hD : va_D (va_A [(a, .inr (2, [.int 0, .int 0, .int 0, .int 0, .int 0, .int 0, .int 0, .int 0, .int 0, .null]))] s.heap.size) [(a, .inr (2, [.int x, .int y, .int z, .int 0, .int 0, .int 0, .int 0, .int 0, .int 0, .null]))] := hD
  refine lv_aload_n hx hb d_X5_init_44 rfl (lv_at hl 0 rfl) ?_
  refine lv_iload hx hb d_X5_init_45 (lv_at hl 4 rfl) ?_
  refine mk_put (ci := 2) (k := 3) (fs := [.int x, .int y, .int z, .int 0, .int 0, .int 0, .int 0, .int 0, .int 0, .null]) Z hK hP hD hS 0 rfl (by decide) mf_X5_35_2 rfl rfl rfl (Nat.le_of_ble_eq_true rfl) d_X5_init_47 (fun H locs hP hD hS => ?_)
  have hP : va_P D fm_cls [(a, .inr (2, [.int x, .int y, .int z, .int w, .int 0, .int 0, .int 0, .int 0, .int 0, .null]))] H := hP
  have hD : va_D (va_A [(a, .inr (2, [.int 0, .int 0, .int 0, .int 0, .int 0, .int 0, .int 0, .int 0, .int 0, .null]))] s.heap.size) [(a, .inr (2, [.int x, .int y, .int z, .int w, .int 0, .int 0, .int 0, .int 0, .int 0, .null]))] := hD
  refine lv_aload_n hx hb d_X5_init_50 rfl (lv_at hl 0 rfl) ?_
  refine lv_aload hx hb d_X5_init_51 (lv_at hl 5 rfl) ?_
  refine mk_putF (ci := 2) (k := 9) (fs := [.int x, .int y, .int z, .int w, .int 0, .int 0, .int 0, .int 0, .int 0, .null]) Z hK hP hD hS 0 rfl (by decide) mf_X5_38_2 rfl hname rfl rfl rfl (Nat.le_of_ble_eq_true rfl) d_X5_init_53 (fun H locs hP hD hS => ?_)
  have hP : va_P D fm_cls [(a, .inr (2, [.int x, .int y, .int z, .int w, .int 0, .int 0, .int 0, .int 0, .int 0, .ref b]))] H := hP
  have hD : va_D (va_A [(a, .inr (2, [.int 0, .int 0, .int 0, .int 0, .int 0, .int 0, .int 0, .int 0, .int 0, .null]))] s.heap.size) [(a, .inr (2, [.int x, .int y, .int z, .int w, .int 0, .int 0, .int 0, .int 0, .int 0, .ref b]))] := hD
  refine mk_ret (w0 := [(a, .inr (2, [.int 0, .int 0, .int 0, .int 0, .int 0, .int 0, .int 0, .int 0, .int 0, .null]))]) (post := (fun u : Nat → Nat => [(a, .inr (2, [.int x, .int y, .int z, .int w, .int 0, .int 0, .int 0, .int 0, .int 0, .ref b]))])) Z hr hlk hP hD hS (fun i => ([] : List Nat).getD i 0) rfl ?_ ?_ d_X5_init_56
  · show _ ≤ 0; omega
  · show _ ≤ 0; first | decide +kernel | omega
theorem k_X5_init_0 {l : Launch} {D : va_G} {ids : Nat → ClassId} {a b : Nat} {x y z w : Int32} (sz : Nat) : mk_M l y_X5_init prog_7_method_1_code 6 1 0 0 D ids [(a, .inr (0, [.int 0, .int 0, .int 0, .int 0, .int 0, .int 0, .int 0, .int 0, .int 0, .null]))] [.ref a, .int x, .int y, .int z, .int w, .ref b] sz (fun u : Nat → Nat => [(a, .inr (0, [.int x, .int y, .int z, .int w, .int 0, .int 0, .int 0, .int 0, .int 0, .ref b]))]) := by
  unfold mk_M
  refine mk_open rfl (Nat.le_of_ble_eq_true rfl) (fun p e s m args below meth c ls Z hr hlk hname hK hP hD hS hA hl hsz => ?_)
  subst hsz
  obtain ⟨hx, hb, hml, hown, hts⟩ := id Z
  have hl : lv_has ls 6 [(0, .ref a), (1, .int x), (2, .int y), (3, .int z), (4, .int w), (5, .ref b)] := hl
  refine lv_aload_n hx hb d_X5_init_0 rfl (lv_at hl 0 rfl) ?_
  refine mk_obj Z hl.1 kw_336 kw_27 kw_28 (by decide) d_X5_init_1 ?_
  refine lv_aload_n hx hb d_X5_init_4 rfl (lv_at hl 0 rfl) ?_
  refine lv_iconst (v := 0) hx hb d_X5_init_5 (by decide) ?_
  refine mk_put (ci := 0) (k := 4) (fs := [.int 0, .int 0, .int 0, .int 0, .int 0, .int 0, .int 0, .int 0, .int 0, .null]) Z hK hP hD hS 0 rfl (by decide) mf_X5_7_0 rfl rfl rfl (Nat.le_of_ble_eq_true rfl) d_X5_init_6 (fun H locs hP hD hS => ?_)
  have hP : va_P D fm_cls [(a, .inr (0, [.int 0, .int 0, .int 0, .int 0, .int 0, .int 0, .int 0, .int 0, .int 0, .null]))] H := hP
  have hD : va_D (va_A [(a, .inr (0, [.int 0, .int 0, .int 0, .int 0, .int 0, .int 0, .int 0, .int 0, .int 0, .null]))] s.heap.size) [(a, .inr (0, [.int 0, .int 0, .int 0, .int 0, .int 0, .int 0, .int 0, .int 0, .int 0, .null]))] := hD
  refine lv_aload_n hx hb d_X5_init_9 rfl (lv_at hl 0 rfl) ?_
  refine lv_iconst (v := 0) hx hb d_X5_init_10 (by decide) ?_
  refine mk_put (ci := 0) (k := 5) (fs := [.int 0, .int 0, .int 0, .int 0, .int 0, .int 0, .int 0, .int 0, .int 0, .null]) Z hK hP hD hS 0 rfl (by decide) mf_X5_13_0 rfl rfl rfl (Nat.le_of_ble_eq_true rfl) d_X5_init_11 (fun H locs hP hD hS => ?_)
  have hP : va_P D fm_cls [(a, .inr (0, [.int 0, .int 0, .int 0, .int 0, .int 0, .int 0, .int 0, .int 0, .int 0, .null]))] H := hP
  have hD : va_D (va_A [(a, .inr (0, [.int 0, .int 0, .int 0, .int 0, .int 0, .int 0, .int 0, .int 0, .int 0, .null]))] s.heap.size) [(a, .inr (0, [.int 0, .int 0, .int 0, .int 0, .int 0, .int 0, .int 0, .int 0, .int 0, .null]))] := hD
  refine lv_aload_n hx hb d_X5_init_14 rfl (lv_at hl 0 rfl) ?_
  refine lv_iconst (v := 0) hx hb d_X5_init_15 (by decide) ?_
  refine mk_put (ci := 0) (k := 6) (fs := [.int 0, .int 0, .int 0, .int 0, .int 0, .int 0, .int 0, .int 0, .int 0, .null]) Z hK hP hD hS 0 rfl (by decide) mf_X5_17_0 rfl rfl rfl (Nat.le_of_ble_eq_true rfl) d_X5_init_16 (fun H locs hP hD hS => ?_)
  have hP : va_P D fm_cls [(a, .inr (0, [.int 0, .int 0, .int 0, .int 0, .int 0, .int 0, .int 0, .int 0, .int 0, .null]))] H := hP
  have hD : va_D (va_A [(a, .inr (0, [.int 0, .int 0, .int 0, .int 0, .int 0, .int 0, .int 0, .int 0, .int 0, .null]))] s.heap.size) [(a, .inr (0, [.int 0, .int 0, .int 0, .int 0, .int 0, .int 0, .int 0, .int 0, .int 0, .null]))] := hD
  refine lv_aload_n hx hb d_X5_init_19 rfl (lv_at hl 0 rfl) ?_
  refine lv_iconst (v := 0) hx hb d_X5_init_20 (by decide) ?_
  refine mk_put (ci := 0) (k := 7) (fs := [.int 0, .int 0, .int 0, .int 0, .int 0, .int 0, .int 0, .int 0, .int 0, .null]) Z hK hP hD hS 0 rfl (by decide) mf_X5_20_0 rfl rfl rfl (Nat.le_of_ble_eq_true rfl) d_X5_init_21 (fun H locs hP hD hS => ?_)
  have hP : va_P D fm_cls [(a, .inr (0, [.int 0, .int 0, .int 0, .int 0, .int 0, .int 0, .int 0, .int 0, .int 0, .null]))] H := hP
  have hD : va_D (va_A [(a, .inr (0, [.int 0, .int 0, .int 0, .int 0, .int 0, .int 0, .int 0, .int 0, .int 0, .null]))] s.heap.size) [(a, .inr (0, [.int 0, .int 0, .int 0, .int 0, .int 0, .int 0, .int 0, .int 0, .int 0, .null]))] := hD
  refine lv_aload_n hx hb d_X5_init_24 rfl (lv_at hl 0 rfl) ?_
  refine lv_iconst (v := 0) hx hb d_X5_init_25 (by decide) ?_
  refine mk_put (ci := 0) (k := 8) (fs := [.int 0, .int 0, .int 0, .int 0, .int 0, .int 0, .int 0, .int 0, .int 0, .null]) Z hK hP hD hS 0 rfl (by decide) mf_X5_23_0 rfl rfl rfl (Nat.le_of_ble_eq_true rfl) d_X5_init_26 (fun H locs hP hD hS => ?_)
  have hP : va_P D fm_cls [(a, .inr (0, [.int 0, .int 0, .int 0, .int 0, .int 0, .int 0, .int 0, .int 0, .int 0, .null]))] H := hP
  have hD : va_D (va_A [(a, .inr (0, [.int 0, .int 0, .int 0, .int 0, .int 0, .int 0, .int 0, .int 0, .int 0, .null]))] s.heap.size) [(a, .inr (0, [.int 0, .int 0, .int 0, .int 0, .int 0, .int 0, .int 0, .int 0, .int 0, .null]))] := hD
  refine lv_aload_n hx hb d_X5_init_29 rfl (lv_at hl 0 rfl) ?_
  refine lv_iload_n hx hb d_X5_init_30 rfl (lv_at hl 1 rfl) ?_
  refine mk_putF (ci := 0) (k := 0) (fs := [.int 0, .int 0, .int 0, .int 0, .int 0, .int 0, .int 0, .int 0, .int 0, .null]) Z hK hP hD hS 0 rfl (by decide) mf_X5_26_0 rfl hname rfl rfl rfl (Nat.le_of_ble_eq_true rfl) d_X5_init_31 (fun H locs hP hD hS => ?_)
  have hP : va_P D fm_cls [(a, .inr (0, [.int x, .int 0, .int 0, .int 0, .int 0, .int 0, .int 0, .int 0, .int 0, .null]))] H := hP
  have hD : va_D (va_A [(a, .inr (0, [.int 0, .int 0, .int 0, .int 0, .int 0, .int 0, .int 0, .int 0, .int 0, .null]))] s.heap.size) [(a, .inr (0, [.int x, .int 0, .int 0, .int 0, .int 0, .int 0, .int 0, .int 0, .int 0, .null]))] := hD
  refine lv_aload_n hx hb d_X5_init_34 rfl (lv_at hl 0 rfl) ?_
  refine lv_iload_n hx hb d_X5_init_35 rfl (lv_at hl 2 rfl) ?_
  refine mk_putF (ci := 0) (k := 1) (fs := [.int x, .int 0, .int 0, .int 0, .int 0, .int 0, .int 0, .int 0, .int 0, .null]) Z hK hP hD hS 0 rfl (by decide) mf_X5_29_0 rfl hname rfl rfl rfl (Nat.le_of_ble_eq_true rfl) d_X5_init_36 (fun H locs hP hD hS => ?_)
  have hP : va_P D fm_cls [(a, .inr (0, [.int x, .int y, .int 0, .int 0, .int 0, .int 0, .int 0, .int 0, .int 0, .null]))] H := hP
  have hD : va_D (va_A [(a, .inr (0, [.int 0, .int 0, .int 0, .int 0, .int 0, .int 0, .int 0, .int 0, .int 0, .null]))] s.heap.size) [(a, .inr (0, [.int x, .int y, .int 0, .int 0, .int 0, .int 0, .int 0, .int 0, .int 0, .null]))] := hD
  refine lv_aload_n hx hb d_X5_init_39 rfl (lv_at hl 0 rfl) ?_
  refine lv_iload_n hx hb d_X5_init_40 rfl (lv_at hl 3 rfl) ?_
  refine mk_putF (ci := 0) (k := 2) (fs := [.int x, .int y, .int 0, .int 0, .int 0, .int 0, .int 0, .int 0, .int 0, .null]) Z hK hP hD hS 0 rfl (by decide) mf_X5_32_0 rfl hname rfl rfl rfl (Nat.le_of_ble_eq_true rfl) d_X5_init_41 (fun H locs hP hD hS => ?_)
  have hP : va_P D fm_cls [(a, .inr (0, [.int x, .int y, .int z, .int 0, .int 0, .int 0, .int 0, .int 0, .int 0, .null]))] H := hP
  have hD : va_D (va_A [(a, .inr (0, [.int 0, .int 0, .int 0, .int 0, .int 0, .int 0, .int 0, .int 0, .int 0, .null]))] s.heap.size) [(a, .inr (0, [.int x, .int y, .int z, .int 0, .int 0, .int 0, .int 0, .int 0, .int 0, .null]))] := hD
  refine lv_aload_n hx hb d_X5_init_44 rfl (lv_at hl 0 rfl) ?_
  refine lv_iload hx hb d_X5_init_45 (lv_at hl 4 rfl) ?_
  refine mk_put (ci := 0) (k := 3) (fs := [.int x, .int y, .int z, .int 0, .int 0, .int 0, .int 0, .int 0, .int 0, .null]) Z hK hP hD hS 0 rfl (by decide) mf_X5_35_0 rfl rfl rfl (Nat.le_of_ble_eq_true rfl) d_X5_init_47 (fun H locs hP hD hS => ?_)
  have hP : va_P D fm_cls [(a, .inr (0, [.int x, .int y, .int z, .int w, .int 0, .int 0, .int 0, .int 0, .int 0, .null]))] H := hP
  have hD : va_D (va_A [(a, .inr (0, [.int 0, .int 0, .int 0, .int 0, .int 0, .int 0, .int 0, .int 0, .int 0, .null]))] s.heap.size) [(a, .inr (0, [.int x, .int y, .int z, .int w, .int 0, .int 0, .int 0, .int 0, .int 0, .null]))] := hD
  refine lv_aload_n hx hb d_X5_init_50 rfl (lv_at hl 0 rfl) ?_
  refine lv_aload hx hb d_X5_init_51 (lv_at hl 5 rfl) ?_
  refine mk_putF (ci := 0) (k := 9) (fs := [.int x, .int y, .int z, .int w, .int 0, .int 0, .int 0, .int 0, .int 0, .null]) Z hK hP hD hS 0 rfl (by decide) mf_X5_38_0 rfl hname rfl rfl rfl (Nat.le_of_ble_eq_true rfl) d_X5_init_53 (fun H locs hP hD hS => ?_)
  have hP : va_P D fm_cls [(a, .inr (0, [.int x, .int y, .int z, .int w, .int 0, .int 0, .int 0, .int 0, .int 0, .ref b]))] H := hP
  have hD : va_D (va_A [(a, .inr (0, [.int 0, .int 0, .int 0, .int 0, .int 0, .int 0, .int 0, .int 0, .int 0, .null]))] s.heap.size) [(a, .inr (0, [.int x, .int y, .int z, .int w, .int 0, .int 0, .int 0, .int 0, .int 0, .ref b]))] := hD
  refine mk_ret (w0 := [(a, .inr (0, [.int 0, .int 0, .int 0, .int 0, .int 0, .int 0, .int 0, .int 0, .int 0, .null]))]) (post := (fun u : Nat → Nat => [(a, .inr (0, [.int x, .int y, .int z, .int w, .int 0, .int 0, .int 0, .int 0, .int 0, .ref b]))])) Z hr hlk hP hD hS (fun i => ([] : List Nat).getD i 0) rfl ?_ ?_ d_X5_init_56
  · show _ ≤ 0; omega
  · show _ ≤ 0; first | decide +kernel | omega
theorem k_X5_init_9 {l : Launch} {D : va_G} {ids : Nat → ClassId} {a b : Nat} {x y z w : Int32} (sz : Nat) : mk_M l y_X5_init prog_7_method_1_code 6 1 0 0 D ids [(a, .inr (9, [.int 0, .int 0, .int 0, .int 0, .int 0, .int 0, .int 0, .int 0, .int 0, .null, .null, .null]))] [.ref a, .int x, .int y, .int z, .int w, .ref b] sz (fun u : Nat → Nat => [(a, .inr (9, [.int x, .int y, .int z, .int w, .int 0, .int 0, .int 0, .int 0, .int 0, .ref b, .null, .null]))]) := by
  unfold mk_M
  refine mk_open rfl (Nat.le_of_ble_eq_true rfl) (fun p e s m args below meth c ls Z hr hlk hname hK hP hD hS hA hl hsz => ?_)
  subst hsz
  obtain ⟨hx, hb, hml, hown, hts⟩ := id Z
  have hl : lv_has ls 6 [(0, .ref a), (1, .int x), (2, .int y), (3, .int z), (4, .int w), (5, .ref b)] := hl
  refine lv_aload_n hx hb d_X5_init_0 rfl (lv_at hl 0 rfl) ?_
  refine mk_obj Z hl.1 kw_336 kw_27 kw_28 (by decide) d_X5_init_1 ?_
  refine lv_aload_n hx hb d_X5_init_4 rfl (lv_at hl 0 rfl) ?_
  refine lv_iconst (v := 0) hx hb d_X5_init_5 (by decide) ?_
  refine mk_put (ci := 9) (k := 4) (fs := [.int 0, .int 0, .int 0, .int 0, .int 0, .int 0, .int 0, .int 0, .int 0, .null, .null, .null]) Z hK hP hD hS 0 rfl (by decide) mf_X5_7_9 rfl rfl rfl (Nat.le_of_ble_eq_true rfl) d_X5_init_6 (fun H locs hP hD hS => ?_)
  have hP : va_P D fm_cls [(a, .inr (9, [.int 0, .int 0, .int 0, .int 0, .int 0, .int 0, .int 0, .int 0, .int 0, .null, .null, .null]))] H := hP
  have hD : va_D (va_A [(a, .inr (9, [.int 0, .int 0, .int 0, .int 0, .int 0, .int 0, .int 0, .int 0, .int 0, .null, .null, .null]))] s.heap.size) [(a, .inr (9, [.int 0, .int 0, .int 0, .int 0, .int 0, .int 0, .int 0, .int 0, .int 0, .null, .null, .null]))] := hD
  refine lv_aload_n hx hb d_X5_init_9 rfl (lv_at hl 0 rfl) ?_
  refine lv_iconst (v := 0) hx hb d_X5_init_10 (by decide) ?_
  refine mk_put (ci := 9) (k := 5) (fs := [.int 0, .int 0, .int 0, .int 0, .int 0, .int 0, .int 0, .int 0, .int 0, .null, .null, .null]) Z hK hP hD hS 0 rfl (by decide) mf_X5_13_9 rfl rfl rfl (Nat.le_of_ble_eq_true rfl) d_X5_init_11 (fun H locs hP hD hS => ?_)
  have hP : va_P D fm_cls [(a, .inr (9, [.int 0, .int 0, .int 0, .int 0, .int 0, .int 0, .int 0, .int 0, .int 0, .null, .null, .null]))] H := hP
  have hD : va_D (va_A [(a, .inr (9, [.int 0, .int 0, .int 0, .int 0, .int 0, .int 0, .int 0, .int 0, .int 0, .null, .null, .null]))] s.heap.size) [(a, .inr (9, [.int 0, .int 0, .int 0, .int 0, .int 0, .int 0, .int 0, .int 0, .int 0, .null, .null, .null]))] := hD
  refine lv_aload_n hx hb d_X5_init_14 rfl (lv_at hl 0 rfl) ?_
  refine lv_iconst (v := 0) hx hb d_X5_init_15 (by decide) ?_
  refine mk_put (ci := 9) (k := 6) (fs := [.int 0, .int 0, .int 0, .int 0, .int 0, .int 0, .int 0, .int 0, .int 0, .null, .null, .null]) Z hK hP hD hS 0 rfl (by decide) mf_X5_17_9 rfl rfl rfl (Nat.le_of_ble_eq_true rfl) d_X5_init_16 (fun H locs hP hD hS => ?_)
  have hP : va_P D fm_cls [(a, .inr (9, [.int 0, .int 0, .int 0, .int 0, .int 0, .int 0, .int 0, .int 0, .int 0, .null, .null, .null]))] H := hP
  have hD : va_D (va_A [(a, .inr (9, [.int 0, .int 0, .int 0, .int 0, .int 0, .int 0, .int 0, .int 0, .int 0, .null, .null, .null]))] s.heap.size) [(a, .inr (9, [.int 0, .int 0, .int 0, .int 0, .int 0, .int 0, .int 0, .int 0, .int 0, .null, .null, .null]))] := hD
  refine lv_aload_n hx hb d_X5_init_19 rfl (lv_at hl 0 rfl) ?_
  refine lv_iconst (v := 0) hx hb d_X5_init_20 (by decide) ?_
  refine mk_put (ci := 9) (k := 7) (fs := [.int 0, .int 0, .int 0, .int 0, .int 0, .int 0, .int 0, .int 0, .int 0, .null, .null, .null]) Z hK hP hD hS 0 rfl (by decide) mf_X5_20_9 rfl rfl rfl (Nat.le_of_ble_eq_true rfl) d_X5_init_21 (fun H locs hP hD hS => ?_)
  have hP : va_P D fm_cls [(a, .inr (9, [.int 0, .int 0, .int 0, .int 0, .int 0, .int 0, .int 0, .int 0, .int 0, .null, .null, .null]))] H := hP
  have hD : va_D (va_A [(a, .inr (9, [.int 0, .int 0, .int 0, .int 0, .int 0, .int 0, .int 0, .int 0, .int 0, .null, .null, .null]))] s.heap.size) [(a, .inr (9, [.int 0, .int 0, .int 0, .int 0, .int 0, .int 0, .int 0, .int 0, .int 0, .null, .null, .null]))] := hD
  refine lv_aload_n hx hb d_X5_init_24 rfl (lv_at hl 0 rfl) ?_
  refine lv_iconst (v := 0) hx hb d_X5_init_25 (by decide) ?_
  refine mk_put (ci := 9) (k := 8) (fs := [.int 0, .int 0, .int 0, .int 0, .int 0, .int 0, .int 0, .int 0, .int 0, .null, .null, .null]) Z hK hP hD hS 0 rfl (by decide) mf_X5_23_9 rfl rfl rfl (Nat.le_of_ble_eq_true rfl) d_X5_init_26 (fun H locs hP hD hS => ?_)
  have hP : va_P D fm_cls [(a, .inr (9, [.int 0, .int 0, .int 0, .int 0, .int 0, .int 0, .int 0, .int 0, .int 0, .null, .null, .null]))] H := hP
  have hD : va_D (va_A [(a, .inr (9, [.int 0, .int 0, .int 0, .int 0, .int 0, .int 0, .int 0, .int 0, .int 0, .null, .null, .null]))] s.heap.size) [(a, .inr (9, [.int 0, .int 0, .int 0, .int 0, .int 0, .int 0, .int 0, .int 0, .int 0, .null, .null, .null]))] := hD
  refine lv_aload_n hx hb d_X5_init_29 rfl (lv_at hl 0 rfl) ?_
  refine lv_iload_n hx hb d_X5_init_30 rfl (lv_at hl 1 rfl) ?_
  refine mk_putF (ci := 9) (k := 0) (fs := [.int 0, .int 0, .int 0, .int 0, .int 0, .int 0, .int 0, .int 0, .int 0, .null, .null, .null]) Z hK hP hD hS 0 rfl (by decide) mf_X5_26_9 rfl hname rfl rfl rfl (Nat.le_of_ble_eq_true rfl) d_X5_init_31 (fun H locs hP hD hS => ?_)
  have hP : va_P D fm_cls [(a, .inr (9, [.int x, .int 0, .int 0, .int 0, .int 0, .int 0, .int 0, .int 0, .int 0, .null, .null, .null]))] H := hP
  have hD : va_D (va_A [(a, .inr (9, [.int 0, .int 0, .int 0, .int 0, .int 0, .int 0, .int 0, .int 0, .int 0, .null, .null, .null]))] s.heap.size) [(a, .inr (9, [.int x, .int 0, .int 0, .int 0, .int 0, .int 0, .int 0, .int 0, .int 0, .null, .null, .null]))] := hD
  refine lv_aload_n hx hb d_X5_init_34 rfl (lv_at hl 0 rfl) ?_
  refine lv_iload_n hx hb d_X5_init_35 rfl (lv_at hl 2 rfl) ?_
  refine mk_putF (ci := 9) (k := 1) (fs := [.int x, .int 0, .int 0, .int 0, .int 0, .int 0, .int 0, .int 0, .int 0, .null, .null, .null]) Z hK hP hD hS 0 rfl (by decide) mf_X5_29_9 rfl hname rfl rfl rfl (Nat.le_of_ble_eq_true rfl) d_X5_init_36 (fun H locs hP hD hS => ?_)
  have hP : va_P D fm_cls [(a, .inr (9, [.int x, .int y, .int 0, .int 0, .int 0, .int 0, .int 0, .int 0, .int 0, .null, .null, .null]))] H := hP
  have hD : va_D (va_A [(a, .inr (9, [.int 0, .int 0, .int 0, .int 0, .int 0, .int 0, .int 0, .int 0, .int 0, .null, .null, .null]))] s.heap.size) [(a, .inr (9, [.int x, .int y, .int 0, .int 0, .int 0, .int 0, .int 0, .int 0, .int 0, .null, .null, .null]))] := hD
  refine lv_aload_n hx hb d_X5_init_39 rfl (lv_at hl 0 rfl) ?_
  refine lv_iload_n hx hb d_X5_init_40 rfl (lv_at hl 3 rfl) ?_
  refine mk_putF (ci := 9) (k := 2) (fs := [.int x, .int y, .int 0, .int 0, .int 0, .int 0, .int 0, .int 0, .int 0, .null, .null, .null]) Z hK hP hD hS 0 rfl (by decide) mf_X5_32_9 rfl hname rfl rfl rfl (Nat.le_of_ble_eq_true rfl) d_X5_init_41 (fun H locs hP hD hS => ?_)
  have hP : va_P D fm_cls [(a, .inr (9, [.int x, .int y, .int z, .int 0, .int 0, .int 0, .int 0, .int 0, .int 0, .null, .null, .null]))] H := hP
  have hD : va_D (va_A [(a, .inr (9, [.int 0, .int 0, .int 0, .int 0, .int 0, .int 0, .int 0, .int 0, .int 0, .null, .null, .null]))] s.heap.size) [(a, .inr (9, [.int x, .int y, .int z, .int 0, .int 0, .int 0, .int 0, .int 0, .int 0, .null, .null, .null]))] := hD
  refine lv_aload_n hx hb d_X5_init_44 rfl (lv_at hl 0 rfl) ?_
  refine lv_iload hx hb d_X5_init_45 (lv_at hl 4 rfl) ?_
  refine mk_put (ci := 9) (k := 3) (fs := [.int x, .int y, .int z, .int 0, .int 0, .int 0, .int 0, .int 0, .int 0, .null, .null, .null]) Z hK hP hD hS 0 rfl (by decide) mf_X5_35_9 rfl rfl rfl (Nat.le_of_ble_eq_true rfl) d_X5_init_47 (fun H locs hP hD hS => ?_)
  have hP : va_P D fm_cls [(a, .inr (9, [.int x, .int y, .int z, .int w, .int 0, .int 0, .int 0, .int 0, .int 0, .null, .null, .null]))] H := hP
  have hD : va_D (va_A [(a, .inr (9, [.int 0, .int 0, .int 0, .int 0, .int 0, .int 0, .int 0, .int 0, .int 0, .null, .null, .null]))] s.heap.size) [(a, .inr (9, [.int x, .int y, .int z, .int w, .int 0, .int 0, .int 0, .int 0, .int 0, .null, .null, .null]))] := hD
  refine lv_aload_n hx hb d_X5_init_50 rfl (lv_at hl 0 rfl) ?_
  refine lv_aload hx hb d_X5_init_51 (lv_at hl 5 rfl) ?_
  refine mk_putF (ci := 9) (k := 9) (fs := [.int x, .int y, .int z, .int w, .int 0, .int 0, .int 0, .int 0, .int 0, .null, .null, .null]) Z hK hP hD hS 0 rfl (by decide) mf_X5_38_9 rfl hname rfl rfl rfl (Nat.le_of_ble_eq_true rfl) d_X5_init_53 (fun H locs hP hD hS => ?_)
  have hP : va_P D fm_cls [(a, .inr (9, [.int x, .int y, .int z, .int w, .int 0, .int 0, .int 0, .int 0, .int 0, .ref b, .null, .null]))] H := hP
  have hD : va_D (va_A [(a, .inr (9, [.int 0, .int 0, .int 0, .int 0, .int 0, .int 0, .int 0, .int 0, .int 0, .null, .null, .null]))] s.heap.size) [(a, .inr (9, [.int x, .int y, .int z, .int w, .int 0, .int 0, .int 0, .int 0, .int 0, .ref b, .null, .null]))] := hD
  refine mk_ret (w0 := [(a, .inr (9, [.int 0, .int 0, .int 0, .int 0, .int 0, .int 0, .int 0, .int 0, .int 0, .null, .null, .null]))]) (post := (fun u : Nat → Nat => [(a, .inr (9, [.int x, .int y, .int z, .int w, .int 0, .int 0, .int 0, .int 0, .int 0, .ref b, .null, .null]))])) Z hr hlk hP hD hS (fun i => ([] : List Nat).getD i 0) rfl ?_ ?_ d_X5_init_56
  · show _ ≤ 0; omega
  · show _ ≤ 0; first | decide +kernel | omega
theorem k_X3_init_3 {l : Launch} {D : va_G} {ids : Nat → ClassId} {a b : Nat} {x y z w : Int32} (sz : Nat) : mk_M l y_X3_init prog_5_method_1_code 6 2 0 0 D ids [(a, .inr (3, [.int 0, .int 0, .int 0, .int 0, .int 0, .int 0, .int 0, .int 0, .int 0, .null]))] [.ref a, .int x, .int y, .int z, .int w, .ref b] sz (fun u : Nat → Nat => [(a, .inr (3, [.int x, .int y, .int z, .int w, .int 0, .int 0, .int 0, .int 0, .int 0, .ref b]))]) := by
  unfold mk_M
  refine mk_open rfl (Nat.le_of_ble_eq_true rfl) (fun p e s m args below meth c ls Z hr hlk hname hK hP hD hS hA hl hsz => ?_)
  subst hsz
  obtain ⟨hx, hb, hml, hown, hts⟩ := id Z
  have hl : lv_has ls 6 [(0, .ref a), (1, .int x), (2, .int y), (3, .int z), (4, .int w), (5, .ref b)] := hl
  refine lv_aload_n hx hb d_X3_init_0 rfl (lv_at hl 0 rfl) ?_
  refine lv_iload_n hx hb d_X3_init_1 rfl (lv_at hl 1 rfl) ?_
  refine lv_iload_n hx hb d_X3_init_2 rfl (lv_at hl 2 rfl) ?_
  refine lv_iload_n hx hb d_X3_init_3 rfl (lv_at hl 3 rfl) ?_
  refine lv_iload hx hb d_X3_init_4 (lv_at hl 4 rfl) ?_
  refine lv_aload hx hb d_X3_init_6 (lv_at hl 5 rfl) ?_
  refine mk_callI (As := [.int x, .int y, .int z, .int w, .ref b]) (rest := []) (q := a) (k := 5) Z (k_X5_init_3 (ids := ids) (D := D) _) hK hP hD hS hA (isC := [0]) (isR := []) (wc := [(a, .inr (3, [.int 0, .int 0, .int 0, .int 0, .int 0, .int 0, .int 0, .int 0, .int 0, .null]))]) (wr := []) rfl rfl rfl rfl (by decide) rfl kw_333 kw_334 kw_11 kw_335 yd_X5_init rfl (by decide) (by decide) hl.1 (Nat.le_of_ble_eq_true rfl) d_X3_init_8 (by show _ ≤ 0; omega) (by show _ ≤ 0; omega) rfl (fun u8 H locs hP hD hS => ?_)
  have hP : va_P D fm_cls [(a, .inr (3, [.int x, .int y, .int z, .int w, .int 0, .int 0, .int 0, .int 0, .int 0, .ref b]))] H := hP
  have hD : va_D (va_A [(a, .inr (3, [.int 0, .int 0, .int 0, .int 0, .int 0, .int 0, .int 0, .int 0, .int 0, .null]))] s.heap.size) [(a, .inr (3, [.int x, .int y, .int z, .int w, .int 0, .int 0, .int 0, .int 0, .int 0, .ref b]))] := hD
  refine mk_ret (w0 := [(a, .inr (3, [.int 0, .int 0, .int 0, .int 0, .int 0, .int 0, .int 0, .int 0, .int 0, .null]))]) (post := (fun u : Nat → Nat => [(a, .inr (3, [.int x, .int y, .int z, .int w, .int 0, .int 0, .int 0, .int 0, .int 0, .ref b]))])) Z hr hlk hP hD hS (fun i => ([] : List Nat).getD i 0) rfl ?_ ?_ d_X3_init_11
  · show _ ≤ 0; omega
  · show _ ≤ 0; first | decide +kernel | omega
theorem k_X3_init_2 {l : Launch} {D : va_G} {ids : Nat → ClassId} {a b : Nat} {x y z w : Int32} (sz : Nat) : mk_M l y_X3_init prog_5_method_1_code 6 2 0 0 D ids [(a, .inr (2, [.int 0, .int 0, .int 0, .int 0, .int 0, .int 0, .int 0, .int 0, .int 0, .null]))] [.ref a, .int x, .int y, .int z, .int w, .ref b] sz (fun u : Nat → Nat => [(a, .inr (2, [.int x, .int y, .int z, .int w, .int 0, .int 0, .int 0, .int 0, .int 0, .ref b]))]) := by
  unfold mk_M
  refine mk_open rfl (Nat.le_of_ble_eq_true rfl) (fun p e s m args below meth c ls Z hr hlk hname hK hP hD hS hA hl hsz => ?_)
  subst hsz
  obtain ⟨hx, hb, hml, hown, hts⟩ := id Z
  have hl : lv_has ls 6 [(0, .ref a), (1, .int x), (2, .int y), (3, .int z), (4, .int w), (5, .ref b)] := hl
  refine lv_aload_n hx hb d_X3_init_0 rfl (lv_at hl 0 rfl) ?_
  refine lv_iload_n hx hb d_X3_init_1 rfl (lv_at hl 1 rfl) ?_
  refine lv_iload_n hx hb d_X3_init_2 rfl (lv_at hl 2 rfl) ?_
  refine lv_iload_n hx hb d_X3_init_3 rfl (lv_at hl 3 rfl) ?_
  refine lv_iload hx hb d_X3_init_4 (lv_at hl 4 rfl) ?_
  refine lv_aload hx hb d_X3_init_6 (lv_at hl 5 rfl) ?_
  refine mk_callI (As := [.int x, .int y, .int z, .int w, .ref b]) (rest := []) (q := a) (k := 5) Z (k_X5_init_2 (ids := ids) (D := D) _) hK hP hD hS hA (isC := [0]) (isR := []) (wc := [(a, .inr (2, [.int 0, .int 0, .int 0, .int 0, .int 0, .int 0, .int 0, .int 0, .int 0, .null]))]) (wr := []) rfl rfl rfl rfl (by decide) rfl kw_333 kw_334 kw_11 kw_335 yd_X5_init rfl (by decide) (by decide) hl.1 (Nat.le_of_ble_eq_true rfl) d_X3_init_8 (by show _ ≤ 0; omega) (by show _ ≤ 0; omega) rfl (fun u8 H locs hP hD hS => ?_)
  have hP : va_P D fm_cls [(a, .inr (2, [.int x, .int y, .int z, .int w, .int 0, .int 0, .int 0, .int 0, .int 0, .ref b]))] H := hP
  have hD : va_D (va_A [(a, .inr (2, [.int 0, .int 0, .int 0, .int 0, .int 0, .int 0, .int 0, .int 0, .int 0, .null]))] s.heap.size) [(a, .inr (2, [.int x, .int y, .int z, .int w, .int 0, .int 0, .int 0, .int 0, .int 0, .ref b]))] := hD
  refine mk_ret (w0 := [(a, .inr (2, [.int 0, .int 0, .int 0, .int 0, .int 0, .int 0, .int 0, .int 0, .int 0, .null]))]) (post := (fun u : Nat → Nat => [(a, .inr (2, [.int x, .int y, .int z, .int w, .int 0, .int 0, .int 0, .int 0, .int 0, .ref b]))])) Z hr hlk hP hD hS (fun i => ([] : List Nat).getD i 0) rfl ?_ ?_ d_X3_init_11
  · show _ ≤ 0; omega
  · show _ ≤ 0; first | decide +kernel | omega
theorem k_X4_init_4 {l : Launch} {D : va_G} {ids : Nat → ClassId} {a b : Nat} {x y z w : Int32} (sz : Nat) : mk_M l y_X4_init prog_6_method_1_code 6 2 0 0 D ids [(a, .inr (4, [.int 0, .int 0, .int 0, .int 0, .int 0, .int 0, .int 0, .int 0, .int 0, .null]))] [.ref a, .int x, .int y, .int z, .int w, .ref b] sz (fun u : Nat → Nat => [(a, .inr (4, [.int x, .int y, .int z, .int w, .int 0, .int 0, .int 0, .int 0, .int 0, .ref b]))]) := by
  unfold mk_M
  refine mk_open rfl (Nat.le_of_ble_eq_true rfl) (fun p e s m args below meth c ls Z hr hlk hname hK hP hD hS hA hl hsz => ?_)
  subst hsz
  obtain ⟨hx, hb, hml, hown, hts⟩ := id Z
  have hl : lv_has ls 6 [(0, .ref a), (1, .int x), (2, .int y), (3, .int z), (4, .int w), (5, .ref b)] := hl
  refine lv_aload_n hx hb d_X4_init_0 rfl (lv_at hl 0 rfl) ?_
  refine lv_iload_n hx hb d_X4_init_1 rfl (lv_at hl 1 rfl) ?_
  refine lv_iload_n hx hb d_X4_init_2 rfl (lv_at hl 2 rfl) ?_
  refine lv_iload_n hx hb d_X4_init_3 rfl (lv_at hl 3 rfl) ?_
  refine lv_iload hx hb d_X4_init_4 (lv_at hl 4 rfl) ?_
  refine lv_aload hx hb d_X4_init_6 (lv_at hl 5 rfl) ?_
  refine mk_callI (As := [.int x, .int y, .int z, .int w, .ref b]) (rest := []) (q := a) (k := 5) Z (k_X5_init_4 (ids := ids) (D := D) _) hK hP hD hS hA (isC := [0]) (isR := []) (wc := [(a, .inr (4, [.int 0, .int 0, .int 0, .int 0, .int 0, .int 0, .int 0, .int 0, .int 0, .null]))]) (wr := []) rfl rfl rfl rfl (by decide) rfl kw_400 kw_334 kw_11 kw_335 yd_X5_init rfl (by decide) (by decide) hl.1 (Nat.le_of_ble_eq_true rfl) d_X4_init_8 (by show _ ≤ 0; omega) (by show _ ≤ 0; omega) rfl (fun u8 H locs hP hD hS => ?_)
  have hP : va_P D fm_cls [(a, .inr (4, [.int x, .int y, .int z, .int w, .int 0, .int 0, .int 0, .int 0, .int 0, .ref b]))] H := hP
  have hD : va_D (va_A [(a, .inr (4, [.int 0, .int 0, .int 0, .int 0, .int 0, .int 0, .int 0, .int 0, .int 0, .null]))] s.heap.size) [(a, .inr (4, [.int x, .int y, .int z, .int w, .int 0, .int 0, .int 0, .int 0, .int 0, .ref b]))] := hD
  refine mk_ret (w0 := [(a, .inr (4, [.int 0, .int 0, .int 0, .int 0, .int 0, .int 0, .int 0, .int 0, .int 0, .null]))]) (post := (fun u : Nat → Nat => [(a, .inr (4, [.int x, .int y, .int z, .int w, .int 0, .int 0, .int 0, .int 0, .int 0, .ref b]))])) Z hr hlk hP hD hS (fun i => ([] : List Nat).getD i 0) rfl ?_ ?_ d_X4_init_11
  · show _ ≤ 0; omega
  · show _ ≤ 0; first | decide +kernel | omega
theorem k_X4_init_0 {l : Launch} {D : va_G} {ids : Nat → ClassId} {a b : Nat} {x y z w : Int32} (sz : Nat) : mk_M l y_X4_init prog_6_method_1_code 6 2 0 0 D ids [(a, .inr (0, [.int 0, .int 0, .int 0, .int 0, .int 0, .int 0, .int 0, .int 0, .int 0, .null]))] [.ref a, .int x, .int y, .int z, .int w, .ref b] sz (fun u : Nat → Nat => [(a, .inr (0, [.int x, .int y, .int z, .int w, .int 0, .int 0, .int 0, .int 0, .int 0, .ref b]))]) := by
  unfold mk_M
  refine mk_open rfl (Nat.le_of_ble_eq_true rfl) (fun p e s m args below meth c ls Z hr hlk hname hK hP hD hS hA hl hsz => ?_)
  subst hsz
  obtain ⟨hx, hb, hml, hown, hts⟩ := id Z
  have hl : lv_has ls 6 [(0, .ref a), (1, .int x), (2, .int y), (3, .int z), (4, .int w), (5, .ref b)] := hl
  refine lv_aload_n hx hb d_X4_init_0 rfl (lv_at hl 0 rfl) ?_
  refine lv_iload_n hx hb d_X4_init_1 rfl (lv_at hl 1 rfl) ?_
  refine lv_iload_n hx hb d_X4_init_2 rfl (lv_at hl 2 rfl) ?_
  refine lv_iload_n hx hb d_X4_init_3 rfl (lv_at hl 3 rfl) ?_
  refine lv_iload hx hb d_X4_init_4 (lv_at hl 4 rfl) ?_
  refine lv_aload hx hb d_X4_init_6 (lv_at hl 5 rfl) ?_
  refine mk_callI (As := [.int x, .int y, .int z, .int w, .ref b]) (rest := []) (q := a) (k := 5) Z (k_X5_init_0 (ids := ids) (D := D) _) hK hP hD hS hA (isC := [0]) (isR := []) (wc := [(a, .inr (0, [.int 0, .int 0, .int 0, .int 0, .int 0, .int 0, .int 0, .int 0, .int 0, .null]))]) (wr := []) rfl rfl rfl rfl (by decide) rfl kw_400 kw_334 kw_11 kw_335 yd_X5_init rfl (by decide) (by decide) hl.1 (Nat.le_of_ble_eq_true rfl) d_X4_init_8 (by show _ ≤ 0; omega) (by show _ ≤ 0; omega) rfl (fun u8 H locs hP hD hS => ?_)
  have hP : va_P D fm_cls [(a, .inr (0, [.int x, .int y, .int z, .int w, .int 0, .int 0, .int 0, .int 0, .int 0, .ref b]))] H := hP
  have hD : va_D (va_A [(a, .inr (0, [.int 0, .int 0, .int 0, .int 0, .int 0, .int 0, .int 0, .int 0, .int 0, .null]))] s.heap.size) [(a, .inr (0, [.int x, .int y, .int z, .int w, .int 0, .int 0, .int 0, .int 0, .int 0, .ref b]))] := hD
  refine mk_ret (w0 := [(a, .inr (0, [.int 0, .int 0, .int 0, .int 0, .int 0, .int 0, .int 0, .int 0, .int 0, .null]))]) (post := (fun u : Nat → Nat => [(a, .inr (0, [.int x, .int y, .int z, .int w, .int 0, .int 0, .int 0, .int 0, .int 0, .ref b]))])) Z hr hlk hP hD hS (fun i => ([] : List Nat).getD i 0) rfl ?_ ?_ d_X4_init_11
  · show _ ≤ 0; omega
  · show _ ≤ 0; first | decide +kernel | omega
theorem k_X7_init_7 {l : Launch} {D : va_G} {ids : Nat → ClassId} {a b : Nat} {x y z w : Int32} (sz : Nat) : mk_M l y_X7_init prog_9_method_1_code 6 2 0 0 D ids [(a, .inr (7, [.int 0, .int 0, .int 0, .int 0, .int 0, .int 0, .int 0, .int 0, .int 0, .null]))] [.ref a, .int x, .int y, .int z, .int w, .ref b] sz (fun u : Nat → Nat => [(a, .inr (7, [.int x, .int y, .int z, .int w, .int 0, .int 0, .int 0, .int 0, .int 0, .ref b]))]) := by
  unfold mk_M
  refine mk_open rfl (Nat.le_of_ble_eq_true rfl) (fun p e s m args below meth c ls Z hr hlk hname hK hP hD hS hA hl hsz => ?_)
  subst hsz
  obtain ⟨hx, hb, hml, hown, hts⟩ := id Z
  have hl : lv_has ls 6 [(0, .ref a), (1, .int x), (2, .int y), (3, .int z), (4, .int w), (5, .ref b)] := hl
  refine lv_aload_n hx hb d_X7_init_0 rfl (lv_at hl 0 rfl) ?_
  refine lv_iload_n hx hb d_X7_init_1 rfl (lv_at hl 1 rfl) ?_
  refine lv_iload_n hx hb d_X7_init_2 rfl (lv_at hl 2 rfl) ?_
  refine lv_iload_n hx hb d_X7_init_3 rfl (lv_at hl 3 rfl) ?_
  refine lv_iload hx hb d_X7_init_4 (lv_at hl 4 rfl) ?_
  refine lv_aload hx hb d_X7_init_6 (lv_at hl 5 rfl) ?_
  refine mk_callI (As := [.int x, .int y, .int z, .int w, .ref b]) (rest := []) (q := a) (k := 5) Z (k_X5_init_7 (ids := ids) (D := D) _) hK hP hD hS hA (isC := [0]) (isR := []) (wc := [(a, .inr (7, [.int 0, .int 0, .int 0, .int 0, .int 0, .int 0, .int 0, .int 0, .int 0, .null]))]) (wr := []) rfl rfl rfl rfl (by decide) rfl kw_417 kw_334 kw_11 kw_335 yd_X5_init rfl (by decide) (by decide) hl.1 (Nat.le_of_ble_eq_true rfl) d_X7_init_8 (by show _ ≤ 0; omega) (by show _ ≤ 0; omega) rfl (fun u8 H locs hP hD hS => ?_)
  have hP : va_P D fm_cls [(a, .inr (7, [.int x, .int y, .int z, .int w, .int 0, .int 0, .int 0, .int 0, .int 0, .ref b]))] H := hP
  have hD : va_D (va_A [(a, .inr (7, [.int 0, .int 0, .int 0, .int 0, .int 0, .int 0, .int 0, .int 0, .int 0, .null]))] s.heap.size) [(a, .inr (7, [.int x, .int y, .int z, .int w, .int 0, .int 0, .int 0, .int 0, .int 0, .ref b]))] := hD
  refine mk_ret (w0 := [(a, .inr (7, [.int 0, .int 0, .int 0, .int 0, .int 0, .int 0, .int 0, .int 0, .int 0, .null]))]) (post := (fun u : Nat → Nat => [(a, .inr (7, [.int x, .int y, .int z, .int w, .int 0, .int 0, .int 0, .int 0, .int 0, .ref b]))])) Z hr hlk hP hD hS (fun i => ([] : List Nat).getD i 0) rfl ?_ ?_ d_X7_init_11
  · show _ ≤ 0; omega
  · show _ ≤ 0; first | decide +kernel | omega
theorem k_X7_init_9 {l : Launch} {D : va_G} {ids : Nat → ClassId} {a b : Nat} {x y z w : Int32} (sz : Nat) : mk_M l y_X7_init prog_9_method_1_code 6 2 0 0 D ids [(a, .inr (9, [.int 0, .int 0, .int 0, .int 0, .int 0, .int 0, .int 0, .int 0, .int 0, .null, .null, .null]))] [.ref a, .int x, .int y, .int z, .int w, .ref b] sz (fun u : Nat → Nat => [(a, .inr (9, [.int x, .int y, .int z, .int w, .int 0, .int 0, .int 0, .int 0, .int 0, .ref b, .null, .null]))]) := by
  unfold mk_M
  refine mk_open rfl (Nat.le_of_ble_eq_true rfl) (fun p e s m args below meth c ls Z hr hlk hname hK hP hD hS hA hl hsz => ?_)
  subst hsz
  obtain ⟨hx, hb, hml, hown, hts⟩ := id Z
  have hl : lv_has ls 6 [(0, .ref a), (1, .int x), (2, .int y), (3, .int z), (4, .int w), (5, .ref b)] := hl
  refine lv_aload_n hx hb d_X7_init_0 rfl (lv_at hl 0 rfl) ?_
  refine lv_iload_n hx hb d_X7_init_1 rfl (lv_at hl 1 rfl) ?_
  refine lv_iload_n hx hb d_X7_init_2 rfl (lv_at hl 2 rfl) ?_
  refine lv_iload_n hx hb d_X7_init_3 rfl (lv_at hl 3 rfl) ?_
  refine lv_iload hx hb d_X7_init_4 (lv_at hl 4 rfl) ?_
  refine lv_aload hx hb d_X7_init_6 (lv_at hl 5 rfl) ?_
  refine mk_callI (As := [.int x, .int y, .int z, .int w, .ref b]) (rest := []) (q := a) (k := 5) Z (k_X5_init_9 (ids := ids) (D := D) _) hK hP hD hS hA (isC := [0]) (isR := []) (wc := [(a, .inr (9, [.int 0, .int 0, .int 0, .int 0, .int 0, .int 0, .int 0, .int 0, .int 0, .null, .null, .null]))]) (wr := []) rfl rfl rfl rfl (by decide) rfl kw_417 kw_334 kw_11 kw_335 yd_X5_init rfl (by decide) (by decide) hl.1 (Nat.le_of_ble_eq_true rfl) d_X7_init_8 (by show _ ≤ 0; omega) (by show _ ≤ 0; omega) rfl (fun u8 H locs hP hD hS => ?_)
  have hP : va_P D fm_cls [(a, .inr (9, [.int x, .int y, .int z, .int w, .int 0, .int 0, .int 0, .int 0, .int 0, .ref b, .null, .null]))] H := hP
  have hD : va_D (va_A [(a, .inr (9, [.int 0, .int 0, .int 0, .int 0, .int 0, .int 0, .int 0, .int 0, .int 0, .null, .null, .null]))] s.heap.size) [(a, .inr (9, [.int x, .int y, .int z, .int w, .int 0, .int 0, .int 0, .int 0, .int 0, .ref b, .null, .null]))] := hD
  refine mk_ret (w0 := [(a, .inr (9, [.int 0, .int 0, .int 0, .int 0, .int 0, .int 0, .int 0, .int 0, .int 0, .null, .null, .null]))]) (post := (fun u : Nat → Nat => [(a, .inr (9, [.int x, .int y, .int z, .int w, .int 0, .int 0, .int 0, .int 0, .int 0, .ref b, .null, .null]))])) Z hr hlk hP hD hS (fun i => ([] : List Nat).getD i 0) rfl ?_ ?_ d_X7_init_11
  · show _ ≤ 0; omega
  · show _ ≤ 0; first | decide +kernel | omega
theorem k_X2_init_2 {l : Launch} {D : va_G} {ids : Nat → ClassId} {a b : Nat} {x y z w : Int32} (sz : Nat) : mk_M l y_X2_init prog_4_method_1_code 6 3 0 0 D ids [(a, .inr (2, [.int 0, .int 0, .int 0, .int 0, .int 0, .int 0, .int 0, .int 0, .int 0, .null]))] [.ref a, .int x, .int y, .int z, .int w, .ref b] sz (fun u : Nat → Nat => [(a, .inr (2, [.int x, .int y, .int z, .int w, .int 0, .int 0, .int 0, .int 0, .int 0, .ref b]))]) := by
  unfold mk_M
  refine mk_open rfl (Nat.le_of_ble_eq_true rfl) (fun p e s m args below meth c ls Z hr hlk hname hK hP hD hS hA hl hsz => ?_)
  subst hsz
  obtain ⟨hx, hb, hml, hown, hts⟩ := id Z
  have hl : lv_has ls 6 [(0, .ref a), (1, .int x), (2, .int y), (3, .int z), (4, .int w), (5, .ref b)] := hl
  refine lv_aload_n hx hb d_X2_init_0 rfl (lv_at hl 0 rfl) ?_
  refine lv_iload_n hx hb d_X2_init_1 rfl (lv_at hl 1 rfl) ?_
  refine lv_iload_n hx hb d_X2_init_2 rfl (lv_at hl 2 rfl) ?_
  refine lv_iload_n hx hb d_X2_init_3 rfl (lv_at hl 3 rfl) ?_
  refine lv_iload hx hb d_X2_init_4 (lv_at hl 4 rfl) ?_
  refine lv_aload hx hb d_X2_init_6 (lv_at hl 5 rfl) ?_
  refine mk_callI (As := [.int x, .int y, .int z, .int w, .ref b]) (rest := []) (q := a) (k := 5) Z (k_X3_init_2 (ids := ids) (D := D) _) hK hP hD hS hA (isC := [0]) (isR := []) (wc := [(a, .inr (2, [.int 0, .int 0, .int 0, .int 0, .int 0, .int 0, .int 0, .int 0, .int 0, .null]))]) (wr := []) rfl rfl rfl rfl (by decide) rfl kw_434 kw_331 kw_12 kw_332 yd_X3_init rfl (by decide) (by decide) hl.1 (Nat.le_of_ble_eq_true rfl) d_X2_init_8 (by show _ ≤ 0; omega) (by show _ ≤ 0; omega) rfl (fun u8 H locs hP hD hS => ?_)
  have hP : va_P D fm_cls [(a, .inr (2, [.int x, .int y, .int z, .int w, .int 0, .int 0, .int 0, .int 0, .int 0, .ref b]))] H := hP
  have hD : va_D (va_A [(a, .inr (2, [.int 0, .int 0, .int 0, .int 0, .int 0, .int 0, .int 0, .int 0, .int 0, .null]))] s.heap.size) [(a, .inr (2, [.int x, .int y, .int z, .int w, .int 0, .int 0, .int 0, .int 0, .int 0, .ref b]))] := hD
  refine mk_ret (w0 := [(a, .inr (2, [.int 0, .int 0, .int 0, .int 0, .int 0, .int 0, .int 0, .int 0, .int 0, .null]))]) (post := (fun u : Nat → Nat => [(a, .inr (2, [.int x, .int y, .int z, .int w, .int 0, .int 0, .int 0, .int 0, .int 0, .ref b]))])) Z hr hlk hP hD hS (fun i => ([] : List Nat).getD i 0) rfl ?_ ?_ d_X2_init_11
  · show _ ≤ 0; omega
  · show _ ≤ 0; first | decide +kernel | omega
theorem k_X0_init_0 {l : Launch} {D : va_G} {ids : Nat → ClassId} {a b : Nat} {x y z w : Int32} (sz : Nat) : mk_M l y_X0_init prog_2_method_1_code 6 3 0 0 D ids [(a, .inr (0, [.int 0, .int 0, .int 0, .int 0, .int 0, .int 0, .int 0, .int 0, .int 0, .null]))] [.ref a, .int x, .int y, .int z, .int w, .ref b] sz (fun u : Nat → Nat => [(a, .inr (0, [.int x, .int y, .int z, .int w, .int 0, .int 0, .int 0, .int 0, .int 0, .ref b]))]) := by
  unfold mk_M
  refine mk_open rfl (Nat.le_of_ble_eq_true rfl) (fun p e s m args below meth c ls Z hr hlk hname hK hP hD hS hA hl hsz => ?_)
  subst hsz
  obtain ⟨hx, hb, hml, hown, hts⟩ := id Z
  have hl : lv_has ls 6 [(0, .ref a), (1, .int x), (2, .int y), (3, .int z), (4, .int w), (5, .ref b)] := hl
  refine lv_aload_n hx hb d_X0_init_0 rfl (lv_at hl 0 rfl) ?_
  refine lv_iload_n hx hb d_X0_init_1 rfl (lv_at hl 1 rfl) ?_
  refine lv_iload_n hx hb d_X0_init_2 rfl (lv_at hl 2 rfl) ?_
  refine lv_iload_n hx hb d_X0_init_3 rfl (lv_at hl 3 rfl) ?_
  refine lv_iload hx hb d_X0_init_4 (lv_at hl 4 rfl) ?_
  refine lv_aload hx hb d_X0_init_6 (lv_at hl 5 rfl) ?_
  refine mk_callI (As := [.int x, .int y, .int z, .int w, .ref b]) (rest := []) (q := a) (k := 5) Z (k_X4_init_0 (ids := ids) (D := D) _) hK hP hD hS hA (isC := [0]) (isR := []) (wc := [(a, .inr (0, [.int 0, .int 0, .int 0, .int 0, .int 0, .int 0, .int 0, .int 0, .int 0, .null]))]) (wr := []) rfl rfl rfl rfl (by decide) rfl kw_451 kw_398 kw_13 kw_399 yd_X4_init rfl (by decide) (by decide) hl.1 (Nat.le_of_ble_eq_true rfl) d_X0_init_8 (by show _ ≤ 0; omega) (by show _ ≤ 0; omega) rfl (fun u8 H locs hP hD hS => ?_)
  have hP : va_P D fm_cls [(a, .inr (0, [.int x, .int y, .int z, .int w, .int 0, .int 0, .int 0, .int 0, .int 0, .ref b]))] H := hP
  have hD : va_D (va_A [(a, .inr (0, [.int 0, .int 0, .int 0, .int 0, .int 0, .int 0, .int 0, .int 0, .int 0, .null]))] s.heap.size) [(a, .inr (0, [.int x, .int y, .int z, .int w, .int 0, .int 0, .int 0, .int 0, .int 0, .ref b]))] := hD
  refine mk_ret (w0 := [(a, .inr (0, [.int 0, .int 0, .int 0, .int 0, .int 0, .int 0, .int 0, .int 0, .int 0, .null]))]) (post := (fun u : Nat → Nat => [(a, .inr (0, [.int x, .int y, .int z, .int w, .int 0, .int 0, .int 0, .int 0, .int 0, .ref b]))])) Z hr hlk hP hD hS (fun i => ([] : List Nat).getD i 0) rfl ?_ ?_ d_X0_init_11
  · show _ ≤ 0; omega
  · show _ ≤ 0; first | decide +kernel | omega
theorem k_X9_init_9 {l : Launch} {D : va_G} {ids : Nat → ClassId} {a b : Nat} {x y z w : Int32} (sz : Nat) : mk_M l y_X9_init prog_11_method_1_code 6 3 2 8 D ids [(a, .inr (9, [.int 0, .int 0, .int 0, .int 0, .int 0, .int 0, .int 0, .int 0, .int 0, .null, .null, .null]))] [.ref a, .int x, .int y, .int z, .int w, .ref b] sz (fun u : Nat → Nat => [(a, .inr (9, [.int x, .int y, .int z, .int w, .int 0, .int 0, .int 0, .int 0, .int 0, .ref b, .ref (u 0), .ref (u 1)])), ((u 0), .inl (ids 13, 4, .inl (fun _ => 0))), ((u 1), .inl (ids 13, 4, .inl (fun _ => 0)))]) := by
  unfold mk_M
  refine mk_open rfl (Nat.le_of_ble_eq_true rfl) (fun p e s m args below meth c ls Z hr hlk hname hK hP hD hS hA hl hsz => ?_)
  subst hsz
  obtain ⟨hx, hb, hml, hown, hts⟩ := id Z
  have hl : lv_has ls 6 [(0, .ref a), (1, .int x), (2, .int y), (3, .int z), (4, .int w), (5, .ref b)] := hl
  refine lv_aload_n hx hb d_X9_init_0 rfl (lv_at hl 0 rfl) ?_
  refine lv_iload_n hx hb d_X9_init_1 rfl (lv_at hl 1 rfl) ?_
  refine lv_iload_n hx hb d_X9_init_2 rfl (lv_at hl 2 rfl) ?_
  refine lv_iload_n hx hb d_X9_init_3 rfl (lv_at hl 3 rfl) ?_
  refine lv_iload hx hb d_X9_init_4 (lv_at hl 4 rfl) ?_
  refine lv_aload hx hb d_X9_init_6 (lv_at hl 5 rfl) ?_
  refine mk_callI (As := [.int x, .int y, .int z, .int w, .ref b]) (rest := []) (q := a) (k := 5) Z (k_X7_init_9 (ids := ids) (D := D) _) hK hP hD hS hA (isC := [0]) (isR := []) (wc := [(a, .inr (9, [.int 0, .int 0, .int 0, .int 0, .int 0, .int 0, .int 0, .int 0, .int 0, .null, .null, .null]))]) (wr := []) rfl rfl rfl rfl (by decide) rfl kw_468 kw_415 kw_14 kw_416 yd_X7_init rfl (by decide) (by decide) hl.1 (Nat.le_of_ble_eq_true rfl) d_X9_init_8 (by show _ ≤ 2; omega) (by show _ ≤ 8; omega) rfl (fun u8 H locs hP hD hS => ?_)
  have hP : va_P D fm_cls [(a, .inr (9, [.int x, .int y, .int z, .int w, .int 0, .int 0, .int 0, .int 0, .int 0, .ref b, .null, .null]))] H := hP
  have hD : va_D (va_A [(a, .inr (9, [.int 0, .int 0, .int 0, .int 0, .int 0, .int 0, .int 0, .int 0, .int 0, .null, .null, .null]))] s.heap.size) [(a, .inr (9, [.int x, .int y, .int z, .int w, .int 0, .int 0, .int 0, .int 0, .int 0, .ref b, .null, .null]))] := hD
  refine lv_aload_n hx hb d_X9_init_11 rfl (lv_at hl 0 rfl) ?_
  refine lv_iconst (v := 4) hx hb d_X9_init_12 (by decide) ?_
  refine mk_newa (L := 4) Z kw_77 hK hP hD hS hA (show (4 : Int32) = nI 4 by decide) (by decide) (by show _ ≤ 2; omega) (by show _ ≤ 8; omega) d_X9_init_13 (fun q13 H hP hD hS => ?_)
  have hP : va_P D fm_cls [(a, .inr (9, [.int x, .int y, .int z, .int w, .int 0, .int 0, .int 0, .int 0, .int 0, .ref b, .null, .null])), (q13, .inl (ids 13, 4, .inl (fun _ => 0)))] H := hP
  have hD : va_D (va_A [(a, .inr (9, [.int 0, .int 0, .int 0, .int 0, .int 0, .int 0, .int 0, .int 0, .int 0, .null, .null, .null]))] s.heap.size) [(a, .inr (9, [.int x, .int y, .int z, .int w, .int 0, .int 0, .int 0, .int 0, .int 0, .ref b, .null, .null])), (q13, .inl (ids 13, 4, .inl (fun _ => 0)))] := hD
  refine mk_putF (ci := 9) (k := 10) (fs := [.int x, .int y, .int z, .int w, .int 0, .int 0, .int 0, .int 0, .int 0, .ref b, .null, .null]) Z hK hP hD hS 0 rfl (by decide) mf_X9_9_9 rfl hname rfl rfl rfl (Nat.le_of_ble_eq_true rfl) d_X9_init_15 (fun H locs hP hD hS => ?_)
  have hP : va_P D fm_cls [(a, .inr (9, [.int x, .int y, .int z, .int w, .int 0, .int 0, .int 0, .int 0, .int 0, .ref b, .ref q13, .null])), (q13, .inl (ids 13, 4, .inl (fun _ => 0)))] H := hP
  have hD : va_D (va_A [(a, .inr (9, [.int 0, .int 0, .int 0, .int 0, .int 0, .int 0, .int 0, .int 0, .int 0, .null, .null, .null]))] s.heap.size) [(a, .inr (9, [.int x, .int y, .int z, .int w, .int 0, .int 0, .int 0, .int 0, .int 0, .ref b, .ref q13, .null])), (q13, .inl (ids 13, 4, .inl (fun _ => 0)))] := hD
  refine lv_aload_n hx hb d_X9_init_18 rfl (lv_at hl 0 rfl) ?_
  refine lv_iconst (v := 4) hx hb d_X9_init_19 (by decide) ?_
  refine mk_newa (L := 4) Z kw_77 hK hP hD hS hA (show (4 : Int32) = nI 4 by decide) (by decide) (by show _ ≤ 2; omega) (by show _ ≤ 8; omega) d_X9_init_20 (fun q20 H hP hD hS => ?_)
  have hP : va_P D fm_cls [(a, .inr (9, [.int x, .int y, .int z, .int w, .int 0, .int 0, .int 0, .int 0, .int 0, .ref b, .ref q13, .null])), (q13, .inl (ids 13, 4, .inl (fun _ => 0))), (q20, .inl (ids 13, 4, .inl (fun _ => 0)))] H := hP
  have hD : va_D (va_A [(a, .inr (9, [.int 0, .int 0, .int 0, .int 0, .int 0, .int 0, .int 0, .int 0, .int 0, .null, .null, .null]))] s.heap.size) [(a, .inr (9, [.int x, .int y, .int z, .int w, .int 0, .int 0, .int 0, .int 0, .int 0, .ref b, .ref q13, .null])), (q13, .inl (ids 13, 4, .inl (fun _ => 0))), (q20, .inl (ids 13, 4, .inl (fun _ => 0)))] := hD
  refine mk_putF (ci := 9) (k := 11) (fs := [.int x, .int y, .int z, .int w, .int 0, .int 0, .int 0, .int 0, .int 0, .ref b, .ref q13, .null]) Z hK hP hD hS 0 rfl (by decide) mf_X9_13_9 rfl hname rfl rfl rfl (Nat.le_of_ble_eq_true rfl) d_X9_init_22 (fun H locs hP hD hS => ?_)
  have hP : va_P D fm_cls [(a, .inr (9, [.int x, .int y, .int z, .int w, .int 0, .int 0, .int 0, .int 0, .int 0, .ref b, .ref q13, .ref q20])), (q13, .inl (ids 13, 4, .inl (fun _ => 0))), (q20, .inl (ids 13, 4, .inl (fun _ => 0)))] H := hP
  have hD : va_D (va_A [(a, .inr (9, [.int 0, .int 0, .int 0, .int 0, .int 0, .int 0, .int 0, .int 0, .int 0, .null, .null, .null]))] s.heap.size) [(a, .inr (9, [.int x, .int y, .int z, .int w, .int 0, .int 0, .int 0, .int 0, .int 0, .ref b, .ref q13, .ref q20])), (q13, .inl (ids 13, 4, .inl (fun _ => 0))), (q20, .inl (ids 13, 4, .inl (fun _ => 0)))] := hD
  refine mk_ret (w0 := [(a, .inr (9, [.int 0, .int 0, .int 0, .int 0, .int 0, .int 0, .int 0, .int 0, .int 0, .null, .null, .null]))]) (post := (fun u : Nat → Nat => [(a, .inr (9, [.int x, .int y, .int z, .int w, .int 0, .int 0, .int 0, .int 0, .int 0, .ref b, .ref (u 0), .ref (u 1)])), ((u 0), .inl (ids 13, 4, .inl (fun _ => 0))), ((u 1), .inl (ids 13, 4, .inl (fun _ => 0)))])) Z hr hlk hP hD hS (fun i => ([q13, q20] : List Nat).getD i 0) rfl ?_ ?_ d_X9_init_25
  · show _ ≤ 2; omega
  · show _ ≤ 8; first | decide +kernel | omega
theorem k_X1_init {l : Launch} {D : va_G} {ids : Nat → ClassId} {a b d : Nat} (sz : Nat) : mk_M l y_X1_init prog_3_method_1_code 3 1 2 28 D ids [(a, .inr (1, [.null, .null, .int 0, .int 0, .int 0, .int 0, .int 0, .int 0, .null, .null]))] [.ref a, .ref b, .ref d] sz (fun u : Nat → Nat => [(a, .inr (1, [.ref b, .ref d, .int 0, .int 0, .int 0, .int 0, .int 0, .int 0, .ref (u 0), .ref (u 1)])), ((u 0), .inl (ids 13, 12, .inl (fun _ => 0))), ((u 1), .inl (ids 13, 16, .inl (fun _ => 0)))]) := by
  unfold mk_M
  refine mk_open rfl (Nat.le_of_ble_eq_true rfl) (fun p e s m args below meth c ls Z hr hlk hname hK hP hD hS hA hl hsz => ?_)
  subst hsz
  obtain ⟨hx, hb, hml, hown, hts⟩ := id Z
  have hl : lv_has ls 3 [(0, .ref a), (1, .ref b), (2, .ref d)] := hl
  refine lv_aload_n hx hb d_X1_init_0 rfl (lv_at hl 0 rfl) ?_
  refine mk_obj Z hl.1 kw_503 kw_27 kw_28 (by decide) d_X1_init_1 ?_
  refine lv_aload_n hx hb d_X1_init_4 rfl (lv_at hl 0 rfl) ?_
  refine lv_iconst (v := 0) hx hb d_X1_init_5 (by decide) ?_
  refine mk_put (ci := 1) (k := 2) (fs := [.null, .null, .int 0, .int 0, .int 0, .int 0, .int 0, .int 0, .null, .null]) Z hK hP hD hS 0 rfl (by decide) mf_X1_9_1 rfl rfl rfl (Nat.le_of_ble_eq_true rfl) d_X1_init_6 (fun H locs hP hD hS => ?_)
  have hP : va_P D fm_cls [(a, .inr (1, [.null, .null, .int 0, .int 0, .int 0, .int 0, .int 0, .int 0, .null, .null]))] H := hP
  have hD : va_D (va_A [(a, .inr (1, [.null, .null, .int 0, .int 0, .int 0, .int 0, .int 0, .int 0, .null, .null]))] s.heap.size) [(a, .inr (1, [.null, .null, .int 0, .int 0, .int 0, .int 0, .int 0, .int 0, .null, .null]))] := hD
  refine lv_aload_n hx hb d_X1_init_9 rfl (lv_at hl 0 rfl) ?_
  refine lv_iconst (v := 0) hx hb d_X1_init_10 (by decide) ?_
  refine mk_put (ci := 1) (k := 3) (fs := [.null, .null, .int 0, .int 0, .int 0, .int 0, .int 0, .int 0, .null, .null]) Z hK hP hD hS 0 rfl (by decide) mf_X1_15_1 rfl rfl rfl (Nat.le_of_ble_eq_true rfl) d_X1_init_11 (fun H locs hP hD hS => ?_)
  have hP : va_P D fm_cls [(a, .inr (1, [.null, .null, .int 0, .int 0, .int 0, .int 0, .int 0, .int 0, .null, .null]))] H := hP
  have hD : va_D (va_A [(a, .inr (1, [.null, .null, .int 0, .int 0, .int 0, .int 0, .int 0, .int 0, .null, .null]))] s.heap.size) [(a, .inr (1, [.null, .null, .int 0, .int 0, .int 0, .int 0, .int 0, .int 0, .null, .null]))] := hD
  refine lv_aload_n hx hb d_X1_init_14 rfl (lv_at hl 0 rfl) ?_
  refine lv_iconst (v := 0) hx hb d_X1_init_15 (by decide) ?_
  refine mk_put (ci := 1) (k := 4) (fs := [.null, .null, .int 0, .int 0, .int 0, .int 0, .int 0, .int 0, .null, .null]) Z hK hP hD hS 0 rfl (by decide) mf_X1_18_1 rfl rfl rfl (Nat.le_of_ble_eq_true rfl) d_X1_init_16 (fun H locs hP hD hS => ?_)
  have hP : va_P D fm_cls [(a, .inr (1, [.null, .null, .int 0, .int 0, .int 0, .int 0, .int 0, .int 0, .null, .null]))] H := hP
  have hD : va_D (va_A [(a, .inr (1, [.null, .null, .int 0, .int 0, .int 0, .int 0, .int 0, .int 0, .null, .null]))] s.heap.size) [(a, .inr (1, [.null, .null, .int 0, .int 0, .int 0, .int 0, .int 0, .int 0, .null, .null]))] := hD
  refine lv_aload_n hx hb d_X1_init_19 rfl (lv_at hl 0 rfl) ?_
  refine lv_iconst (v := 0) hx hb d_X1_init_20 (by decide) ?_
  refine mk_put (ci := 1) (k := 5) (fs := [.null, .null, .int 0, .int 0, .int 0, .int 0, .int 0, .int 0, .null, .null]) Z hK hP hD hS 0 rfl (by decide) mf_X1_21_1 rfl rfl rfl (Nat.le_of_ble_eq_true rfl) d_X1_init_21 (fun H locs hP hD hS => ?_)
  have hP : va_P D fm_cls [(a, .inr (1, [.null, .null, .int 0, .int 0, .int 0, .int 0, .int 0, .int 0, .null, .null]))] H := hP
  have hD : va_D (va_A [(a, .inr (1, [.null, .null, .int 0, .int 0, .int 0, .int 0, .int 0, .int 0, .null, .null]))] s.heap.size) [(a, .inr (1, [.null, .null, .int 0, .int 0, .int 0, .int 0, .int 0, .int 0, .null, .null]))] := hD
  refine lv_aload_n hx hb d_X1_init_24 rfl (lv_at hl 0 rfl) ?_
  refine lv_iconst (v := 0) hx hb d_X1_init_25 (by decide) ?_
  refine mk_put (ci := 1) (k := 6) (fs := [.null, .null, .int 0, .int 0, .int 0, .int 0, .int 0, .int 0, .null, .null]) Z hK hP hD hS 0 rfl (by decide) mf_X1_24_1 rfl rfl rfl (Nat.le_of_ble_eq_true rfl) d_X1_init_26 (fun H locs hP hD hS => ?_)
  have hP : va_P D fm_cls [(a, .inr (1, [.null, .null, .int 0, .int 0, .int 0, .int 0, .int 0, .int 0, .null, .null]))] H := hP
  have hD : va_D (va_A [(a, .inr (1, [.null, .null, .int 0, .int 0, .int 0, .int 0, .int 0, .int 0, .null, .null]))] s.heap.size) [(a, .inr (1, [.null, .null, .int 0, .int 0, .int 0, .int 0, .int 0, .int 0, .null, .null]))] := hD
  refine lv_aload_n hx hb d_X1_init_29 rfl (lv_at hl 0 rfl) ?_
  refine lv_iconst (v := 0) hx hb d_X1_init_30 (by decide) ?_
  refine mk_put (ci := 1) (k := 7) (fs := [.null, .null, .int 0, .int 0, .int 0, .int 0, .int 0, .int 0, .null, .null]) Z hK hP hD hS 0 rfl (by decide) mf_X1_27_1 rfl rfl rfl (Nat.le_of_ble_eq_true rfl) d_X1_init_31 (fun H locs hP hD hS => ?_)
  have hP : va_P D fm_cls [(a, .inr (1, [.null, .null, .int 0, .int 0, .int 0, .int 0, .int 0, .int 0, .null, .null]))] H := hP
  have hD : va_D (va_A [(a, .inr (1, [.null, .null, .int 0, .int 0, .int 0, .int 0, .int 0, .int 0, .null, .null]))] s.heap.size) [(a, .inr (1, [.null, .null, .int 0, .int 0, .int 0, .int 0, .int 0, .int 0, .null, .null]))] := hD
  refine lv_aload_n hx hb d_X1_init_34 rfl (lv_at hl 0 rfl) ?_
  refine lv_bipush (v := 12) hx hb d_X1_init_35 (by decide) ?_
  refine mk_newa (L := 12) Z kw_77 hK hP hD hS hA (show (12 : Int32) = nI 12 by decide) (by decide) (by show _ ≤ 2; omega) (by show _ ≤ 28; omega) d_X1_init_37 (fun q37 H hP hD hS => ?_)
  have hP : va_P D fm_cls [(a, .inr (1, [.null, .null, .int 0, .int 0, .int 0, .int 0, .int 0, .int 0, .null, .null])), (q37, .inl (ids 13, 12, .inl (fun _ => 0)))] H := hP
  have hD : va_D (va_A [(a, .inr (1, [.null, .null, .int 0, .int 0, .int 0, .int 0, .int 0, .int 0, .null, .null]))] s.heap.size) [(a, .inr (1, [.null, .null, .int 0, .int 0, .int 0, .int 0, .int 0, .int 0, .null, .null])), (q37, .inl (ids 13, 12, .inl (fun _ => 0)))] := hD
  refine mk_putF (ci := 1) (k := 8) (fs := [.null, .null, .int 0, .int 0, .int 0, .int 0, .int 0, .int 0, .null, .null]) Z hK hP hD hS 0 rfl (by decide) mf_X1_31_1 rfl hname rfl rfl rfl (Nat.le_of_ble_eq_true rfl) d_X1_init_39 (fun H locs hP hD hS => ?_)
  have hP : va_P D fm_cls [(a, .inr (1, [.null, .null, .int 0, .int 0, .int 0, .int 0, .int 0, .int 0, .ref q37, .null])), (q37, .inl (ids 13, 12, .inl (fun _ => 0)))] H := hP
  have hD : va_D (va_A [(a, .inr (1, [.null, .null, .int 0, .int 0, .int 0, .int 0, .int 0, .int 0, .null, .null]))] s.heap.size) [(a, .inr (1, [.null, .null, .int 0, .int 0, .int 0, .int 0, .int 0, .int 0, .ref q37, .null])), (q37, .inl (ids 13, 12, .inl (fun _ => 0)))] := hD
  refine lv_aload_n hx hb d_X1_init_42 rfl (lv_at hl 0 rfl) ?_
  refine lv_bipush (v := 16) hx hb d_X1_init_43 (by decide) ?_
  refine mk_newa (L := 16) Z kw_77 hK hP hD hS hA (show (16 : Int32) = nI 16 by decide) (by decide) (by show _ ≤ 2; omega) (by show _ ≤ 28; omega) d_X1_init_45 (fun q45 H hP hD hS => ?_)
  have hP : va_P D fm_cls [(a, .inr (1, [.null, .null, .int 0, .int 0, .int 0, .int 0, .int 0, .int 0, .ref q37, .null])), (q37, .inl (ids 13, 12, .inl (fun _ => 0))), (q45, .inl (ids 13, 16, .inl (fun _ => 0)))] H := hP
  have hD : va_D (va_A [(a, .inr (1, [.null, .null, .int 0, .int 0, .int 0, .int 0, .int 0, .int 0, .null, .null]))] s.heap.size) [(a, .inr (1, [.null, .null, .int 0, .int 0, .int 0, .int 0, .int 0, .int 0, .ref q37, .null])), (q37, .inl (ids 13, 12, .inl (fun _ => 0))), (q45, .inl (ids 13, 16, .inl (fun _ => 0)))] := hD
  refine mk_putF (ci := 1) (k := 9) (fs := [.null, .null, .int 0, .int 0, .int 0, .int 0, .int 0, .int 0, .ref q37, .null]) Z hK hP hD hS 0 rfl (by decide) mf_X1_35_1 rfl hname rfl rfl rfl (Nat.le_of_ble_eq_true rfl) d_X1_init_47 (fun H locs hP hD hS => ?_)
  have hP : va_P D fm_cls [(a, .inr (1, [.null, .null, .int 0, .int 0, .int 0, .int 0, .int 0, .int 0, .ref q37, .ref q45])), (q37, .inl (ids 13, 12, .inl (fun _ => 0))), (q45, .inl (ids 13, 16, .inl (fun _ => 0)))] H := hP
  have hD : va_D (va_A [(a, .inr (1, [.null, .null, .int 0, .int 0, .int 0, .int 0, .int 0, .int 0, .null, .null]))] s.heap.size) [(a, .inr (1, [.null, .null, .int 0, .int 0, .int 0, .int 0, .int 0, .int 0, .ref q37, .ref q45])), (q37, .inl (ids 13, 12, .inl (fun _ => 0))), (q45, .inl (ids 13, 16, .inl (fun _ => 0)))] := hD
  refine lv_aload_n hx hb d_X1_init_50 rfl (lv_at hl 0 rfl) ?_
  refine lv_aload_n hx hb d_X1_init_51 rfl (lv_at hl 1 rfl) ?_
  refine mk_putF (ci := 1) (k := 0) (fs := [.null, .null, .int 0, .int 0, .int 0, .int 0, .int 0, .int 0, .ref q37, .ref q45]) Z hK hP hD hS 0 rfl (by decide) mf_X1_38_1 rfl hname rfl rfl rfl (Nat.le_of_ble_eq_true rfl) d_X1_init_52 (fun H locs hP hD hS => ?_)
  have hP : va_P D fm_cls [(a, .inr (1, [.ref b, .null, .int 0, .int 0, .int 0, .int 0, .int 0, .int 0, .ref q37, .ref q45])), (q37, .inl (ids 13, 12, .inl (fun _ => 0))), (q45, .inl (ids 13, 16, .inl (fun _ => 0)))] H := hP
  have hD : va_D (va_A [(a, .inr (1, [.null, .null, .int 0, .int 0, .int 0, .int 0, .int 0, .int 0, .null, .null]))] s.heap.size) [(a, .inr (1, [.ref b, .null, .int 0, .int 0, .int 0, .int 0, .int 0, .int 0, .ref q37, .ref q45])), (q37, .inl (ids 13, 12, .inl (fun _ => 0))), (q45, .inl (ids 13, 16, .inl (fun _ => 0)))] := hD
  refine lv_aload_n hx hb d_X1_init_55 rfl (lv_at hl 0 rfl) ?_
  refine lv_aload_n hx hb d_X1_init_56 rfl (lv_at hl 2 rfl) ?_
  refine mk_put (ci := 1) (k := 1) (fs := [.ref b, .null, .int 0, .int 0, .int 0, .int 0, .int 0, .int 0, .ref q37, .ref q45]) Z hK hP hD hS 0 rfl (by decide) mf_X1_42_1 rfl rfl rfl (Nat.le_of_ble_eq_true rfl) d_X1_init_57 (fun H locs hP hD hS => ?_)
  have hP : va_P D fm_cls [(a, .inr (1, [.ref b, .ref d, .int 0, .int 0, .int 0, .int 0, .int 0, .int 0, .ref q37, .ref q45])), (q37, .inl (ids 13, 12, .inl (fun _ => 0))), (q45, .inl (ids 13, 16, .inl (fun _ => 0)))] H := hP
  have hD : va_D (va_A [(a, .inr (1, [.null, .null, .int 0, .int 0, .int 0, .int 0, .int 0, .int 0, .null, .null]))] s.heap.size) [(a, .inr (1, [.ref b, .ref d, .int 0, .int 0, .int 0, .int 0, .int 0, .int 0, .ref q37, .ref q45])), (q37, .inl (ids 13, 12, .inl (fun _ => 0))), (q45, .inl (ids 13, 16, .inl (fun _ => 0)))] := hD
  refine mk_ret (w0 := [(a, .inr (1, [.null, .null, .int 0, .int 0, .int 0, .int 0, .int 0, .int 0, .null, .null]))]) (post := (fun u : Nat → Nat => [(a, .inr (1, [.ref b, .ref d, .int 0, .int 0, .int 0, .int 0, .int 0, .int 0, .ref (u 0), .ref (u 1)])), ((u 0), .inl (ids 13, 12, .inl (fun _ => 0))), ((u 1), .inl (ids 13, 16, .inl (fun _ => 0)))])) Z hr hlk hP hD hS (fun i => ([q37, q45] : List Nat).getD i 0) rfl ?_ ?_ d_X1_init_60
  · show _ ≤ 2; omega
  · show _ ≤ 28; first | decide +kernel | omega
theorem k_X12_init {l : Launch} {D : va_G} {ids : Nat → ClassId} {a : Nat} (sz : Nat) : mk_M l y_X12_init prog_14_method_1_code 1 1 9 2113 D ids [(a, .inr (12, [.int 0, .null, .null, .null, .int 0, .int 0, .int 0, .int 0, .int 0, .int 0, .null, .null, .null, .null, .null, .int 0, .null, .int 0, .int 0, .int 0, .int 0]))] [.ref a] sz (fun u : Nat → Nat => [(a, .inr (12, [.int 0, .ref (u 0), .ref (u 1), .ref (u 2), .int 0, .int 0, .int 0, .int 0, .int 0, .int 0, .ref (u 3), .ref (u 4), .ref (u 5), .ref (u 6), .ref (u 7), .int 0, .ref (u 8), .int 0, .int 0, .int 0, .int 0])), ((u 0), .inl (ids 13, 926, .inl (upd (upd (fun _ => 0) (27 : Int32).toNatClampNeg (-1)) (1 : Int32).toNatClampNeg 5))), ((u 1), .inl (ids 13, 926, .inl (fun _ => 0))), ((u 2), .inl (ids 13, 21, .inl (fun _ => 0))), ((u 3), .inl (ids 13, 6, .inl (fun _ => 0))), ((u 4), .inl (ids 14, 64, .inl (fun _ => 0))), ((u 5), .inl (ids 13, 144, .inl (fun _ => 0))), ((u 6), .inl (ids 13, 3, .inl (fun _ => 0))), ((u 7), .inl (ids 13, 3, .inl (fun _ => 0))), ((u 8), .inl (ids 13, 20, .inl (fun _ => 0)))]) := by
  unfold mk_M
  refine mk_open rfl (Nat.le_of_ble_eq_true rfl) (fun p e s m args below meth c ls Z hr hlk hname hK hP hD hS hA hl hsz => ?_)
  subst hsz
  obtain ⟨hx, hb, hml, hown, hts⟩ := id Z
  have hl : lv_has ls 1 [(0, .ref a)] := hl
  refine lv_aload_n hx hb d_X12_init_0 rfl (lv_at hl 0 rfl) ?_
  refine mk_obj Z hl.1 kw_935 kw_27 kw_28 (by decide) d_X12_init_1 ?_
  refine lv_aload_n hx hb d_X12_init_4 rfl (lv_at hl 0 rfl) ?_
  refine lv_sipush (v := 926) hx hb d_X12_init_5 (by decide) ?_
  refine mk_newa (L := 926) Z kw_77 hK hP hD hS hA (show (926 : Int32) = nI 926 by decide) (by decide) (by show _ ≤ 9; omega) (by show _ ≤ 2113; omega) d_X12_init_8 (fun q8 H hP hD hS => ?_)
  have hP : va_P D fm_cls [(a, .inr (12, [.int 0, .null, .null, .null, .int 0, .int 0, .int 0, .int 0, .int 0, .int 0, .null, .null, .null, .null, .null, .int 0, .null, .int 0, .int 0, .int 0, .int 0])), (q8, .inl (ids 13, 926, .inl (fun _ => 0)))] H := hP
  have hD : va_D (va_A [(a, .inr (12, [.int 0, .null, .null, .null, .int 0, .int 0, .int 0, .int 0, .int 0, .int 0, .null, .null, .null, .null, .null, .int 0, .null, .int 0, .int 0, .int 0, .int 0]))] s.heap.size) [(a, .inr (12, [.int 0, .null, .null, .null, .int 0, .int 0, .int 0, .int 0, .int 0, .int 0, .null, .null, .null, .null, .null, .int 0, .null, .int 0, .int 0, .int 0, .int 0])), (q8, .inl (ids 13, 926, .inl (fun _ => 0)))] := hD
  refine mk_putF (ci := 12) (k := 1) (fs := [.int 0, .null, .null, .null, .int 0, .int 0, .int 0, .int 0, .int 0, .int 0, .null, .null, .null, .null, .null, .int 0, .null, .int 0, .int 0, .int 0, .int 0]) Z hK hP hD hS 0 rfl (by decide) mf_X12_9_12 rfl hname rfl rfl rfl (Nat.le_of_ble_eq_true rfl) d_X12_init_10 (fun H locs hP hD hS => ?_)
  have hP : va_P D fm_cls [(a, .inr (12, [.int 0, .ref q8, .null, .null, .int 0, .int 0, .int 0, .int 0, .int 0, .int 0, .null, .null, .null, .null, .null, .int 0, .null, .int 0, .int 0, .int 0, .int 0])), (q8, .inl (ids 13, 926, .inl (fun _ => 0)))] H := hP
  have hD : va_D (va_A [(a, .inr (12, [.int 0, .null, .null, .null, .int 0, .int 0, .int 0, .int 0, .int 0, .int 0, .null, .null, .null, .null, .null, .int 0, .null, .int 0, .int 0, .int 0, .int 0]))] s.heap.size) [(a, .inr (12, [.int 0, .ref q8, .null, .null, .int 0, .int 0, .int 0, .int 0, .int 0, .int 0, .null, .null, .null, .null, .null, .int 0, .null, .int 0, .int 0, .int 0, .int 0])), (q8, .inl (ids 13, 926, .inl (fun _ => 0)))] := hD
  refine lv_aload_n hx hb d_X12_init_13 rfl (lv_at hl 0 rfl) ?_
  refine lv_sipush (v := 926) hx hb d_X12_init_14 (by decide) ?_
  refine mk_newa (L := 926) Z kw_77 hK hP hD hS hA (show (926 : Int32) = nI 926 by decide) (by decide) (by show _ ≤ 9; omega) (by show _ ≤ 2113; omega) d_X12_init_17 (fun q17 H hP hD hS => ?_)
  have hP : va_P D fm_cls [(a, .inr (12, [.int 0, .ref q8, .null, .null, .int 0, .int 0, .int 0, .int 0, .int 0, .int 0, .null, .null, .null, .null, .null, .int 0, .null, .int 0, .int 0, .int 0, .int 0])), (q8, .inl (ids 13, 926, .inl (fun _ => 0))), (q17, .inl (ids 13, 926, .inl (fun _ => 0)))] H := hP
  have hD : va_D (va_A [(a, .inr (12, [.int 0, .null, .null, .null, .int 0, .int 0, .int 0, .int 0, .int 0, .int 0, .null, .null, .null, .null, .null, .int 0, .null, .int 0, .int 0, .int 0, .int 0]))] s.heap.size) [(a, .inr (12, [.int 0, .ref q8, .null, .null, .int 0, .int 0, .int 0, .int 0, .int 0, .int 0, .null, .null, .null, .null, .null, .int 0, .null, .int 0, .int 0, .int 0, .int 0])), (q8, .inl (ids 13, 926, .inl (fun _ => 0))), (q17, .inl (ids 13, 926, .inl (fun _ => 0)))] := hD
  refine mk_putF (ci := 12) (k := 2) (fs := [.int 0, .ref q8, .null, .null, .int 0, .int 0, .int 0, .int 0, .int 0, .int 0, .null, .null, .null, .null, .null, .int 0, .null, .int 0, .int 0, .int 0, .int 0]) Z hK hP hD hS 0 rfl (by decide) mf_X12_15_12 rfl hname rfl rfl rfl (Nat.le_of_ble_eq_true rfl) d_X12_init_19 (fun H locs hP hD hS => ?_)
  have hP : va_P D fm_cls [(a, .inr (12, [.int 0, .ref q8, .ref q17, .null, .int 0, .int 0, .int 0, .int 0, .int 0, .int 0, .null, .null, .null, .null, .null, .int 0, .null, .int 0, .int 0, .int 0, .int 0])), (q8, .inl (ids 13, 926, .inl (fun _ => 0))), (q17, .inl (ids 13, 926, .inl (fun _ => 0)))] H := hP
  have hD : va_D (va_A [(a, .inr (12, [.int 0, .null, .null, .null, .int 0, .int 0, .int 0, .int 0, .int 0, .int 0, .null, .null, .null, .null, .null, .int 0, .null, .int 0, .int 0, .int 0, .int 0]))] s.heap.size) [(a, .inr (12, [.int 0, .ref q8, .ref q17, .null, .int 0, .int 0, .int 0, .int 0, .int 0, .int 0, .null, .null, .null, .null, .null, .int 0, .null, .int 0, .int 0, .int 0, .int 0])), (q8, .inl (ids 13, 926, .inl (fun _ => 0))), (q17, .inl (ids 13, 926, .inl (fun _ => 0)))] := hD
  refine lv_aload_n hx hb d_X12_init_22 rfl (lv_at hl 0 rfl) ?_
  refine lv_bipush (v := 21) hx hb d_X12_init_23 (by decide) ?_
  refine mk_newa (L := 21) Z kw_77 hK hP hD hS hA (show (21 : Int32) = nI 21 by decide) (by decide) (by show _ ≤ 9; omega) (by show _ ≤ 2113; omega) d_X12_init_25 (fun q25 H hP hD hS => ?_)
  have hP : va_P D fm_cls [(a, .inr (12, [.int 0, .ref q8, .ref q17, .null, .int 0, .int 0, .int 0, .int 0, .int 0, .int 0, .null, .null, .null, .null, .null, .int 0, .null, .int 0, .int 0, .int 0, .int 0])), (q8, .inl (ids 13, 926, .inl (fun _ => 0))), (q17, .inl (ids 13, 926, .inl (fun _ => 0))), (q25, .inl (ids 13, 21, .inl (fun _ => 0)))] H := hP
  have hD : va_D (va_A [(a, .inr (12, [.int 0, .null, .null, .null, .int 0, .int 0, .int 0, .int 0, .int 0, .int 0, .null, .null, .null, .null, .null, .int 0, .null, .int 0, .int 0, .int 0, .int 0]))] s.heap.size) [(a, .inr (12, [.int 0, .ref q8, .ref q17, .null, .int 0, .int 0, .int 0, .int 0, .int 0, .int 0, .null, .null, .null, .null, .null, .int 0, .null, .int 0, .int 0, .int 0, .int 0])), (q8, .inl (ids 13, 926, .inl (fun _ => 0))), (q17, .inl (ids 13, 926, .inl (fun _ => 0))), (q25, .inl (ids 13, 21, .inl (fun _ => 0)))] := hD
  refine mk_putF (ci := 12) (k := 3) (fs := [.int 0, .ref q8, .ref q17, .null, .int 0, .int 0, .int 0, .int 0, .int 0, .int 0, .null, .null, .null, .null, .null, .int 0, .null, .int 0, .int 0, .int 0, .int 0]) Z hK hP hD hS 0 rfl (by decide) mf_X12_18_12 rfl hname rfl rfl rfl (Nat.le_of_ble_eq_true rfl) d_X12_init_27 (fun H locs hP hD hS => ?_)
  have hP : va_P D fm_cls [(a, .inr (12, [.int 0, .ref q8, .ref q17, .ref q25, .int 0, .int 0, .int 0, .int 0, .int 0, .int 0, .null, .null, .null, .null, .null, .int 0, .null, .int 0, .int 0, .int 0, .int 0])), (q8, .inl (ids 13, 926, .inl (fun _ => 0))), (q17, .inl (ids 13, 926, .inl (fun _ => 0))), (q25, .inl (ids 13, 21, .inl (fun _ => 0)))] H := hP
  have hD : va_D (va_A [(a, .inr (12, [.int 0, .null, .null, .null, .int 0, .int 0, .int 0, .int 0, .int 0, .int 0, .null, .null, .null, .null, .null, .int 0, .null, .int 0, .int 0, .int 0, .int 0]))] s.heap.size) [(a, .inr (12, [.int 0, .ref q8, .ref q17, .ref q25, .int 0, .int 0, .int 0, .int 0, .int 0, .int 0, .null, .null, .null, .null, .null, .int 0, .null, .int 0, .int 0, .int 0, .int 0])), (q8, .inl (ids 13, 926, .inl (fun _ => 0))), (q17, .inl (ids 13, 926, .inl (fun _ => 0))), (q25, .inl (ids 13, 21, .inl (fun _ => 0)))] := hD
  refine lv_aload_n hx hb d_X12_init_30 rfl (lv_at hl 0 rfl) ?_
  refine lv_bipush (v := 6) hx hb d_X12_init_31 (by decide) ?_
  refine mk_newa (L := 6) Z kw_77 hK hP hD hS hA (show (6 : Int32) = nI 6 by decide) (by decide) (by show _ ≤ 9; omega) (by show _ ≤ 2113; omega) d_X12_init_33 (fun q33 H hP hD hS => ?_)
  have hP : va_P D fm_cls [(a, .inr (12, [.int 0, .ref q8, .ref q17, .ref q25, .int 0, .int 0, .int 0, .int 0, .int 0, .int 0, .null, .null, .null, .null, .null, .int 0, .null, .int 0, .int 0, .int 0, .int 0])), (q8, .inl (ids 13, 926, .inl (fun _ => 0))), (q17, .inl (ids 13, 926, .inl (fun _ => 0))), (q25, .inl (ids 13, 21, .inl (fun _ => 0))), (q33, .inl (ids 13, 6, .inl (fun _ => 0)))] H := hP
  have hD : va_D (va_A [(a, .inr (12, [.int 0, .null, .null, .null, .int 0, .int 0, .int 0, .int 0, .int 0, .int 0, .null, .null, .null, .null, .null, .int 0, .null, .int 0, .int 0, .int 0, .int 0]))] s.heap.size) [(a, .inr (12, [.int 0, .ref q8, .ref q17, .ref q25, .int 0, .int 0, .int 0, .int 0, .int 0, .int 0, .null, .null, .null, .null, .null, .int 0, .null, .int 0, .int 0, .int 0, .int 0])), (q8, .inl (ids 13, 926, .inl (fun _ => 0))), (q17, .inl (ids 13, 926, .inl (fun _ => 0))), (q25, .inl (ids 13, 21, .inl (fun _ => 0))), (q33, .inl (ids 13, 6, .inl (fun _ => 0)))] := hD
  refine mk_putF (ci := 12) (k := 10) (fs := [.int 0, .ref q8, .ref q17, .ref q25, .int 0, .int 0, .int 0, .int 0, .int 0, .int 0, .null, .null, .null, .null, .null, .int 0, .null, .int 0, .int 0, .int 0, .int 0]) Z hK hP hD hS 0 rfl (by decide) mf_X12_21_12 rfl hname rfl rfl rfl (Nat.le_of_ble_eq_true rfl) d_X12_init_35 (fun H locs hP hD hS => ?_)
  have hP : va_P D fm_cls [(a, .inr (12, [.int 0, .ref q8, .ref q17, .ref q25, .int 0, .int 0, .int 0, .int 0, .int 0, .int 0, .ref q33, .null, .null, .null, .null, .int 0, .null, .int 0, .int 0, .int 0, .int 0])), (q8, .inl (ids 13, 926, .inl (fun _ => 0))), (q17, .inl (ids 13, 926, .inl (fun _ => 0))), (q25, .inl (ids 13, 21, .inl (fun _ => 0))), (q33, .inl (ids 13, 6, .inl (fun _ => 0)))] H := hP
  have hD : va_D (va_A [(a, .inr (12, [.int 0, .null, .null, .null, .int 0, .int 0, .int 0, .int 0, .int 0, .int 0, .null, .null, .null, .null, .null, .int 0, .null, .int 0, .int 0, .int 0, .int 0]))] s.heap.size) [(a, .inr (12, [.int 0, .ref q8, .ref q17, .ref q25, .int 0, .int 0, .int 0, .int 0, .int 0, .int 0, .ref q33, .null, .null, .null, .null, .int 0, .null, .int 0, .int 0, .int 0, .int 0])), (q8, .inl (ids 13, 926, .inl (fun _ => 0))), (q17, .inl (ids 13, 926, .inl (fun _ => 0))), (q25, .inl (ids 13, 21, .inl (fun _ => 0))), (q33, .inl (ids 13, 6, .inl (fun _ => 0)))] := hD
  refine lv_aload_n hx hb d_X12_init_38 rfl (lv_at hl 0 rfl) ?_
  refine lv_bipush (v := 64) hx hb d_X12_init_39 (by decide) ?_
  refine mk_newz (L := 64) Z kw_999 hK hP hD hS hA (show (64 : Int32) = nI 64 by decide) (by decide) (by show _ ≤ 9; omega) (by show _ ≤ 2113; omega) d_X12_init_41 (fun q41 H hP hD hS => ?_)
  have hP : va_P D fm_cls [(a, .inr (12, [.int 0, .ref q8, .ref q17, .ref q25, .int 0, .int 0, .int 0, .int 0, .int 0, .int 0, .ref q33, .null, .null, .null, .null, .int 0, .null, .int 0, .int 0, .int 0, .int 0])), (q8, .inl (ids 13, 926, .inl (fun _ => 0))), (q17, .inl (ids 13, 926, .inl (fun _ => 0))), (q25, .inl (ids 13, 21, .inl (fun _ => 0))), (q33, .inl (ids 13, 6, .inl (fun _ => 0))), (q41, .inl (ids 14, 64, .inl (fun _ => 0)))] H := hP
  have hD : va_D (va_A [(a, .inr (12, [.int 0, .null, .null, .null, .int 0, .int 0, .int 0, .int 0, .int 0, .int 0, .null, .null, .null, .null, .null, .int 0, .null, .int 0, .int 0, .int 0, .int 0]))] s.heap.size) [(a, .inr (12, [.int 0, .ref q8, .ref q17, .ref q25, .int 0, .int 0, .int 0, .int 0, .int 0, .int 0, .ref q33, .null, .null, .null, .null, .int 0, .null, .int 0, .int 0, .int 0, .int 0])), (q8, .inl (ids 13, 926, .inl (fun _ => 0))), (q17, .inl (ids 13, 926, .inl (fun _ => 0))), (q25, .inl (ids 13, 21, .inl (fun _ => 0))), (q33, .inl (ids 13, 6, .inl (fun _ => 0))), (q41, .inl (ids 14, 64, .inl (fun _ => 0)))] := hD
  refine mk_putF (ci := 12) (k := 11) (fs := [.int 0, .ref q8, .ref q17, .ref q25, .int 0, .int 0, .int 0, .int 0, .int 0, .int 0, .ref q33, .null, .null, .null, .null, .int 0, .null, .int 0, .int 0, .int 0, .int 0]) Z hK hP hD hS 0 rfl (by decide) mf_X12_24_12 rfl hname rfl rfl rfl (Nat.le_of_ble_eq_true rfl) d_X12_init_43 (fun H locs hP hD hS => ?_)
  have hP : va_P D fm_cls [(a, .inr (12, [.int 0, .ref q8, .ref q17, .ref q25, .int 0, .int 0, .int 0, .int 0, .int 0, .int 0, .ref q33, .ref q41, .null, .null, .null, .int 0, .null, .int 0, .int 0, .int 0, .int 0])), (q8, .inl (ids 13, 926, .inl (fun _ => 0))), (q17, .inl (ids 13, 926, .inl (fun _ => 0))), (q25, .inl (ids 13, 21, .inl (fun _ => 0))), (q33, .inl (ids 13, 6, .inl (fun _ => 0))), (q41, .inl (ids 14, 64, .inl (fun _ => 0)))] H := hP
  have hD : va_D (va_A [(a, .inr (12, [.int 0, .null, .null, .null, .int 0, .int 0, .int 0, .int 0, .int 0, .int 0, .null, .null, .null, .null, .null, .int 0, .null, .int 0, .int 0, .int 0, .int 0]))] s.heap.size) [(a, .inr (12, [.int 0, .ref q8, .ref q17, .ref q25, .int 0, .int 0, .int 0, .int 0, .int 0, .int 0, .ref q33, .ref q41, .null, .null, .null, .int 0, .null, .int 0, .int 0, .int 0, .int 0])), (q8, .inl (ids 13, 926, .inl (fun _ => 0))), (q17, .inl (ids 13, 926, .inl (fun _ => 0))), (q25, .inl (ids 13, 21, .inl (fun _ => 0))), (q33, .inl (ids 13, 6, .inl (fun _ => 0))), (q41, .inl (ids 14, 64, .inl (fun _ => 0)))] := hD
  refine lv_aload_n hx hb d_X12_init_46 rfl (lv_at hl 0 rfl) ?_
  refine lv_sipush (v := 144) hx hb d_X12_init_47 (by decide) ?_
  refine mk_newa (L := 144) Z kw_77 hK hP hD hS hA (show (144 : Int32) = nI 144 by decide) (by decide) (by show _ ≤ 9; omega) (by show _ ≤ 2113; omega) d_X12_init_50 (fun q50 H hP hD hS => ?_)
  have hP : va_P D fm_cls [(a, .inr (12, [.int 0, .ref q8, .ref q17, .ref q25, .int 0, .int 0, .int 0, .int 0, .int 0, .int 0, .ref q33, .ref q41, .null, .null, .null, .int 0, .null, .int 0, .int 0, .int 0, .int 0])), (q8, .inl (ids 13, 926, .inl (fun _ => 0))), (q17, .inl (ids 13, 926, .inl (fun _ => 0))), (q25, .inl (ids 13, 21, .inl (fun _ => 0))), (q33, .inl (ids 13, 6, .inl (fun _ => 0))), (q41, .inl (ids 14, 64, .inl (fun _ => 0))), (q50, .inl (ids 13, 144, .inl (fun _ => 0)))] H := hP
  have hD : va_D (va_A [(a, .inr (12, [.int 0, .null, .null, .null, .int 0, .int 0, .int 0, .int 0, .int 0, .int 0, .null, .null, .null, .null, .null, .int 0, .null, .int 0, .int 0, .int 0, .int 0]))] s.heap.size) [(a, .inr (12, [.int 0, .ref q8, .ref q17, .ref q25, .int 0, .int 0, .int 0, .int 0, .int 0, .int 0, .ref q33, .ref q41, .null, .null, .null, .int 0, .null, .int 0, .int 0, .int 0, .int 0])), (q8, .inl (ids 13, 926, .inl (fun _ => 0))), (q17, .inl (ids 13, 926, .inl (fun _ => 0))), (q25, .inl (ids 13, 21, .inl (fun _ => 0))), (q33, .inl (ids 13, 6, .inl (fun _ => 0))), (q41, .inl (ids 14, 64, .inl (fun _ => 0))), (q50, .inl (ids 13, 144, .inl (fun _ => 0)))] := hD
  refine mk_putF (ci := 12) (k := 12) (fs := [.int 0, .ref q8, .ref q17, .ref q25, .int 0, .int 0, .int 0, .int 0, .int 0, .int 0, .ref q33, .ref q41, .null, .null, .null, .int 0, .null, .int 0, .int 0, .int 0, .int 0]) Z hK hP hD hS 0 rfl (by decide) mf_X12_28_12 rfl hname rfl rfl rfl (Nat.le_of_ble_eq_true rfl) d_X12_init_52 (fun H locs hP hD hS => ?_)
  have hP : va_P D fm_cls [(a, .inr (12, [.int 0, .ref q8, .ref q17, .ref q25, .int 0, .int 0, .int 0, .int 0, .int 0, .int 0, .ref q33, .ref q41, .ref q50, .null, .null, .int 0, .null, .int 0, .int 0, .int 0, .int 0])), (q8, .inl (ids 13, 926, .inl (fun _ => 0))), (q17, .inl (ids 13, 926, .inl (fun _ => 0))), (q25, .inl (ids 13, 21, .inl (fun _ => 0))), (q33, .inl (ids 13, 6, .inl (fun _ => 0))), (q41, .inl (ids 14, 64, .inl (fun _ => 0))), (q50, .inl (ids 13, 144, .inl (fun _ => 0)))] H := hP
  have hD : va_D (va_A [(a, .inr (12, [.int 0, .null, .null, .null, .int 0, .int 0, .int 0, .int 0, .int 0, .int 0, .null, .null, .null, .null, .null, .int 0, .null, .int 0, .int 0, .int 0, .int 0]))] s.heap.size) [(a, .inr (12, [.int 0, .ref q8, .ref q17, .ref q25, .int 0, .int 0, .int 0, .int 0, .int 0, .int 0, .ref q33, .ref q41, .ref q50, .null, .null, .int 0, .null, .int 0, .int 0, .int 0, .int 0])), (q8, .inl (ids 13, 926, .inl (fun _ => 0))), (q17, .inl (ids 13, 926, .inl (fun _ => 0))), (q25, .inl (ids 13, 21, .inl (fun _ => 0))), (q33, .inl (ids 13, 6, .inl (fun _ => 0))), (q41, .inl (ids 14, 64, .inl (fun _ => 0))), (q50, .inl (ids 13, 144, .inl (fun _ => 0)))] := hD
  refine lv_aload_n hx hb d_X12_init_55 rfl (lv_at hl 0 rfl) ?_
  refine lv_iconst (v := 3) hx hb d_X12_init_56 (by decide) ?_
  refine mk_newa (L := 3) Z kw_77 hK hP hD hS hA (show (3 : Int32) = nI 3 by decide) (by decide) (by show _ ≤ 9; omega) (by show _ ≤ 2113; omega) d_X12_init_57 (fun q57 H hP hD hS => ?_)
  have hP : va_P D fm_cls [(a, .inr (12, [.int 0, .ref q8, .ref q17, .ref q25, .int 0, .int 0, .int 0, .int 0, .int 0, .int 0, .ref q33, .ref q41, .ref q50, .null, .null, .int 0, .null, .int 0, .int 0, .int 0, .int 0])), (q8, .inl (ids 13, 926, .inl (fun _ => 0))), (q17, .inl (ids 13, 926, .inl (fun _ => 0))), (q25, .inl (ids 13, 21, .inl (fun _ => 0))), (q33, .inl (ids 13, 6, .inl (fun _ => 0))), (q41, .inl (ids 14, 64, .inl (fun _ => 0))), (q50, .inl (ids 13, 144, .inl (fun _ => 0))), (q57, .inl (ids 13, 3, .inl (fun _ => 0)))] H := hP
  have hD : va_D (va_A [(a, .inr (12, [.int 0, .null, .null, .null, .int 0, .int 0, .int 0, .int 0, .int 0, .int 0, .null, .null, .null, .null, .null, .int 0, .null, .int 0, .int 0, .int 0, .int 0]))] s.heap.size) [(a, .inr (12, [.int 0, .ref q8, .ref q17, .ref q25, .int 0, .int 0, .int 0, .int 0, .int 0, .int 0, .ref q33, .ref q41, .ref q50, .null, .null, .int 0, .null, .int 0, .int 0, .int 0, .int 0])), (q8, .inl (ids 13, 926, .inl (fun _ => 0))), (q17, .inl (ids 13, 926, .inl (fun _ => 0))), (q25, .inl (ids 13, 21, .inl (fun _ => 0))), (q33, .inl (ids 13, 6, .inl (fun _ => 0))), (q41, .inl (ids 14, 64, .inl (fun _ => 0))), (q50, .inl (ids 13, 144, .inl (fun _ => 0))), (q57, .inl (ids 13, 3, .inl (fun _ => 0)))] := hD
  refine mk_putF (ci := 12) (k := 13) (fs := [.int 0, .ref q8, .ref q17, .ref q25, .int 0, .int 0, .int 0, .int 0, .int 0, .int 0, .ref q33, .ref q41, .ref q50, .null, .null, .int 0, .null, .int 0, .int 0, .int 0, .int 0]) Z hK hP hD hS 0 rfl (by decide) mf_X12_31_12 rfl hname rfl rfl rfl (Nat.le_of_ble_eq_true rfl) d_X12_init_59 (fun H locs hP hD hS => ?_)
  have hP : va_P D fm_cls [(a, .inr (12, [.int 0, .ref q8, .ref q17, .ref q25, .int 0, .int 0, .int 0, .int 0, .int 0, .int 0, .ref q33, .ref q41, .ref q50, .ref q57, .null, .int 0, .null, .int 0, .int 0, .int 0, .int 0])), (q8, .inl (ids 13, 926, .inl (fun _ => 0))), (q17, .inl (ids 13, 926, .inl (fun _ => 0))), (q25, .inl (ids 13, 21, .inl (fun _ => 0))), (q33, .inl (ids 13, 6, .inl (fun _ => 0))), (q41, .inl (ids 14, 64, .inl (fun _ => 0))), (q50, .inl (ids 13, 144, .inl (fun _ => 0))), (q57, .inl (ids 13, 3, .inl (fun _ => 0)))] H := hP
  have hD : va_D (va_A [(a, .inr (12, [.int 0, .null, .null, .null, .int 0, .int 0, .int 0, .int 0, .int 0, .int 0, .null, .null, .null, .null, .null, .int 0, .null, .int 0, .int 0, .int 0, .int 0]))] s.heap.size) [(a, .inr (12, [.int 0, .ref q8, .ref q17, .ref q25, .int 0, .int 0, .int 0, .int 0, .int 0, .int 0, .ref q33, .ref q41, .ref q50, .ref q57, .null, .int 0, .null, .int 0, .int 0, .int 0, .int 0])), (q8, .inl (ids 13, 926, .inl (fun _ => 0))), (q17, .inl (ids 13, 926, .inl (fun _ => 0))), (q25, .inl (ids 13, 21, .inl (fun _ => 0))), (q33, .inl (ids 13, 6, .inl (fun _ => 0))), (q41, .inl (ids 14, 64, .inl (fun _ => 0))), (q50, .inl (ids 13, 144, .inl (fun _ => 0))), (q57, .inl (ids 13, 3, .inl (fun _ => 0)))] := hD
  refine lv_aload_n hx hb d_X12_init_62 rfl (lv_at hl 0 rfl) ?_
  refine lv_iconst (v := 3) hx hb d_X12_init_63 (by decide) ?_
  refine mk_newa (L := 3) Z kw_77 hK hP hD hS hA (show (3 : Int32) = nI 3 by decide) (by decide) (by show _ ≤ 9; omega) (by show _ ≤ 2113; omega) d_X12_init_64 (fun q64 H hP hD hS => ?_)
  have hP : va_P D fm_cls [(a, .inr (12, [.int 0, .ref q8, .ref q17, .ref q25, .int 0, .int 0, .int 0, .int 0, .int 0, .int 0, .ref q33, .ref q41, .ref q50, .ref q57, .null, .int 0, .null, .int 0, .int 0, .int 0, .int 0])), (q8, .inl (ids 13, 926, .inl (fun _ => 0))), (q17, .inl (ids 13, 926, .inl (fun _ => 0))), (q25, .inl (ids 13, 21, .inl (fun _ => 0))), (q33, .inl (ids 13, 6, .inl (fun _ => 0))), (q41, .inl (ids 14, 64, .inl (fun _ => 0))), (q50, .inl (ids 13, 144, .inl (fun _ => 0))), (q57, .inl (ids 13, 3, .inl (fun _ => 0))), (q64, .inl (ids 13, 3, .inl (fun _ => 0)))] H := hP
  have hD : va_D (va_A [(a, .inr (12, [.int 0, .null, .null, .null, .int 0, .int 0, .int 0, .int 0, .int 0, .int 0, .null, .null, .null, .null, .null, .int 0, .null, .int 0, .int 0, .int 0, .int 0]))] s.heap.size) [(a, .inr (12, [.int 0, .ref q8, .ref q17, .ref q25, .int 0, .int 0, .int 0, .int 0, .int 0, .int 0, .ref q33, .ref q41, .ref q50, .ref q57, .null, .int 0, .null, .int 0, .int 0, .int 0, .int 0])), (q8, .inl (ids 13, 926, .inl (fun _ => 0))), (q17, .inl (ids 13, 926, .inl (fun _ => 0))), (q25, .inl (ids 13, 21, .inl (fun _ => 0))), (q33, .inl (ids 13, 6, .inl (fun _ => 0))), (q41, .inl (ids 14, 64, .inl (fun _ => 0))), (q50, .inl (ids 13, 144, .inl (fun _ => 0))), (q57, .inl (ids 13, 3, .inl (fun _ => 0))), (q64, .inl (ids 13, 3, .inl (fun _ => 0)))] := hD
  refine mk_putF (ci := 12) (k := 14) (fs := [.int 0, .ref q8, .ref q17, .ref q25, .int 0, .int 0, .int 0, .int 0, .int 0, .int 0, .ref q33, .ref q41, .ref q50, .ref q57, .null, .int 0, .null, .int 0, .int 0, .int 0, .int 0]) Z hK hP hD hS 0 rfl (by decide) mf_X12_34_12 rfl hname rfl rfl rfl (Nat.le_of_ble_eq_true rfl) d_X12_init_66 (fun H locs hP hD hS => ?_)
  have hP : va_P D fm_cls [(a, .inr (12, [.int 0, .ref q8, .ref q17, .ref q25, .int 0, .int 0, .int 0, .int 0, .int 0, .int 0, .ref q33, .ref q41, .ref q50, .ref q57, .ref q64, .int 0, .null, .int 0, .int 0, .int 0, .int 0])), (q8, .inl (ids 13, 926, .inl (fun _ => 0))), (q17, .inl (ids 13, 926, .inl (fun _ => 0))), (q25, .inl (ids 13, 21, .inl (fun _ => 0))), (q33, .inl (ids 13, 6, .inl (fun _ => 0))), (q41, .inl (ids 14, 64, .inl (fun _ => 0))), (q50, .inl (ids 13, 144, .inl (fun _ => 0))), (q57, .inl (ids 13, 3, .inl (fun _ => 0))), (q64, .inl (ids 13, 3, .inl (fun _ => 0)))] H := hP
  have hD : va_D (va_A [(a, .inr (12, [.int 0, .null, .null, .null, .int 0, .int 0, .int 0, .int 0, .int 0, .int 0, .null, .null, .null, .null, .null, .int 0, .null, .int 0, .int 0, .int 0, .int 0]))] s.heap.size) [(a, .inr (12, [.int 0, .ref q8, .ref q17, .ref q25, .int 0, .int 0, .int 0, .int 0, .int 0, .int 0, .ref q33, .ref q41, .ref q50, .ref q57, .ref q64, .int 0, .null, .int 0, .int 0, .int 0, .int 0])), (q8, .inl (ids 13, 926, .inl (fun _ => 0))), (q17, .inl (ids 13, 926, .inl (fun _ => 0))), (q25, .inl (ids 13, 21, .inl (fun _ => 0))), (q33, .inl (ids 13, 6, .inl (fun _ => 0))), (q41, .inl (ids 14, 64, .inl (fun _ => 0))), (q50, .inl (ids 13, 144, .inl (fun _ => 0))), (q57, .inl (ids 13, 3, .inl (fun _ => 0))), (q64, .inl (ids 13, 3, .inl (fun _ => 0)))] := hD
  refine lv_aload_n hx hb d_X12_init_69 rfl (lv_at hl 0 rfl) ?_
  refine lv_bipush (v := 20) hx hb d_X12_init_70 (by decide) ?_
  refine mk_newa (L := 20) Z kw_77 hK hP hD hS hA (show (20 : Int32) = nI 20 by decide) (by decide) (by show _ ≤ 9; omega) (by show _ ≤ 2113; omega) d_X12_init_72 (fun q72 H hP hD hS => ?_)
  have hP : va_P D fm_cls [(a, .inr (12, [.int 0, .ref q8, .ref q17, .ref q25, .int 0, .int 0, .int 0, .int 0, .int 0, .int 0, .ref q33, .ref q41, .ref q50, .ref q57, .ref q64, .int 0, .null, .int 0, .int 0, .int 0, .int 0])), (q8, .inl (ids 13, 926, .inl (fun _ => 0))), (q17, .inl (ids 13, 926, .inl (fun _ => 0))), (q25, .inl (ids 13, 21, .inl (fun _ => 0))), (q33, .inl (ids 13, 6, .inl (fun _ => 0))), (q41, .inl (ids 14, 64, .inl (fun _ => 0))), (q50, .inl (ids 13, 144, .inl (fun _ => 0))), (q57, .inl (ids 13, 3, .inl (fun _ => 0))), (q64, .inl (ids 13, 3, .inl (fun _ => 0))), (q72, .inl (ids 13, 20, .inl (fun _ => 0)))] H := hP
  have hD : va_D (va_A [(a, .inr (12, [.int 0, .null, .null, .null, .int 0, .int 0, .int 0, .int 0, .int 0, .int 0, .null, .null, .null, .null, .null, .int 0, .null, .int 0, .int 0, .int 0, .int 0]))] s.heap.size) [(a, .inr (12, [.int 0, .ref q8, .ref q17, .ref q25, .int 0, .int 0, .int 0, .int 0, .int 0, .int 0, .ref q33, .ref q41, .ref q50, .ref q57, .ref q64, .int 0, .null, .int 0, .int 0, .int 0, .int 0])), (q8, .inl (ids 13, 926, .inl (fun _ => 0))), (q17, .inl (ids 13, 926, .inl (fun _ => 0))), (q25, .inl (ids 13, 21, .inl (fun _ => 0))), (q33, .inl (ids 13, 6, .inl (fun _ => 0))), (q41, .inl (ids 14, 64, .inl (fun _ => 0))), (q50, .inl (ids 13, 144, .inl (fun _ => 0))), (q57, .inl (ids 13, 3, .inl (fun _ => 0))), (q64, .inl (ids 13, 3, .inl (fun _ => 0))), (q72, .inl (ids 13, 20, .inl (fun _ => 0)))] := hD
  refine mk_putF (ci := 12) (k := 16) (fs := [.int 0, .ref q8, .ref q17, .ref q25, .int 0, .int 0, .int 0, .int 0, .int 0, .int 0, .ref q33, .ref q41, .ref q50, .ref q57, .ref q64, .int 0, .null, .int 0, .int 0, .int 0, .int 0]) Z hK hP hD hS 0 rfl (by decide) mf_X12_37_12 rfl hname rfl rfl rfl (Nat.le_of_ble_eq_true rfl) d_X12_init_74 (fun H locs hP hD hS => ?_)
  have hP : va_P D fm_cls [(a, .inr (12, [.int 0, .ref q8, .ref q17, .ref q25, .int 0, .int 0, .int 0, .int 0, .int 0, .int 0, .ref q33, .ref q41, .ref q50, .ref q57, .ref q64, .int 0, .ref q72, .int 0, .int 0, .int 0, .int 0])), (q8, .inl (ids 13, 926, .inl (fun _ => 0))), (q17, .inl (ids 13, 926, .inl (fun _ => 0))), (q25, .inl (ids 13, 21, .inl (fun _ => 0))), (q33, .inl (ids 13, 6, .inl (fun _ => 0))), (q41, .inl (ids 14, 64, .inl (fun _ => 0))), (q50, .inl (ids 13, 144, .inl (fun _ => 0))), (q57, .inl (ids 13, 3, .inl (fun _ => 0))), (q64, .inl (ids 13, 3, .inl (fun _ => 0))), (q72, .inl (ids 13, 20, .inl (fun _ => 0)))] H := hP
  have hD : va_D (va_A [(a, .inr (12, [.int 0, .null, .null, .null, .int 0, .int 0, .int 0, .int 0, .int 0, .int 0, .null, .null, .null, .null, .null, .int 0, .null, .int 0, .int 0, .int 0, .int 0]))] s.heap.size) [(a, .inr (12, [.int 0, .ref q8, .ref q17, .ref q25, .int 0, .int 0, .int 0, .int 0, .int 0, .int 0, .ref q33, .ref q41, .ref q50, .ref q57, .ref q64, .int 0, .ref q72, .int 0, .int 0, .int 0, .int 0])), (q8, .inl (ids 13, 926, .inl (fun _ => 0))), (q17, .inl (ids 13, 926, .inl (fun _ => 0))), (q25, .inl (ids 13, 21, .inl (fun _ => 0))), (q33, .inl (ids 13, 6, .inl (fun _ => 0))), (q41, .inl (ids 14, 64, .inl (fun _ => 0))), (q50, .inl (ids 13, 144, .inl (fun _ => 0))), (q57, .inl (ids 13, 3, .inl (fun _ => 0))), (q64, .inl (ids 13, 3, .inl (fun _ => 0))), (q72, .inl (ids 13, 20, .inl (fun _ => 0)))] := hD
  refine lv_aload_n hx hb d_X12_init_77 rfl (lv_at hl 0 rfl) ?_
  refine mk_get (ci := 12) (k := 1) (fs := [.int 0, .ref q8, .ref q17, .ref q25, .int 0, .int 0, .int 0, .int 0, .int 0, .int 0, .ref q33, .ref q41, .ref q50, .ref q57, .ref q64, .int 0, .ref q72, .int 0, .int 0, .int 0, .int 0]) (v := .ref q8) Z hK hP 0 rfl (by decide) mf_X12_9_12 rfl d_X12_init_78 ?_
  refine lv_bipush (v := 27) hx hb d_X12_init_81 (by decide) ?_
  refine lv_iconst (v := (-1)) hx hb d_X12_init_83 (by decide) ?_
  refine va_iast hx hb hK hP hD hS 1 0 rfl rfl (by unfold vp_in; decide) d_X12_init_84 (fun H locs hP hD hS => ?_)
  have hP : va_P D fm_cls [(a, .inr (12, [.int 0, .ref q8, .ref q17, .ref q25, .int 0, .int 0, .int 0, .int 0, .int 0, .int 0, .ref q33, .ref q41, .ref q50, .ref q57, .ref q64, .int 0, .ref q72, .int 0, .int 0, .int 0, .int 0])), (q8, .inl (ids 13, 926, .inl (upd (fun _ => 0) (27 : Int32).toNatClampNeg (-1)))), (q17, .inl (ids 13, 926, .inl (fun _ => 0))), (q25, .inl (ids 13, 21, .inl (fun _ => 0))), (q33, .inl (ids 13, 6, .inl (fun _ => 0))), (q41, .inl (ids 14, 64, .inl (fun _ => 0))), (q50, .inl (ids 13, 144, .inl (fun _ => 0))), (q57, .inl (ids 13, 3, .inl (fun _ => 0))), (q64, .inl (ids 13, 3, .inl (fun _ => 0))), (q72, .inl (ids 13, 20, .inl (fun _ => 0)))] H := hP
  have hD : va_D (va_A [(a, .inr (12, [.int 0, .null, .null, .null, .int 0, .int 0, .int 0, .int 0, .int 0, .int 0, .null, .null, .null, .null, .null, .int 0, .null, .int 0, .int 0, .int 0, .int 0]))] s.heap.size) [(a, .inr (12, [.int 0, .ref q8, .ref q17, .ref q25, .int 0, .int 0, .int 0, .int 0, .int 0, .int 0, .ref q33, .ref q41, .ref q50, .ref q57, .ref q64, .int 0, .ref q72, .int 0, .int 0, .int 0, .int 0])), (q8, .inl (ids 13, 926, .inl (upd (fun _ => 0) (27 : Int32).toNatClampNeg (-1)))), (q17, .inl (ids 13, 926, .inl (fun _ => 0))), (q25, .inl (ids 13, 21, .inl (fun _ => 0))), (q33, .inl (ids 13, 6, .inl (fun _ => 0))), (q41, .inl (ids 14, 64, .inl (fun _ => 0))), (q50, .inl (ids 13, 144, .inl (fun _ => 0))), (q57, .inl (ids 13, 3, .inl (fun _ => 0))), (q64, .inl (ids 13, 3, .inl (fun _ => 0))), (q72, .inl (ids 13, 20, .inl (fun _ => 0)))] := hD
  refine lv_aload_n hx hb d_X12_init_85 rfl (lv_at hl 0 rfl) ?_
  refine mk_get (ci := 12) (k := 1) (fs := [.int 0, .ref q8, .ref q17, .ref q25, .int 0, .int 0, .int 0, .int 0, .int 0, .int 0, .ref q33, .ref q41, .ref q50, .ref q57, .ref q64, .int 0, .ref q72, .int 0, .int 0, .int 0, .int 0]) (v := .ref q8) Z hK hP 0 rfl (by decide) mf_X12_9_12 rfl d_X12_init_86 ?_
  refine lv_iconst (v := 1) hx hb d_X12_init_89 (by decide) ?_
  refine lv_iconst (v := 5) hx hb d_X12_init_90 (by decide) ?_
  refine va_iast hx hb hK hP hD hS 1 0 rfl rfl (by unfold vp_in; decide) d_X12_init_91 (fun H locs hP hD hS => ?_)
  have hP : va_P D fm_cls [(a, .inr (12, [.int 0, .ref q8, .ref q17, .ref q25, .int 0, .int 0, .int 0, .int 0, .int 0, .int 0, .ref q33, .ref q41, .ref q50, .ref q57, .ref q64, .int 0, .ref q72, .int 0, .int 0, .int 0, .int 0])), (q8, .inl (ids 13, 926, .inl (upd (upd (fun _ => 0) (27 : Int32).toNatClampNeg (-1)) (1 : Int32).toNatClampNeg 5))), (q17, .inl (ids 13, 926, .inl (fun _ => 0))), (q25, .inl (ids 13, 21, .inl (fun _ => 0))), (q33, .inl (ids 13, 6, .inl (fun _ => 0))), (q41, .inl (ids 14, 64, .inl (fun _ => 0))), (q50, .inl (ids 13, 144, .inl (fun _ => 0))), (q57, .inl (ids 13, 3, .inl (fun _ => 0))), (q64, .inl (ids 13, 3, .inl (fun _ => 0))), (q72, .inl (ids 13, 20, .inl (fun _ => 0)))] H := hP
  have hD : va_D (va_A [(a, .inr (12, [.int 0, .null, .null, .null, .int 0, .int 0, .int 0, .int 0, .int 0, .int 0, .null, .null, .null, .null, .null, .int 0, .null, .int 0, .int 0, .int 0, .int 0]))] s.heap.size) [(a, .inr (12, [.int 0, .ref q8, .ref q17, .ref q25, .int 0, .int 0, .int 0, .int 0, .int 0, .int 0, .ref q33, .ref q41, .ref q50, .ref q57, .ref q64, .int 0, .ref q72, .int 0, .int 0, .int 0, .int 0])), (q8, .inl (ids 13, 926, .inl (upd (upd (fun _ => 0) (27 : Int32).toNatClampNeg (-1)) (1 : Int32).toNatClampNeg 5))), (q17, .inl (ids 13, 926, .inl (fun _ => 0))), (q25, .inl (ids 13, 21, .inl (fun _ => 0))), (q33, .inl (ids 13, 6, .inl (fun _ => 0))), (q41, .inl (ids 14, 64, .inl (fun _ => 0))), (q50, .inl (ids 13, 144, .inl (fun _ => 0))), (q57, .inl (ids 13, 3, .inl (fun _ => 0))), (q64, .inl (ids 13, 3, .inl (fun _ => 0))), (q72, .inl (ids 13, 20, .inl (fun _ => 0)))] := hD
  refine mk_ret (w0 := [(a, .inr (12, [.int 0, .null, .null, .null, .int 0, .int 0, .int 0, .int 0, .int 0, .int 0, .null, .null, .null, .null, .null, .int 0, .null, .int 0, .int 0, .int 0, .int 0]))]) (post := (fun u : Nat → Nat => [(a, .inr (12, [.int 0, .ref (u 0), .ref (u 1), .ref (u 2), .int 0, .int 0, .int 0, .int 0, .int 0, .int 0, .ref (u 3), .ref (u 4), .ref (u 5), .ref (u 6), .ref (u 7), .int 0, .ref (u 8), .int 0, .int 0, .int 0, .int 0])), ((u 0), .inl (ids 13, 926, .inl (upd (upd (fun _ => 0) (27 : Int32).toNatClampNeg (-1)) (1 : Int32).toNatClampNeg 5))), ((u 1), .inl (ids 13, 926, .inl (fun _ => 0))), ((u 2), .inl (ids 13, 21, .inl (fun _ => 0))), ((u 3), .inl (ids 13, 6, .inl (fun _ => 0))), ((u 4), .inl (ids 14, 64, .inl (fun _ => 0))), ((u 5), .inl (ids 13, 144, .inl (fun _ => 0))), ((u 6), .inl (ids 13, 3, .inl (fun _ => 0))), ((u 7), .inl (ids 13, 3, .inl (fun _ => 0))), ((u 8), .inl (ids 13, 20, .inl (fun _ => 0)))])) Z hr hlk hP hD hS (fun i => ([q8, q17, q25, q33, q41, q50, q57, q64, q72] : List Nat).getD i 0) rfl ?_ ?_ d_X12_init_92
  · show _ ≤ 9; omega
  · show _ ≤ 2113; first | decide +kernel | omega
