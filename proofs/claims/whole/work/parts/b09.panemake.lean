/-! MAKERS: pane() where it refuses -/
theorem k_X11_pane_e1 {l : Launch} {D : va_G} {ids : Nat → ClassId} {a pa ca bt bd : Nat} {n w y z : Int32} {v4 v5 v6 v7 v8 v9 v10 v11 v12 v13 v15 v16 : Value} (hw : (if w < 0 then 0 else if 6 < w then 0 else 1 : Int32) = 0) (sz : Nat) : mk_G (fun _ => True) l y_X11_pane prog_1_method_4_code 5 (some .int) 5 0 0 D ids [(a, .inr (11, [.ref pa, .ref ca, .int n, .ref bt, v4, v5, v6, v7, v8, v9, v10, v11, v12, v13, .ref bd, v15, v16]))] [.ref a, .int w, .int y, .int z] sz (mk_Qi D ((-1)) (fun u : Nat → Nat => [(a, .inr (11, [.ref pa, .ref ca, .int n, .ref bt, v4, v5, v6, v7, v8, v9, v10, v11, v12, v13, .ref bd, v15, v16]))])) := by
  refine mk_openG rfl (Nat.le_of_ble_eq_true rfl) (fun p e s m args below meth c ls Z hr hlk hname hX hK hP hD hS hA hl hsz => ?_)
  subst hsz
  obtain ⟨hx, hb, hml, hown, hts⟩ := id Z
  have hl : lv_has ls 5 [(0, .ref a), (1, .int w), (2, .int y), (3, .int z)] := hl
  have hN0 : fm_N 0 = 10 := rfl
  have hN1 : fm_N 1 = 10 := rfl
  have hN2 : fm_N 2 = 10 := rfl
  have hN3 : fm_N 3 = 10 := rfl
  have hN4 : fm_N 4 = 10 := rfl
  have hN5 : fm_N 5 = 10 := rfl
  have hN7 : fm_N 7 = 10 := rfl
  have hN9 : fm_N 9 = 12 := rfl
  refine lv_iload_n hx hb d_X11_pane_0 rfl (lv_at hl 1 rfl) ?_
  refine lv_bipush (v := 6) hx hb d_X11_pane_1 (by decide) ?_
  refine mk_callSi (As := [.int w, .int 6]) (rest := []) (k := 2) Z mk_Tmv trivial (k_X11_isWithin (ids := ids) (D := D) (x := w) (n := 6) _) hK hP hD hS hA (isC := []) (isR := [0]) (wc := []) (wr := [(a, .inr (11, [.ref pa, .ref ca, .int n, .ref bt, v4, v5, v6, v7, v8, v9, v10, v11, v12, v13, .ref bd, v15, v16]))]) rfl rfl rfl rfl (by decide) kw_182 kw_183 kw_1 kw_184 yd_X11_isWithin rfl (by decide) (by decide) hl.1 (Nat.le_of_ble_eq_true rfl) d_X11_pane_3 (by show _ ≤ 0; omega) (by show _ ≤ 0; omega) rfl (fun u3 H locs hP hD hS => ?_)
  have hP : va_P D fm_cls [(a, .inr (11, [.ref pa, .ref ca, .int n, .ref bt, v4, v5, v6, v7, v8, v9, v10, v11, v12, v13, .ref bd, v15, v16]))] H := hP
  have hD : va_D (va_A [(a, .inr (11, [.ref pa, .ref ca, .int n, .ref bt, v4, v5, v6, v7, v8, v9, v10, v11, v12, v13, .ref bd, v15, v16]))] s.heap.size) [(a, .inr (11, [.ref pa, .ref ca, .int n, .ref bt, v4, v5, v6, v7, v8, v9, v10, v11, v12, v13, .ref bd, v15, v16]))] := hD
  rw [hw]
  refine lv_if_ne (tgt := 11) hx hb d_X11_pane_6 (by decide) (fun c6 => ?_) (fun c6 => ?_)
  · first | exact absurd c6 (by decide) | exact absurd (by decide) c6
  refine lv_iconst (v := (-1)) hx hb d_X11_pane_9 (by decide) ?_
  refine mk_reti (mc := 0) (ms := 0) (h0 := 5) (w0 := [(a, .inr (11, [.ref pa, .ref ca, .int n, .ref bt, v4, v5, v6, v7, v8, v9, v10, v11, v12, v13, .ref bd, v15, v16]))]) (post := (fun u : Nat → Nat => [(a, .inr (11, [.ref pa, .ref ca, .int n, .ref bt, v4, v5, v6, v7, v8, v9, v10, v11, v12, v13, .ref bd, v15, v16]))])) Z hr hlk hP hD hS (fun i => ([] : List Nat).getD i 0) rfl rfl ?_ ?_ d_X11_pane_10
  · show _ ≤ 0; omega
  · show _ ≤ 0; first | omega | decide +kernel
theorem k_X11_pane_e2 {l : Launch} {D : va_G} {ids : Nat → ClassId} {a pa ca bt bd : Nat} {n w y z : Int32} {v4 v5 v6 v7 v8 v9 v10 v11 v12 v13 v15 v16 : Value} (hw : (if w < 0 then 0 else if 6 < w then 0 else 1 : Int32) = 1) (hy : (if y < 0 then 0 else if 9 < y then 0 else 1 : Int32) = 0) (sz : Nat) : mk_G (fun _ => True) l y_X11_pane prog_1_method_4_code 5 (some .int) 5 0 0 D ids [(a, .inr (11, [.ref pa, .ref ca, .int n, .ref bt, v4, v5, v6, v7, v8, v9, v10, v11, v12, v13, .ref bd, v15, v16]))] [.ref a, .int w, .int y, .int z] sz (mk_Qi D ((-2)) (fun u : Nat → Nat => [(a, .inr (11, [.ref pa, .ref ca, .int n, .ref bt, v4, v5, v6, v7, v8, v9, v10, v11, v12, v13, .ref bd, v15, v16]))])) := by
  refine mk_openG rfl (Nat.le_of_ble_eq_true rfl) (fun p e s m args below meth c ls Z hr hlk hname hX hK hP hD hS hA hl hsz => ?_)
  subst hsz
  obtain ⟨hx, hb, hml, hown, hts⟩ := id Z
  have hl : lv_has ls 5 [(0, .ref a), (1, .int w), (2, .int y), (3, .int z)] := hl
  have hN0 : fm_N 0 = 10 := rfl
  have hN1 : fm_N 1 = 10 := rfl
  have hN2 : fm_N 2 = 10 := rfl
  have hN3 : fm_N 3 = 10 := rfl
  have hN4 : fm_N 4 = 10 := rfl
  have hN5 : fm_N 5 = 10 := rfl
  have hN7 : fm_N 7 = 10 := rfl
  have hN9 : fm_N 9 = 12 := rfl
  refine lv_iload_n hx hb d_X11_pane_0 rfl (lv_at hl 1 rfl) ?_
  refine lv_bipush (v := 6) hx hb d_X11_pane_1 (by decide) ?_
  refine mk_callSi (As := [.int w, .int 6]) (rest := []) (k := 2) Z mk_Tmv trivial (k_X11_isWithin (ids := ids) (D := D) (x := w) (n := 6) _) hK hP hD hS hA (isC := []) (isR := [0]) (wc := []) (wr := [(a, .inr (11, [.ref pa, .ref ca, .int n, .ref bt, v4, v5, v6, v7, v8, v9, v10, v11, v12, v13, .ref bd, v15, v16]))]) rfl rfl rfl rfl (by decide) kw_182 kw_183 kw_1 kw_184 yd_X11_isWithin rfl (by decide) (by decide) hl.1 (Nat.le_of_ble_eq_true rfl) d_X11_pane_3 (by show _ ≤ 0; omega) (by show _ ≤ 0; omega) rfl (fun u3 H locs hP hD hS => ?_)
  have hP : va_P D fm_cls [(a, .inr (11, [.ref pa, .ref ca, .int n, .ref bt, v4, v5, v6, v7, v8, v9, v10, v11, v12, v13, .ref bd, v15, v16]))] H := hP
  have hD : va_D (va_A [(a, .inr (11, [.ref pa, .ref ca, .int n, .ref bt, v4, v5, v6, v7, v8, v9, v10, v11, v12, v13, .ref bd, v15, v16]))] s.heap.size) [(a, .inr (11, [.ref pa, .ref ca, .int n, .ref bt, v4, v5, v6, v7, v8, v9, v10, v11, v12, v13, .ref bd, v15, v16]))] := hD
  rw [hw]
  refine lv_if_ne (tgt := 11) hx hb d_X11_pane_6 (by decide) (fun c6 => ?_) (fun c6 => ?_)
  rotate_left
  · first | exact absurd c6 (by decide) | exact absurd (by decide) c6
  refine lv_iload_n hx hb d_X11_pane_11 rfl (lv_at hl 2 rfl) ?_
  refine lv_bipush (v := 9) hx hb d_X11_pane_12 (by decide) ?_
  refine mk_callSi (As := [.int y, .int 9]) (rest := []) (k := 2) Z mk_Tmv trivial (k_X11_isWithin (ids := ids) (D := D) (x := y) (n := 9) _) hK hP hD hS hA (isC := []) (isR := [0]) (wc := []) (wr := [(a, .inr (11, [.ref pa, .ref ca, .int n, .ref bt, v4, v5, v6, v7, v8, v9, v10, v11, v12, v13, .ref bd, v15, v16]))]) rfl rfl rfl rfl (by decide) kw_182 kw_183 kw_1 kw_184 yd_X11_isWithin rfl (by decide) (by decide) hl.1 (Nat.le_of_ble_eq_true rfl) d_X11_pane_14 (by show _ ≤ 0; omega) (by show _ ≤ 0; omega) rfl (fun u14 H locs hP hD hS => ?_)
  have hP : va_P D fm_cls [(a, .inr (11, [.ref pa, .ref ca, .int n, .ref bt, v4, v5, v6, v7, v8, v9, v10, v11, v12, v13, .ref bd, v15, v16]))] H := hP
  have hD : va_D (va_A [(a, .inr (11, [.ref pa, .ref ca, .int n, .ref bt, v4, v5, v6, v7, v8, v9, v10, v11, v12, v13, .ref bd, v15, v16]))] s.heap.size) [(a, .inr (11, [.ref pa, .ref ca, .int n, .ref bt, v4, v5, v6, v7, v8, v9, v10, v11, v12, v13, .ref bd, v15, v16]))] := hD
  rw [hy]
  refine lv_if_eq (tgt := 29) hx hb d_X11_pane_17 (by decide) (fun c17 => ?_) (fun c17 => ?_)
  rotate_left
  · first | exact absurd c17 (by decide) | exact absurd (by decide) c17
  refine lv_bipush (v := (-2)) hx hb d_X11_pane_29 (by decide) ?_
  refine mk_reti (mc := 0) (ms := 0) (h0 := 5) (w0 := [(a, .inr (11, [.ref pa, .ref ca, .int n, .ref bt, v4, v5, v6, v7, v8, v9, v10, v11, v12, v13, .ref bd, v15, v16]))]) (post := (fun u : Nat → Nat => [(a, .inr (11, [.ref pa, .ref ca, .int n, .ref bt, v4, v5, v6, v7, v8, v9, v10, v11, v12, v13, .ref bd, v15, v16]))])) Z hr hlk hP hD hS (fun i => ([] : List Nat).getD i 0) rfl rfl ?_ ?_ d_X11_pane_31
  · show _ ≤ 0; omega
  · show _ ≤ 0; first | omega | decide +kernel
theorem k_X11_pane_e3 {l : Launch} {D : va_G} {ids : Nat → ClassId} {a pa ca bt bd : Nat} {n w y z : Int32} {v4 v5 v6 v7 v8 v9 v10 v11 v12 v13 v15 v16 : Value} (hw : (if w < 0 then 0 else if 6 < w then 0 else 1 : Int32) = 1) (hy : (if y < 0 then 0 else if 9 < y then 0 else 1 : Int32) = 1) (hz : (if z < 0 then 0 else if 9 < z then 0 else 1 : Int32) = 0) (sz : Nat) : mk_G (fun _ => True) l y_X11_pane prog_1_method_4_code 5 (some .int) 5 0 0 D ids [(a, .inr (11, [.ref pa, .ref ca, .int n, .ref bt, v4, v5, v6, v7, v8, v9, v10, v11, v12, v13, .ref bd, v15, v16]))] [.ref a, .int w, .int y, .int z] sz (mk_Qi D ((-2)) (fun u : Nat → Nat => [(a, .inr (11, [.ref pa, .ref ca, .int n, .ref bt, v4, v5, v6, v7, v8, v9, v10, v11, v12, v13, .ref bd, v15, v16]))])) := by
  refine mk_openG rfl (Nat.le_of_ble_eq_true rfl) (fun p e s m args below meth c ls Z hr hlk hname hX hK hP hD hS hA hl hsz => ?_)
  subst hsz
  obtain ⟨hx, hb, hml, hown, hts⟩ := id Z
  have hl : lv_has ls 5 [(0, .ref a), (1, .int w), (2, .int y), (3, .int z)] := hl
  have hN0 : fm_N 0 = 10 := rfl
  have hN1 : fm_N 1 = 10 := rfl
  have hN2 : fm_N 2 = 10 := rfl
  have hN3 : fm_N 3 = 10 := rfl
  have hN4 : fm_N 4 = 10 := rfl
  have hN5 : fm_N 5 = 10 := rfl
  have hN7 : fm_N 7 = 10 := rfl
  have hN9 : fm_N 9 = 12 := rfl
  refine lv_iload_n hx hb d_X11_pane_0 rfl (lv_at hl 1 rfl) ?_
  refine lv_bipush (v := 6) hx hb d_X11_pane_1 (by decide) ?_
  refine mk_callSi (As := [.int w, .int 6]) (rest := []) (k := 2) Z mk_Tmv trivial (k_X11_isWithin (ids := ids) (D := D) (x := w) (n := 6) _) hK hP hD hS hA (isC := []) (isR := [0]) (wc := []) (wr := [(a, .inr (11, [.ref pa, .ref ca, .int n, .ref bt, v4, v5, v6, v7, v8, v9, v10, v11, v12, v13, .ref bd, v15, v16]))]) rfl rfl rfl rfl (by decide) kw_182 kw_183 kw_1 kw_184 yd_X11_isWithin rfl (by decide) (by decide) hl.1 (Nat.le_of_ble_eq_true rfl) d_X11_pane_3 (by show _ ≤ 0; omega) (by show _ ≤ 0; omega) rfl (fun u3 H locs hP hD hS => ?_)
  have hP : va_P D fm_cls [(a, .inr (11, [.ref pa, .ref ca, .int n, .ref bt, v4, v5, v6, v7, v8, v9, v10, v11, v12, v13, .ref bd, v15, v16]))] H := hP
  have hD : va_D (va_A [(a, .inr (11, [.ref pa, .ref ca, .int n, .ref bt, v4, v5, v6, v7, v8, v9, v10, v11, v12, v13, .ref bd, v15, v16]))] s.heap.size) [(a, .inr (11, [.ref pa, .ref ca, .int n, .ref bt, v4, v5, v6, v7, v8, v9, v10, v11, v12, v13, .ref bd, v15, v16]))] := hD
  rw [hw]
  refine lv_if_ne (tgt := 11) hx hb d_X11_pane_6 (by decide) (fun c6 => ?_) (fun c6 => ?_)
  rotate_left
  · first | exact absurd c6 (by decide) | exact absurd (by decide) c6
  refine lv_iload_n hx hb d_X11_pane_11 rfl (lv_at hl 2 rfl) ?_
  refine lv_bipush (v := 9) hx hb d_X11_pane_12 (by decide) ?_
  refine mk_callSi (As := [.int y, .int 9]) (rest := []) (k := 2) Z mk_Tmv trivial (k_X11_isWithin (ids := ids) (D := D) (x := y) (n := 9) _) hK hP hD hS hA (isC := []) (isR := [0]) (wc := []) (wr := [(a, .inr (11, [.ref pa, .ref ca, .int n, .ref bt, v4, v5, v6, v7, v8, v9, v10, v11, v12, v13, .ref bd, v15, v16]))]) rfl rfl rfl rfl (by decide) kw_182 kw_183 kw_1 kw_184 yd_X11_isWithin rfl (by decide) (by decide) hl.1 (Nat.le_of_ble_eq_true rfl) d_X11_pane_14 (by show _ ≤ 0; omega) (by show _ ≤ 0; omega) rfl (fun u14 H locs hP hD hS => ?_)
  have hP : va_P D fm_cls [(a, .inr (11, [.ref pa, .ref ca, .int n, .ref bt, v4, v5, v6, v7, v8, v9, v10, v11, v12, v13, .ref bd, v15, v16]))] H := hP
  have hD : va_D (va_A [(a, .inr (11, [.ref pa, .ref ca, .int n, .ref bt, v4, v5, v6, v7, v8, v9, v10, v11, v12, v13, .ref bd, v15, v16]))] s.heap.size) [(a, .inr (11, [.ref pa, .ref ca, .int n, .ref bt, v4, v5, v6, v7, v8, v9, v10, v11, v12, v13, .ref bd, v15, v16]))] := hD
  rw [hy]
  refine lv_if_eq (tgt := 29) hx hb d_X11_pane_17 (by decide) (fun c17 => ?_) (fun c17 => ?_)
  · first | exact absurd c17 (by decide) | exact absurd (by decide) c17
  refine lv_iload_n hx hb d_X11_pane_20 rfl (lv_at hl 3 rfl) ?_
  refine lv_bipush (v := 9) hx hb d_X11_pane_21 (by decide) ?_
  refine mk_callSi (As := [.int z, .int 9]) (rest := []) (k := 2) Z mk_Tmv trivial (k_X11_isWithin (ids := ids) (D := D) (x := z) (n := 9) _) hK hP hD hS hA (isC := []) (isR := [0]) (wc := []) (wr := [(a, .inr (11, [.ref pa, .ref ca, .int n, .ref bt, v4, v5, v6, v7, v8, v9, v10, v11, v12, v13, .ref bd, v15, v16]))]) rfl rfl rfl rfl (by decide) kw_182 kw_183 kw_1 kw_184 yd_X11_isWithin rfl (by decide) (by decide) hl.1 (Nat.le_of_ble_eq_true rfl) d_X11_pane_23 (by show _ ≤ 0; omega) (by show _ ≤ 0; omega) rfl (fun u23 H locs hP hD hS => ?_)
  have hP : va_P D fm_cls [(a, .inr (11, [.ref pa, .ref ca, .int n, .ref bt, v4, v5, v6, v7, v8, v9, v10, v11, v12, v13, .ref bd, v15, v16]))] H := hP
  have hD : va_D (va_A [(a, .inr (11, [.ref pa, .ref ca, .int n, .ref bt, v4, v5, v6, v7, v8, v9, v10, v11, v12, v13, .ref bd, v15, v16]))] s.heap.size) [(a, .inr (11, [.ref pa, .ref ca, .int n, .ref bt, v4, v5, v6, v7, v8, v9, v10, v11, v12, v13, .ref bd, v15, v16]))] := hD
  rw [hz]
  refine lv_if_ne (tgt := 32) hx hb d_X11_pane_26 (by decide) (fun c26 => ?_) (fun c26 => ?_)
  · first | exact absurd c26 (by decide) | exact absurd (by decide) c26
  refine lv_bipush (v := (-2)) hx hb d_X11_pane_29 (by decide) ?_
  refine mk_reti (mc := 0) (ms := 0) (h0 := 5) (w0 := [(a, .inr (11, [.ref pa, .ref ca, .int n, .ref bt, v4, v5, v6, v7, v8, v9, v10, v11, v12, v13, .ref bd, v15, v16]))]) (post := (fun u : Nat → Nat => [(a, .inr (11, [.ref pa, .ref ca, .int n, .ref bt, v4, v5, v6, v7, v8, v9, v10, v11, v12, v13, .ref bd, v15, v16]))])) Z hr hlk hP hD hS (fun i => ([] : List Nat).getD i 0) rfl rfl ?_ ?_ d_X11_pane_31
  · show _ ≤ 0; omega
  · show _ ≤ 0; first | omega | decide +kernel
theorem k_X11_pane_e4 {l : Launch} {D : va_G} {ids : Nat → ClassId} {a pa ca bt bd : Nat} {n w y z : Int32} {v4 v5 v6 v7 v8 v9 v10 v11 v12 v13 v15 v16 : Value} (hw : (if w < 0 then 0 else if 6 < w then 0 else 1 : Int32) = 1) (hy : (if y < 0 then 0 else if 9 < y then 0 else 1 : Int32) = 1) (hz : (if z < 0 then 0 else if 9 < z then 0 else 1 : Int32) = 1) (hlt : ¬ n < 6) (sz : Nat) : mk_G (fun _ => True) l y_X11_pane prog_1_method_4_code 5 (some .int) 5 0 0 D ids [(a, .inr (11, [.ref pa, .ref ca, .int n, .ref bt, v4, v5, v6, v7, v8, v9, v10, v11, v12, v13, .ref bd, v15, v16]))] [.ref a, .int w, .int y, .int z] sz (mk_Qi D ((-4)) (fun u : Nat → Nat => [(a, .inr (11, [.ref pa, .ref ca, .int n, .ref bt, v4, v5, v6, v7, v8, v9, v10, v11, v12, v13, .ref bd, v15, v16]))])) := by
  refine mk_openG rfl (Nat.le_of_ble_eq_true rfl) (fun p e s m args below meth c ls Z hr hlk hname hX hK hP hD hS hA hl hsz => ?_)
  subst hsz
  obtain ⟨hx, hb, hml, hown, hts⟩ := id Z
  have hl : lv_has ls 5 [(0, .ref a), (1, .int w), (2, .int y), (3, .int z)] := hl
  have hN0 : fm_N 0 = 10 := rfl
  have hN1 : fm_N 1 = 10 := rfl
  have hN2 : fm_N 2 = 10 := rfl
  have hN3 : fm_N 3 = 10 := rfl
  have hN4 : fm_N 4 = 10 := rfl
  have hN5 : fm_N 5 = 10 := rfl
  have hN7 : fm_N 7 = 10 := rfl
  have hN9 : fm_N 9 = 12 := rfl
  refine lv_iload_n hx hb d_X11_pane_0 rfl (lv_at hl 1 rfl) ?_
  refine lv_bipush (v := 6) hx hb d_X11_pane_1 (by decide) ?_
  refine mk_callSi (As := [.int w, .int 6]) (rest := []) (k := 2) Z mk_Tmv trivial (k_X11_isWithin (ids := ids) (D := D) (x := w) (n := 6) _) hK hP hD hS hA (isC := []) (isR := [0]) (wc := []) (wr := [(a, .inr (11, [.ref pa, .ref ca, .int n, .ref bt, v4, v5, v6, v7, v8, v9, v10, v11, v12, v13, .ref bd, v15, v16]))]) rfl rfl rfl rfl (by decide) kw_182 kw_183 kw_1 kw_184 yd_X11_isWithin rfl (by decide) (by decide) hl.1 (Nat.le_of_ble_eq_true rfl) d_X11_pane_3 (by show _ ≤ 0; omega) (by show _ ≤ 0; omega) rfl (fun u3 H locs hP hD hS => ?_)
  have hP : va_P D fm_cls [(a, .inr (11, [.ref pa, .ref ca, .int n, .ref bt, v4, v5, v6, v7, v8, v9, v10, v11, v12, v13, .ref bd, v15, v16]))] H := hP
  have hD : va_D (va_A [(a, .inr (11, [.ref pa, .ref ca, .int n, .ref bt, v4, v5, v6, v7, v8, v9, v10, v11, v12, v13, .ref bd, v15, v16]))] s.heap.size) [(a, .inr (11, [.ref pa, .ref ca, .int n, .ref bt, v4, v5, v6, v7, v8, v9, v10, v11, v12, v13, .ref bd, v15, v16]))] := hD
  rw [hw]
  refine lv_if_ne (tgt := 11) hx hb d_X11_pane_6 (by decide) (fun c6 => ?_) (fun c6 => ?_)
  rotate_left
  · first | exact absurd c6 (by decide) | exact absurd (by decide) c6
  refine lv_iload_n hx hb d_X11_pane_11 rfl (lv_at hl 2 rfl) ?_
  refine lv_bipush (v := 9) hx hb d_X11_pane_12 (by decide) ?_
  refine mk_callSi (As := [.int y, .int 9]) (rest := []) (k := 2) Z mk_Tmv trivial (k_X11_isWithin (ids := ids) (D := D) (x := y) (n := 9) _) hK hP hD hS hA (isC := []) (isR := [0]) (wc := []) (wr := [(a, .inr (11, [.ref pa, .ref ca, .int n, .ref bt, v4, v5, v6, v7, v8, v9, v10, v11, v12, v13, .ref bd, v15, v16]))]) rfl rfl rfl rfl (by decide) kw_182 kw_183 kw_1 kw_184 yd_X11_isWithin rfl (by decide) (by decide) hl.1 (Nat.le_of_ble_eq_true rfl) d_X11_pane_14 (by show _ ≤ 0; omega) (by show _ ≤ 0; omega) rfl (fun u14 H locs hP hD hS => ?_)
  have hP : va_P D fm_cls [(a, .inr (11, [.ref pa, .ref ca, .int n, .ref bt, v4, v5, v6, v7, v8, v9, v10, v11, v12, v13, .ref bd, v15, v16]))] H := hP
  have hD : va_D (va_A [(a, .inr (11, [.ref pa, .ref ca, .int n, .ref bt, v4, v5, v6, v7, v8, v9, v10, v11, v12, v13, .ref bd, v15, v16]))] s.heap.size) [(a, .inr (11, [.ref pa, .ref ca, .int n, .ref bt, v4, v5, v6, v7, v8, v9, v10, v11, v12, v13, .ref bd, v15, v16]))] := hD
  rw [hy]
  refine lv_if_eq (tgt := 29) hx hb d_X11_pane_17 (by decide) (fun c17 => ?_) (fun c17 => ?_)
  · first | exact absurd c17 (by decide) | exact absurd (by decide) c17
  refine lv_iload_n hx hb d_X11_pane_20 rfl (lv_at hl 3 rfl) ?_
  refine lv_bipush (v := 9) hx hb d_X11_pane_21 (by decide) ?_
  refine mk_callSi (As := [.int z, .int 9]) (rest := []) (k := 2) Z mk_Tmv trivial (k_X11_isWithin (ids := ids) (D := D) (x := z) (n := 9) _) hK hP hD hS hA (isC := []) (isR := [0]) (wc := []) (wr := [(a, .inr (11, [.ref pa, .ref ca, .int n, .ref bt, v4, v5, v6, v7, v8, v9, v10, v11, v12, v13, .ref bd, v15, v16]))]) rfl rfl rfl rfl (by decide) kw_182 kw_183 kw_1 kw_184 yd_X11_isWithin rfl (by decide) (by decide) hl.1 (Nat.le_of_ble_eq_true rfl) d_X11_pane_23 (by show _ ≤ 0; omega) (by show _ ≤ 0; omega) rfl (fun u23 H locs hP hD hS => ?_)
  have hP : va_P D fm_cls [(a, .inr (11, [.ref pa, .ref ca, .int n, .ref bt, v4, v5, v6, v7, v8, v9, v10, v11, v12, v13, .ref bd, v15, v16]))] H := hP
  have hD : va_D (va_A [(a, .inr (11, [.ref pa, .ref ca, .int n, .ref bt, v4, v5, v6, v7, v8, v9, v10, v11, v12, v13, .ref bd, v15, v16]))] s.heap.size) [(a, .inr (11, [.ref pa, .ref ca, .int n, .ref bt, v4, v5, v6, v7, v8, v9, v10, v11, v12, v13, .ref bd, v15, v16]))] := hD
  rw [hz]
  refine lv_if_ne (tgt := 32) hx hb d_X11_pane_26 (by decide) (fun c26 => ?_) (fun c26 => ?_)
  rotate_left
  · first | exact absurd c26 (by decide) | exact absurd (by decide) c26
  refine lv_aload_n hx hb d_X11_pane_32 rfl (lv_at hl 0 rfl) ?_
  refine mk_get (ci := 11) (k := 2) (fs := [.ref pa, .ref ca, .int n, .ref bt, v4, v5, v6, v7, v8, v9, v10, v11, v12, v13, .ref bd, v15, v16]) (v := .int n) Z hK hP 0 rfl (by decide) mf_X11_23_11 rfl d_X11_pane_33 ?_
  refine lv_bipush (v := 6) hx hb d_X11_pane_36 (by decide) ?_
  refine lv_icmp_lt (tgt := 44) hx hb d_X11_pane_38 (by decide) (fun c38 => ?_) (fun c38 => ?_)
  · exact absurd c38 hlt
  refine lv_bipush (v := (-4)) hx hb d_X11_pane_41 (by decide) ?_
  refine mk_reti (mc := 0) (ms := 0) (h0 := 5) (w0 := [(a, .inr (11, [.ref pa, .ref ca, .int n, .ref bt, v4, v5, v6, v7, v8, v9, v10, v11, v12, v13, .ref bd, v15, v16]))]) (post := (fun u : Nat → Nat => [(a, .inr (11, [.ref pa, .ref ca, .int n, .ref bt, v4, v5, v6, v7, v8, v9, v10, v11, v12, v13, .ref bd, v15, v16]))])) Z hr hlk hP hD hS (fun i => ([] : List Nat).getD i 0) rfl rfl ?_ ?_ d_X11_pane_43
  · show _ ≤ 0; omega
  · show _ ≤ 0; first | omega | decide +kernel
