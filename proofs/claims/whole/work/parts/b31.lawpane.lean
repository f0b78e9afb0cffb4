/-! LAW: pane() -/
section PO
variable {D : va_G} {ids : Nat → Nat} {s : State} {A : Nat → Prop} {N np t : Nat} {Kd ad adT : Nat → Nat} {RL : List Nat} {μ : Nat → Nat → Int32} {n : Nat → Nat → Option Nat} {S T : fm_M} {H : Heap} {locs : List Loc}
theorem ct_0 (e0 : n 0 0 = some 1) (e1 : n 0 1 = some 2) (e3 : n 0 3 = some 65) (e14 : n 0 14 = some 22) (e2 : μ 0 2 = nI np) : fm_ct ids (kF Kd N) lC ad (μ, n) 0 = .inr (11, [.ref (ad 1), .ref (ad 2), .int (nI np), .ref (ad 65), fm_fv ad (μ, n) 11 0 4, fm_fv ad (μ, n) 11 0 5, fm_fv ad (μ, n) 11 0 6, fm_fv ad (μ, n) 11 0 7, fm_fv ad (μ, n) 11 0 8, fm_fv ad (μ, n) 11 0 9, fm_fv ad (μ, n) 11 0 10, fm_fv ad (μ, n) 11 0 11, fm_fv ad (μ, n) 11 0 12, fm_fv ad (μ, n) 11 0 13, .ref (ad 22), fm_fv ad (μ, n) 11 0 15, fm_fv ad (μ, n) 11 0 16]) := by
  have hk1 : kF Kd N 0 = 11 := by rw [kF_lo (by omega)]; rfl
  rw [fm_ct_obj hk1 (by omega)]
  have g0 : fm_fv ad (μ, n) 11 0 0 = .ref (ad 1) := by
    show va_rf ((n 0 0).map ad) = _
    rw [e0]
    rfl
  have g1 : fm_fv ad (μ, n) 11 0 1 = .ref (ad 2) := by
    show va_rf ((n 0 1).map ad) = _
    rw [e1]
    rfl
  have g3 : fm_fv ad (μ, n) 11 0 3 = .ref (ad 65) := by
    show va_rf ((n 0 3).map ad) = _
    rw [e3]
    rfl
  have g14 : fm_fv ad (μ, n) 11 0 14 = .ref (ad 22) := by
    show va_rf ((n 0 14).map ad) = _
    rw [e14]
    rfl
  have f2 : fm_fv ad (μ, n) 11 0 2 = .int (nI np) := by
    show Value.int (μ 0 2) = _
    rw [e2]
  have e : (List.range (fm_N 11)).map (fm_fv ad (μ, n) 11 0) = [.ref (ad 1), .ref (ad 2), .int (nI np), .ref (ad 65), fm_fv ad (μ, n) 11 0 4, fm_fv ad (μ, n) 11 0 5, fm_fv ad (μ, n) 11 0 6, fm_fv ad (μ, n) 11 0 7, fm_fv ad (μ, n) 11 0 8, fm_fv ad (μ, n) 11 0 9, fm_fv ad (μ, n) 11 0 10, fm_fv ad (μ, n) 11 0 11, fm_fv ad (μ, n) 11 0 12, fm_fv ad (μ, n) 11 0 13, .ref (ad 22), fm_fv ad (μ, n) 11 0 15, fm_fv ad (μ, n) 11 0 16] := by
    refine (map17 _).trans ?_
    rw [f2, g0, g1, g3, g14]
  rw [e]
theorem wo_P (F : lw_F2 D ids s A Kd N RL ad adT S T H locs) (t : Nat) : va_P D fm_cls (fm_w ids (kF Kd N) lC (RL.filter (fun r => decide (t < r))) ad S ++ fm_w ids kR lR RLT adT T) H := by
  refine va_P.app (W_sub F.1.1 (fun q hq => ?_)) F.2
  obtain ⟨r, hr, e⟩ := List.mem_map.1 hq
  exact List.mem_map.2 ⟨r, (List.mem_filter.1 hr).1, e⟩
theorem wo_d (I : lw_I D ids s A Kd N RL ad adT) {x : Nat × va_E} (hx : x ∈ fm_w ids (kF Kd N) lC (RL.filter (fun r => decide (t < r))) ad S ++ fm_w ids kR lR RLT adT T) {r : Nat} (hr : r ∈ RL) (h : r ≤ t) : x.1 ≠ ad r := by
  intro e
  rcases List.mem_append.1 hx with h1 | h1
  · obtain ⟨q, hq, ex⟩ := List.mem_map.1 h1
    obtain ⟨hq1, hq2⟩ := List.mem_filter.1 hq
    subst ex
    have := I.1.2.2.1 q hq1 r hr e
    have := of_decide_eq_true hq2
    omega
  · obtain ⟨q, hq, ex⟩ := List.mem_map.1 h1
    subst ex
    exact I.2.2.2 r hr q hq e.symm
end PO
section PLW
variable {p : Program} {l : Launch} {e : Env} {s : State} {m : MethodId} {args : Array Value} {below : List Frame} {meth : Method} {c : Code} {H : Heap} {locs : List Loc} {cells slots : Nat} {Q : State → Prop}
variable {ls : Array Slot} {D : va_G} {ids : Nat → Nat} {Kd : Nat → Nat} {N : Nat} {RL : List Nat} {ad adT sk sv : Nat → Nat} {μ : Nat → Nat → Int32} {n : Nat → Nat → Option Nat} {ρ : Nat → Nat → Int32} {A : Nat → Prop}
variable {b0 L i pc idx nL : Nat} {xs : Nat → Int32} {cc : ByteArray} {rest st0 : List Value} {own : String} {S T : fm_M}
theorem lw_pane_err (Z : CallFix p m c cc nL s args fm_AW own) (I : lw_I D ids s A Kd N RL ad adT) (F : lw_F2 D ids s A Kd N RL ad adT S T H locs) {er : Int32} {fs As : List Value} (hO : fm_ct ids (kF Kd N) lC ad S 0 = .inr (11, fs)) (hM : mk_G (fun _ => True) l y_X11_pane prog_1_method_4_code 5 (some .int) 5 0 0 D ids [(ad 0, .inr (11, fs))] (.ref (ad 0) :: As) H.size (mk_Qi D er (fun _ : Nat → Nat => [(ad 0, .inr (11, fs))])))
    (w : lw_wd own idx y_X11_pane prog_1_method_4_code 5 (some .int) 3) (hk : As.length = 3) (hl : ls.size = nL) (hW : (rest.map fun v => v.category).sum ≤ 8) (hdg : decode cc pc = .ok (.invokevirtual idx, 3)) (hcl : cells ≤ 600000) (hsl : slots ≤ 7302250) (hst : st0 = As.reverse ++ .ref (ad 0) :: rest)
    (kk : ∀ H1 locs1, lw_F2 D ids s A Kd N RL ad adT S T H1 locs1 → W p l e room_1 s m args below meth c H1 locs1 cells slots Q (F0 m (pc + 3) ls (.int er :: rest))) : W p l e room_1 s m args below meth c H locs cells slots Q (F0 m pc ls st0) := by
  have h0 : 0 ∈ RL := I.1.2.1 0 (by rw [kF_lo (by omega)]; show (11 : Nat) < 18; omega)
  have m0 : va_at D fm_cls (ad 0, .inr (11, fs)) H := by
    rw [← hO]
    exact va_P_mem F.1.1 (List.mem_map.2 ⟨0, h0, rfl⟩)
  refine lw_pcall (R := room_1) (As := As) (rest := rest) (q0 := 0) (wc := [(ad 0, .inr (11, fs))]) Z mk_Tmv trivial hM I.1.2.2.2.1 (fun i q hi => ?_) (va_D_mk (by simp) (fun q hq => ?_)) F.1.2 I.1.2.2.2.2.2 rfl (by decide) rfl w hk ⟨by show 5 + 1 ≤ 2048; omega, by show 8 + (5 + 11) + 40 * 5 ≤ 84000; omega⟩ hl hW hdg hcl hsl hst _ (wo_P F 0) (fun x hx z hz => ?_) (fun u H1 locs1 q1 q2 q3 q4 => kk H1 locs1 ⟨⟨fun i q hi => ?_, q4⟩, fun i q hi => ?_⟩)
  · match i, hi with
    | 0, hi => cases hi; exact m0
    | i + 1, hi => cases hi
  · rw [List.mem_singleton.1 hq]
    exact I.1.2.2.2.2.1 0 h0
  · rw [List.mem_singleton.1 hz]
    exact wo_d I hx h0 (by omega)
  · obtain ⟨r, hr, ex⟩ := List.mem_map.1 (List.mem_of_getElem? hi)
    subst ex
    by_cases e0 : r = 0
    · subst e0
      rw [hO]
      exact q1 0 _ rfl
    · exact va_P_mem q3 (List.mem_append_left _ (List.mem_map.2 ⟨r, List.mem_filter.2 ⟨hr, decide_eq_true (by omega)⟩, rfl⟩))
  · exact va_P_mem q3 (List.mem_append_right _ (List.mem_of_getElem? hi))
theorem lw_pane (Z : CallFix p m c code 4 s args fm_AW R_law) (hX : va_X b0 L xs s s.heap) (hbl : b0 < s.heap.size) (hbA : ¬ A b0) (NW : fm_NW sk sv A s s.heap) (hXs : ∀ w ∈ pnC, va_Nw w s) (hi : i + 5 ≤ L) (hL : L ≤ 2560) (hcl : cells + 6 ≤ 600000) (hsl : slots + 58 ≤ 7302250)
    (I : lw_I D ids s A Kd N RL ad adT) (F : lw_F2 D ids s A Kd N RL ad adT (μ, n) (ρ, nR) H locs) (hR : Rep Kd μ n ρ) (hC : cl Kd N (μ, n)) (hl : lv_has ls 4 [(0, .ref b0), (1, .ref (ad 0)), (2, .ref (adT 0)), (3, .int (nI i))])
    (kk : ∀ Kd' N' RL' ad' μ' n' ρ' H1 locs1, ad' 0 = ad 0 → lw_I D ids s A Kd' N' RL' ad' adT → Rep Kd' μ' n' ρ' → cl Kd' N' (μ', n') → lw_F2 D ids s A Kd' N' RL' ad' adT (μ', n') (ρ', nR) H1 locs1 → W p l e room_1 s m args below meth c H1 locs1 (cells + 6) (slots + 58) Q (F0 m 1187 ls [])) : W p l e room_1 s m args below meth c H locs cells slots Q (F0 m 216 ls []) := by
  obtain ⟨d0, hdb⟩ := lw_db_c ld_pane
  refine lv_aload_n Z.1 Z.2.1 d0 rfl (lv_at hl 1 rfl) ?_
  refine lw_args Z hX hbl hbA F.1.2 hl hi hL _ [1, 2, 3] _ _ (by decide) hdb (fun hdb => ?_)
  obtain ⟨d1, hdb⟩ := lw_db_c hdb
  obtain ⟨d2, hdb⟩ := lw_db_c hdb
  have tail : ∀ Kd' N' RL' ad' μ' n' ρ' er H1 locs1 cells1 slots1, ad' 0 = ad 0 → lw_I D ids s A Kd' N' RL' ad' adT → Rep Kd' μ' n' ρ' → cl Kd' N' (μ', n') → lw_F2 D ids s A Kd' N' RL' ad' adT (μ', n') (ρ, nR) H1 locs1 → m_X12_pane kR lR 0 (xs (i + 1)) (xs (i + 2)) (xs (i + 3)) (ρ, nR) = some (er, (ρ', nR)) → cells1 ≤ cells + 6 → slots1 ≤ slots + 58 → W p l e room_1 s m args below meth c H1 locs1 cells1 slots1 Q (F0 m (216 + 1 + 5 * 3 + 3) ls [.int er]) := by
    intro Kd' N' RL' ad' μ' n' ρ' er H1 locs1 cells1 slots1 ha I1 hR1 hC1 F1 hm hc1 hs1
    refine W.widen hc1 hs1 ?_
    refine lv_aload_n Z.1 Z.2.1 d2 rfl (lv_at hl 2 rfl) ?_
    refine lw_args Z hX hbl hbA F1.1.2 hl hi hL _ [1, 2, 3] _ _ (by decide) hdb (fun hdb => ?_)
    obtain ⟨d3, hdb⟩ := lw_db_c hdb
    refine lw_xr (R := room_1) (rest := [.int er]) Z I1 F1 NW (c_X12_pane (fm_E_G I1.2.1) hm H1.size) rfl wd_X12_pane rfl ⟨by show 1 + 1 ≤ 2048; omega, by show 8 + (6 + 11) + 40 * 1 ≤ 84000; omega⟩ hl.1 (by show 1 + 0 ≤ 8; omega) d3 hcl hsl rfl (fun H2 locs2 F2 => ?_)
    obtain ⟨d4, hdb⟩ := lw_db_c hdb
    exact lv_icmp_eq Z.1 Z.2.1 d4 (tgt := 1187) rfl (fun _ => kk Kd' N' RL' ad' μ' n' ρ' H2 locs2 ha I1 hR1 hC1 F2) (fun h => absurd rfl h)
  obtain ⟨np, h21, hp, mn, m02⟩ : ∃ np, ρ 1 21 = nI np ∧ np ≤ 6 ∧ mN n ∧ μ 0 2 = nI np := by
    obtain ⟨np, nt, ⟨a1, a2, a3, a4, a5, a6, a7⟩, _⟩ := hR
    exact ⟨np, a6, a7, a1, by rw [a3.1, a6]⟩
  have hnN := np_le hR hC h21 hp
  have hO := ct_0 (ids := ids) (Kd := Kd) (N := N) (ad := ad) mn.1.1 mn.1.2.1 mn.1.2.2.1 mn.1.2.2.2.2.2.2.2.2.2.1 m02
  show W p l e room_1 s m args below meth c H locs cells slots Q (F0 m (216 + 1 + 5 * 3) ls [.int (xs (i + 3)), .int (xs (i + 2)), .int (xs (i + 1)), .ref (ad 0)])
  rcases in_c (xs (i + 1)) (m := 6) (by omega) with h | ⟨k, hk, ek, h⟩
  · exact lw_pane_err (rest := []) (As := [.int (xs (i + 1)), .int (xs (i + 2)), .int (xs (i + 3))]) Z I F hO (k_X11_pane_e1 ((win_b _ _).trans (congrArg b2i h)) H.size) wd_X11_pane rfl hl.1 (by decide) d1 (by omega) (by omega) rfl (fun H1 locs1 F1 => tail Kd N RL ad μ n ρ (-1) H1 locs1 cells slots rfl I hR hC F1 (r_pane_e1 h) (by omega) (by omega))
  rcases in_c (xs (i + 2)) (m := 9) (by omega) with h2 | ⟨v, hv, ev, h2⟩
  · exact lw_pane_err (rest := []) (As := [.int (xs (i + 1)), .int (xs (i + 2)), .int (xs (i + 3))]) Z I F hO (k_X11_pane_e2 ((win_b _ _).trans (congrArg b2i h)) ((win_b _ _).trans (congrArg b2i h2)) H.size) wd_X11_pane rfl hl.1 (by decide) d1 (by omega) (by omega) rfl (fun H1 locs1 F1 => tail Kd N RL ad μ n ρ (-2) H1 locs1 cells slots rfl I hR hC F1 (r_pane_e2 h h2) (by omega) (by omega))
  rcases in_c (xs (i + 3)) (m := 9) (by omega) with h3 | ⟨w, hw, ew, h3⟩
  · exact lw_pane_err (rest := []) (As := [.int (xs (i + 1)), .int (xs (i + 2)), .int (xs (i + 3))]) Z I F hO (k_X11_pane_e3 ((win_b _ _).trans (congrArg b2i h)) ((win_b _ _).trans (congrArg b2i h2)) ((win_b _ _).trans (congrArg b2i h3)) H.size) wd_X11_pane rfl hl.1 (by decide) d1 (by omega) (by omega) rfl (fun H1 locs1 F1 => tail Kd N RL ad μ n ρ (-2) H1 locs1 cells slots rfl I hR hC F1 (r_pane_e3 h h2 h3) (by omega) (by omega))
  by_cases h6 : np = 6
  · subst h6
    exact lw_pane_err (rest := []) (As := [.int (xs (i + 1)), .int (xs (i + 2)), .int (xs (i + 3))]) Z I F hO (k_X11_pane_e4 ((win_b _ _).trans (congrArg b2i h)) ((win_b _ _).trans (congrArg b2i h2)) ((win_b _ _).trans (congrArg b2i h3)) (by decide) H.size) wd_X11_pane rfl hl.1 (by decide) d1 (by omega) (by omega) rfl (fun H1 locs1 F1 => tail Kd N RL ad μ n ρ (-4) H1 locs1 cells slots rfl I hR hC F1 (r_pane_e4 h h2 h3 h21) (by omega) (by omega))
  have hp5 : np < 6 := by omega
  obtain ⟨ρ', er, hρ, hρ1⟩ := r_pane_ok hk hv hw hp5 h21
  have r0 : 0 ∈ RL := I.1.2.1 0 (by rw [kF_lo (by omega)]; show (11 : Nat) < 18; omega)
  have r1 : 1 ∈ RL := I.1.2.1 1 (by rw [kF_lo (by omega)]; show (16 : Nat) < 18; omega)
  have r2 : 2 ∈ RL := I.1.2.1 2 (by rw [kF_lo (by omega)]; show (15 : Nat) < 18; omega)
  have m0 := va_P_mem F.1.1 (List.mem_map.2 ⟨0, r0, rfl⟩)
  have m1 := va_P_mem F.1.1 (List.mem_map.2 ⟨1, r1, rfl⟩)
  have m2 := va_P_mem F.1.1 (List.mem_map.2 ⟨2, r2, rfl⟩)
  have c1 : fm_ct ids (kF Kd N) lC ad (μ, n) 1 = .inl (ids 16, 6, .inr (.inr (.inr (.inr (fun j => (n 1 j).map ad))))) := fm_ct_ref (by rw [kF_lo (by omega)]; rfl) (by omega)
  have c2 : fm_ct ids (kF Kd N) lC ad (μ, n) 2 = .inl (ids 15, 6, .inr (.inr (.inr (.inr (fun j => (n 2 j).map ad))))) := fm_ct_ref (by rw [kF_lo (by omega)]; rfl) (by omega)
  rw [hO] at m0
  rw [c1] at m1
  rw [c2] at m2
  have d01 : ad 0 ≠ ad 1 := fun q => absurd (I.1.2.2.1 0 r0 1 r1 q) (by omega)
  have d02 : ad 0 ≠ ad 2 := fun q => absurd (I.1.2.2.1 0 r0 2 r2 q) (by omega)
  have d12 : ad 1 ≠ ad 2 := fun q => absurd (I.1.2.2.1 1 r1 2 r2 q) (by omega)
  rw [ek, ev, ew]
  refine lw_pane_ok (R := room_1) (rest := []) (k := k) (a := ad 0) (pa := ad 1) (ca := ad 2) (bt := ad 65) (bd := ad 22) (n := nI np) (y := nI v) (z := nI w) (v4 := fm_fv ad (μ, n) 11 0 4) (v5 := fm_fv ad (μ, n) 11 0 5) (v6 := fm_fv ad (μ, n) 11 0 6) (v7 := fm_fv ad (μ, n) 11 0 7) (v8 := fm_fv ad (μ, n) 11 0 8) (v9 := fm_fv ad (μ, n) 11 0 9) (v10 := fm_fv ad (μ, n) 11 0 10) (v11 := fm_fv ad (μ, n) 11 0 11) (v12 := fm_fv ad (μ, n) 11 0 12) (v13 := fm_fv ad (μ, n) 11 0 13) (v15 := fm_fv ad (μ, n) 11 0 15) (v16 := fm_fv ad (μ, n) 11 0 16) (f := fun j => (n 1 j).map ad) (g := fun j => (n 2 j).map ad) (wc := [(ad 0, .inr (11, [.ref (ad 1), .ref (ad 2), .int (nI np), .ref (ad 65), fm_fv ad (μ, n) 11 0 4, fm_fv ad (μ, n) 11 0 5, fm_fv ad (μ, n) 11 0 6, fm_fv ad (μ, n) 11 0 7, fm_fv ad (μ, n) 11 0 8, fm_fv ad (μ, n) 11 0 9, fm_fv ad (μ, n) 11 0 10, fm_fv ad (μ, n) 11 0 11, fm_fv ad (μ, n) 11 0 12, fm_fv ad (μ, n) 11 0 13, .ref (ad 22), fm_fv ad (μ, n) 11 0 15, fm_fv ad (μ, n) 11 0 16])), (ad 1, .inl (ids 16, 6, .inr (.inr (.inr (.inr (fun j => (n 1 j).map ad)))))), (ad 2, .inl (ids 15, 6, .inr (.inr (.inr (.inr (fun j => (n 2 j).map ad))))))]) Z hXs hk (by rw [ev] at h2; exact (win_b _ _).trans (congrArg b2i h2)) (by rw [ew] at h3; exact (win_b _ _).trans (congrArg b2i h3)) (Int32.not_le.1 (nI_ge (b := 6) hp5 (by omega))) (fm_inb_in (fm_inb_nI hp5 (by omega))) I.1.2.2.2.1 rfl (fun i q hi => ?_) (va_D_mk ?_ (fun q hq => ?_)) F.1.2 I.1.2.2.2.2.2 wd_X11_pane ⟨by show 6 ≤ 2048; omega, by show 300 ≤ 84000; omega⟩ hl.1 (by decide) d1 hcl hsl rfl _ (wo_P F 2) (fun x hx z hz => ?_) (fun u H1 locs1 q1 q2 q3 q4 => ?_)
  · match i, hi with
    | 0, hi => cases hi; exact m0
    | 1, hi => cases hi; exact m1
    | 2, hi => cases hi; exact m2
    | i + 3, hi => cases hi
  · show [ad 0, ad 1, ad 2].Nodup
    simp [d01, d02, d12]
  · simp only [List.mem_cons, List.not_mem_nil, or_false] at hq
    rcases hq with hq | hq | hq <;> subst hq
    · exact I.1.2.2.2.2.1 0 r0
    · exact I.1.2.2.2.2.1 1 r1
    · exact I.1.2.2.2.2.1 2 r2
  · simp only [List.mem_cons, List.not_mem_nil, or_false] at hz
    rcases hz with hz | hz | hz <;> subst hz
    · exact wo_d I hx r0 (by omega)
    · exact wo_d I hx r1 (by omega)
    · exact wo_d I hx r2 (by omega)
  · obtain ⟨n1, n2⟩ := pn_new (sz := H.size) (fun q hq => by
      rcases hq with ⟨j, e2, hj⟩ | hq
      · match j, hj with
        | 0, hj => cases hj; exact Or.inl rfl
        | 1, hj => cases hj; exact Or.inr (Or.inl rfl)
        | 2, hj => cases hj; exact Or.inr (Or.inr (Or.inl rfl))
        | j + 3, hj => cases hj
      · exact Or.inr (Or.inr (Or.inr hq))) q2
    have q3a : va_P D fm_cls (fm_w ids (kF Kd N) lC (RL.filter (fun r => decide (2 < r))) ad (μ, n)) H1 := W_sub q3 (fun q hq => List.mem_append_left _ hq)
    have q3b : va_P D fm_cls (fm_w ids kR lR RLT adT (ρ, nR)) H1 := W_sub q3 (fun q hq => List.mem_append_right _ hq)
    have hW := W_pg (y := nI v) (z := nI w) I.2.2.1 hC hk hp5 mn.1.1 mn.1.2.1 mn.1.2.2.1 mn.1.2.2.2.2.2.2.2.2.2.1 q1 q3a
    rw [← W_rn2 (a := np) (b := N) (by omega) (by omega)] at hW
    have hlt : ∀ r, r ∈ RL → ad r < H.size := fun r hr => (W_lt F.1.1 (List.mem_map.2 ⟨r, hr, rfl⟩)).2
    have hltT : ∀ q, q ∈ RLT → adT q < H.size := fun q hq => (W_lt F.2 (List.mem_map.2 ⟨q, hq, rfl⟩)).2
    have I1 := I_rn (a := np) (b := N) (I_pg (k := k) I n1 n2 hlt hltT F.1.2.1) (by omega) (by omega)
    have eA : nI np + 1 - 1 = nI np := by rw [nI_1, nI_pred]
    rw [eA]
    exact tail (fun j => pgK N k Kd (sw np N j)) (N + 1) ((RL ++ pgL N k).map (rnm np N)) (fun r => pgU N (pnU k u) ad (rnm np N r)) (rnS np N (pgM N np k (nI v) (nI w) μ, pgN N np n)).1 (rnS np N (pgM N np k (nI v) (nI w) μ, pgN N np n)).2 ρ' (nI np) H1 locs1 (cells + 6) (slots + 58) (show pgU N (pnU k u) ad (rnm np N 0) = ad 0 by rw [rnm_lo (by omega), pgU_o (by omega)]) I1 (Rep_pg hR h21 hp5 hnN hk hv hw hρ hρ1) (cl_rnm (by omega) (by omega) (cl_pg hk hC)) ⟨⟨hW, q4⟩, q3b⟩ (by rw [ek, ev, ew]; exact er) (Nat.le_refl _) (Nat.le_refl _)
end PLW
