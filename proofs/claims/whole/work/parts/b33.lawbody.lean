/-! LAW: the body of its loop (tool/lawloop.py prints it) -/
theorem ld_shut : lw_db 434 ((.aload_n 1, 1) :: (lw_ai [1, 2] ++ (.ifCond .eq 7, 3) :: (.iconst 1, 1) :: (.goto 4, 3) :: (.iconst 0, 1) :: (.invokevirtual 49, 3) :: (.aload_n 2, 1) :: (lw_ai [1, 2] ++ [(.ifCond .eq 7, 3), (.iconst 1, 1), (.goto 4, 3), (.iconst 0, 1), (.invokevirtual 53, 3), (.if_icmp .eq 709, 3)]))) = true := by decide +kernel
theorem d_law_26 : lw_db 26 [(.aload_n 0, 1), (.iload_n 3, 1), (.iaload, 1), (.bipush 63, 2), (.iand, 1), (.tableswitch 1155 0 32 #[148, 171, 184, 227, 260, 293, 336, 379, 402, 451, 474, 497, 520, 553, 596, 639, 672, 705, 748, 771, 794, 827, 881, 905, 938, 961, 994, 1007, 1050, 1073, 1106, 1119, 1132], 148)] = true := by decide +kernel
theorem lw_offs : ∀ k, k < 33 → (#[148, 171, 184, 227, 260, 293, 336, 379, 402, 451, 474, 497, 520, 553, 596, 639, 672, 705, 748, 771, 794, 827, 881, 905, 938, 961, 994, 1007, 1050, 1073, 1106, 1119, 1132] : Array Int)[k]? = some (((([180, 203, 216, 259, 292, 325, 368, 411, 434, 483, 506, 529, 552, 585, 628, 671, 704, 737, 780, 803, 826, 859, 913, 937, 970, 993, 1026, 1039, 1082, 1105, 1138, 1151, 1164] : List Nat).getD k 0 : Nat) : Int) - 32) := by decide +kernel
section LWB
variable {p : Program} {l : Launch} {e : Env} {s : State} {m : MethodId} {args : Array Value} {below : List Frame} {meth : Method} {c : Code} {H : Heap} {locs : List Loc} {cells slots : Nat} {Q : State → Prop}
variable {ls : Array Slot} {D : va_G} {ids : Nat → Nat} {Kd : Nat → Nat} {N : Nat} {RL : List Nat} {ad adT sk sv : Nat → Nat} {μ : Nat → Nat → Int32} {n : Nat → Nat → Option Nat} {ρ : Nat → Nat → Int32} {A : Nat → Prop}
variable {b0 L i : Nat} {xs : Nat → Int32}
theorem lw_bl {R : Room} {pc : Nat} {x : Int32} {st : List Value} {more : List (Instr × Nat)} (Z : CallFix p m c code 4 s args fm_AW R_law) (hd : lw_db pc ((.ifCond .eq 7, 3) :: (.iconst 1, 1) :: (.goto 4, 3) :: (.iconst 0, 1) :: more) = true) (kk : lw_db (pc + 8) more = true → W p l e R s m args below meth c H locs cells slots Q (F0 m (pc + 8) ls (.int (if x = 0 then 0 else 1) :: st))) : W p l e R s m args below meth c H locs cells slots Q (F0 m pc ls (.int x :: st)) := by
  obtain ⟨d0, hd⟩ := lw_db_c hd
  obtain ⟨d1, hd⟩ := lw_db_c hd
  obtain ⟨d2, hd⟩ := lw_db_c hd
  obtain ⟨d3, hd⟩ := lw_db_c hd
  have kk := kk hd
  refine lv_if_eq (tgt := pc + 7) Z.1 Z.2.1 d0 (by omega) (fun h => ?_) (fun h => ?_)
  · rw [if_pos h] at kk
    exact lv_iconst (v := 0) Z.1 Z.2.1 d3 rfl kk
  · rw [if_neg h] at kk
    refine lv_iconst (v := 1) Z.1 Z.2.1 d1 rfl ?_
    exact lv_goto (tgt := pc + 8) Z.1 Z.2.1 d2 (by show ((pc + 3 + 1 : Nat) : Int) + 4 = _; omega) kk
theorem lw_shut (Z : CallFix p m c code 4 s args fm_AW R_law) (hX : va_X b0 L xs s s.heap) (hbl : b0 < s.heap.size) (hbA : ¬ A b0) (NW : fm_NW sk sv A s s.heap) (hi : i + 5 ≤ L) (hL : L ≤ 2560) (hcl : cells ≤ 600000) (hsl : slots ≤ 7302250)
    (I : lw_I D ids s A Kd N RL ad adT) (F : lw_F2 D ids s A Kd N RL ad adT (μ, n) (ρ, nR) H locs) (hR : Rep Kd μ n ρ) (hC : cl Kd N (μ, n)) (hl : lv_has ls 4 [(0, .ref b0), (1, .ref (ad 0)), (2, .ref (adT 0)), (3, .int (nI i))])
    (kk : ∀ μ' n' ρ' H1 locs1, Rep Kd μ' n' ρ' → cl Kd N (μ', n') → lw_F2 D ids s A Kd N RL ad adT (μ', n') (ρ', nR) H1 locs1 → W p l e room_1 s m args below meth c H1 locs1 cells slots Q (F0 m 1187 ls [])) : W p l e room_1 s m args below meth c H locs cells slots Q (F0 m 434 ls []) := by
  obtain ⟨r, μ', n', ρ', q1, q2, hR', hC'⟩ := lq_shut (l := l) (D := D) (ids := ids) (xs (i + 1)) (if xs (i + 2) = 0 then 0 else 1) (by
    by_cases h : xs (i + 2) = 0
    · rw [if_pos h]; exact Or.inl rfl
    · rw [if_neg h]; exact Or.inr rfl) Kd N μ n ρ RL ad adT sk sv hR hC (fm_E_G I.1) (fm_E_G I.2.1)
  obtain ⟨d0, hdb⟩ := lw_db_c ld_shut
  refine lv_aload_n Z.1 Z.2.1 d0 rfl (lv_at hl 1 rfl) ?_
  refine lw_args Z hX hbl hbA F.1.2 hl hi hL _ [1, 2] _ _ (by decide) hdb (fun hdb => ?_)
  refine lw_bl Z hdb (fun hdb => ?_)
  obtain ⟨d1, hdb⟩ := lw_db_c hdb
  refine lw_xc (R := room_1) (rest := []) (As := [.int (xs (i + 1)), .int (if xs (i + 2) = 0 then 0 else 1)]) Z I F NW (q1 H.size) rfl wd_X11_shut rfl ⟨by show 2 + 1 ≤ 2048; omega, by show 8 + (4 + 11) + 40 * 2 ≤ 84000; omega⟩ hl.1 (by decide) d1 hcl hsl rfl (fun H1 locs1 F1 => ?_)
  obtain ⟨d2, hdb⟩ := lw_db_c hdb
  refine lv_aload_n Z.1 Z.2.1 d2 rfl (lv_at hl 2 rfl) ?_
  refine lw_args Z hX hbl hbA F1.1.2 hl hi hL _ [1, 2] _ _ (by decide) hdb (fun hdb => ?_)
  refine lw_bl Z hdb (fun hdb => ?_)
  obtain ⟨d3, hdb⟩ := lw_db_c hdb
  refine lw_xr (R := room_1) (rest := [.int r]) (As := [.int (xs (i + 1)), .int (if xs (i + 2) = 0 then 0 else 1)]) Z I F1 NW (q2 H1.size) rfl wd_X12_shut rfl ⟨by show 2 + 1 ≤ 2048; omega, by show 8 + (3 + 11) + 40 * 2 ≤ 84000; omega⟩ hl.1 (by show 1 + 0 ≤ 8; omega) d3 hcl hsl rfl (fun H2 locs2 F2 => ?_)
  obtain ⟨d4, hdb⟩ := lw_db_c hdb
  exact lv_icmp_eq Z.1 Z.2.1 d4 (tgt := 1187) rfl (fun _ => kk μ' n' ρ' H2 locs2 hR' hC' F2) (fun h => absurd rfl h)
theorem and63 (x : Int32) : ∃ k, k < 64 ∧ x &&& 63 = nI k := by
  refine ⟨(x &&& 63).toBitVec.toNat, ?_, ?_⟩
  · have h : (x &&& 63).toBitVec.toNat = x.toBitVec.toNat &&& 63 := by
      rw [Int32.toBitVec_and, BitVec.toNat_and]
      rfl
    rw [h]
    exact Nat.lt_of_le_of_lt Nat.and_le_right (by omega)
  · apply Int32.toBitVec_inj.1
    show _ = BitVec.ofNat 32 _
    apply BitVec.eq_of_toNat_eq
    rw [BitVec.toNat_ofNat, Nat.mod_eq_of_lt (BitVec.isLt _)]
theorem lw_body (Z : CallFix p m c code 4 s args fm_AW R_law) (hX : va_X b0 L xs s s.heap) (hbl : b0 < s.heap.size) (hbA : ¬ A b0) (NW : fm_NW sk sv A s s.heap) (hXs : ∀ w ∈ pnC, va_Nw w s) (hi : i + 5 ≤ L) (hL : L ≤ 2560) (hcl : cells + 6 ≤ 600000) (hsl : slots + 58 ≤ 7302250)
    (I : lw_I D ids s A Kd N RL ad adT) (F : lw_F2 D ids s A Kd N RL ad adT (μ, n) (ρ, nR) H locs) (hR : Rep Kd μ n ρ) (hC : cl Kd N (μ, n)) (hl : lv_has ls 4 [(0, .ref b0), (1, .ref (ad 0)), (2, .ref (adT 0)), (3, .int (nI i))])
    (kk : ∀ Kd' N' RL' ad' μ' n' ρ' H1 locs1, ad' 0 = ad 0 → lw_I D ids s A Kd' N' RL' ad' adT → Rep Kd' μ' n' ρ' → cl Kd' N' (μ', n') → lw_F2 D ids s A Kd' N' RL' ad' adT (μ', n') (ρ', nR) H1 locs1 → W p l e room_1 s m args below meth c H1 locs1 (cells + 6) (slots + 58) Q (F0 m 1187 ls [])) : W p l e room_1 s m args below meth c H locs cells slots Q (F0 m 26 ls []) := by
  have kx : ∀ μ' n' ρ' H1 locs1, Rep Kd μ' n' ρ' → cl Kd N (μ', n') → lw_F2 D ids s A Kd N RL ad adT (μ', n') (ρ', nR) H1 locs1 → W p l e room_1 s m args below meth c H1 locs1 cells slots Q (F0 m 1187 ls []) := fun μ' n' ρ' H1 locs1 h1 h2 h3 => W.widen (by omega) (by omega) (kk Kd N RL ad μ' n' ρ' H1 locs1 rfl I h1 h2 h3)
  obtain ⟨d0, hd⟩ := lw_db_c d_law_26
  obtain ⟨d1, hd⟩ := lw_db_c hd
  obtain ⟨d2, hd⟩ := lw_db_c hd
  obtain ⟨d3, hd⟩ := lw_db_c hd
  obtain ⟨d4, hd⟩ := lw_db_c hd
  obtain ⟨d5, hd⟩ := lw_db_c hd
  refine lv_aload_n Z.1 Z.2.1 d0 rfl (lv_at hl 0 rfl) ?_
  refine lv_iload_n Z.1 Z.2.1 d1 rfl (lv_at hl 3 rfl) ?_
  refine va_sld Z.1 Z.2.1 hX hbl hbA F.1.2 (fm_inb_in (fm_inb_nI (by omega) (by omega))) d2 ?_
  refine lv_bipush (v := 63) Z.1 Z.2.1 d3 (by decide) ?_
  refine lv_iand Z.1 Z.2.1 d4 ?_
  obtain ⟨k, hk, ek⟩ := and63 (xs (nI i).toNatClampNeg)
  rw [ek]
  have e1 : (nI k).toInt = (k : Int) := nI_toInt (by omega)
  by_cases h33 : k < 33
  · refine lv_tableIn (tgt := ([180, 203, 216, 259, 292, 325, 368, 411, 434, 483, 506, 529, 552, 585, 628, 671, 704, 737, 780, 803, 826, 859, 913, 937, 970, 993, 1026, 1039, 1082, 1105, 1138, 1151, 1164] : List Nat).getD k 0) Z.1 Z.2.1 d5 (by rw [e1]; omega) (by rw [e1]; omega) (by rw [e1, show ((k : Int) - 0).toNat = k by omega]; exact lw_offs k h33) (by show (32 : Int) + _ = _; omega) ?_
    match k, h33 with
    | 0, _ => exact lw_case Z hX hbl hbA NW hi hL (by omega) (by omega) I F hR hC hl [1] 180 13 17 989 (by decide) rfl ld_feed rfl rfl wd_X11_feed wd_X12_feed (by omega) (lq_feed _) rfl kx
    | 1, _ => exact lw_case Z hX hbl hbA NW hi hL (by omega) (by omega) I F hR hC hl [] 203 18 22 976 (by decide) rfl ld_town rfl rfl wd_X11_town wd_X12_town (by omega) (lq_town) rfl kx
    | 2, _ => exact lw_pane Z hX hbl hbA NW hXs hi hL hcl hsl I F hR hC hl kk
    | 3, _ => exact lw_case Z hX hbl hbA NW hi hL (by omega) (by omega) I F hR hC hl [1, 2] 259 28 32 900 (by decide) rfl ld_of rfl rfl wd_X11_of wd_X12_of (by omega) (lq_of _ _) rfl kx
    | 4, _ => exact lw_case Z hX hbl hbA NW hi hL (by omega) (by omega) I F hR hC hl [1, 2] 292 33 36 867 (by decide) rfl ld_grows rfl rfl wd_X11_grows wd_X12_grows (by omega) (lq_grows _ _) rfl kx
    | 5, _ => exact lw_case Z hX hbl hbA NW hi hL (by omega) (by omega) I F hR hC hl [1, 2, 3] 325 37 40 824 (by decide) rfl ld_row rfl rfl wd_X11_row wd_X12_row (by omega) (lq_row _ _ _) rfl kx
    | 6, _ => exact lw_case Z hX hbl hbA NW hi hL (by omega) (by omega) I F hR hC hl [1, 2, 3] 368 41 44 781 (by decide) rfl ld_set rfl rfl wd_X11_set wd_X12_set (by omega) (lq_set _ _ _) rfl kx
    | 7, _ => exact lw_case Z hX hbl hbA NW hi hL (by omega) (by omega) I F hR hC hl [1] 411 45 48 758 (by decide) rfl ld_cold rfl rfl wd_X11_cold wd_X12_cold (by omega) (lq_cold _) rfl kx
    | 8, _ => exact lw_shut Z hX hbl hbA NW hi hL (by omega) (by omega) I F hR hC hl kx
    | 9, _ => exact lw_case Z hX hbl hbA NW hi hL (by omega) (by omega) I F hR hC hl [1] 483 54 57 686 (by decide) rfl ld_breathe rfl rfl wd_X11_breathe wd_X12_breathe (by omega) (lq_breathe _) rfl kx
    | 10, _ => exact lw_case Z hX hbl hbA NW hi hL (by omega) (by omega) I F hR hC hl [1] 506 58 61 663 (by decide) rfl ld_told rfl rfl wd_X11_told wd_X12_told (by omega) (lq_told _) rfl kx
    | 11, _ => exact lw_case Z hX hbl hbA NW hi hL (by omega) (by omega) I F hR hC hl [1] 529 62 65 640 (by decide) rfl ld_pass rfl rfl wd_X11_pass wd_X12_pass (by omega) (lq_pass _) rfl kx
    | 12, _ => exact lw_case Z hX hbl hbA NW hi hL (by omega) (by omega) I F hR hC hl [1, 2] 552 66 69 607 (by decide) rfl ld_on rfl rfl wd_X11_on wd_X12_on (by omega) (lq_on _ _) rfl kx
    | 13, _ => exact lw_case Z hX hbl hbA NW hi hL (by omega) (by omega) I F hR hC hl [1, 2, 3] 585 70 73 564 (by decide) rfl ld_best rfl rfl wd_X11_best wd_X12_best (by omega) (lq_best _ _ _) rfl kx
    | 14, _ => exact lw_case Z hX hbl hbA NW hi hL (by omega) (by omega) I F hR hC hl [1, 2, 3] 628 74 77 521 (by decide) rfl ld_heat rfl rfl wd_X11_heat wd_X12_heat (by omega) (lq_heat _ _ _) rfl kx
    | 15, _ => exact lw_case Z hX hbl hbA NW hi hL (by omega) (by omega) I F hR hC hl [1, 2] 671 78 81 488 (by decide) rfl ld_comes rfl rfl wd_X11_comes wd_X12_comes (by omega) (lq_comes _ _) rfl kx
    | 16, _ => exact lw_case Z hX hbl hbA NW hi hL (by omega) (by omega) I F hR hC hl [1, 2] 704 82 85 455 (by decide) rfl ld_breaths rfl rfl wd_X11_breaths wd_X12_breaths (by omega) (lq_breaths _ _) rfl kx
    | 17, _ => exact lw_case Z hX hbl hbA NW hi hL (by omega) (by omega) I F hR hC hl [1, 2, 3] 737 86 89 412 (by decide) rfl ld_see rfl rfl wd_X11_see wd_X12_see (by omega) (lq_see _ _ _) rfl kx
    | 18, _ => exact lw_case Z hX hbl hbA NW hi hL (by omega) (by omega) I F hR hC hl [1] 780 90 93 389 (by decide) rfl ld_colds rfl rfl wd_X11_colds wd_X12_colds (by omega) (lq_colds _) rfl kx
    | 19, _ => exact lw_case Z hX hbl hbA NW hi hL (by omega) (by omega) I F hR hC hl [1] 803 94 97 366 (by decide) rfl ld_warms rfl rfl wd_X11_warms wd_X12_warms (by omega) (lq_warms _) rfl kx
    | 20, _ => exact lw_case Z hX hbl hbA NW hi hL (by omega) (by omega) I F hR hC hl [1, 2] 826 98 101 333 (by decide) rfl ld_firm rfl rfl wd_X11_firm wd_X12_firm (by omega) (lq_firm _ _) rfl kx
    | 21, _ => exact lw_caseL Z hX hbl hbA NW hi hL (by omega) (by omega) I F hR hC hl [1, 2, 3, 4] 859 102 106 279 (by decide) rfl ld_odds rfl rfl wd_X11_odds wd_X12_odds (by omega) (lq_odds _ _ _ _) rfl kx
    | 22, _ => exact lw_caseL Z hX hbl hbA NW hi hL (by omega) (by omega) I F hR hC hl [1] 913 107 111 255 (by decide) rfl ld_mean rfl rfl wd_X11_mean wd_X12_mean (by omega) (lq_mean _) rfl kx
    | 23, _ => exact lw_case Z hX hbl hbA NW hi hL (by omega) (by omega) I F hR hC hl [1, 2] 937 112 115 222 (by decide) rfl ld_plan rfl rfl wd_X11_plan wd_X12_plan (by omega) (lq_plan _ _) rfl kx
    | 24, _ => exact lw_case Z hX hbl hbA NW hi hL (by omega) (by omega) I F hR hC hl [1] 970 116 119 199 (by decide) rfl ld_done rfl rfl wd_X11_done wd_X12_done (by omega) (lq_done _) rfl kx
    | 25, _ => exact lw_case Z hX hbl hbA NW hi hL (by omega) (by omega) I F hR hC hl [1, 2] 993 120 123 166 (by decide) rfl ld_book rfl rfl wd_X11_book wd_X12_book (by omega) (lq_book _ _) rfl kx
    | 26, _ => exact lw_case Z hX hbl hbA NW hi hL (by omega) (by omega) I F hR hC hl [] 1026 124 127 153 (by decide) rfl ld_looked rfl rfl wd_X11_looked wd_X12_looked (by omega) (lq_looked) rfl kx
    | 27, _ => exact lw_case Z hX hbl hbA NW hi hL (by omega) (by omega) I F hR hC hl [1, 2, 3] 1039 128 131 110 (by decide) rfl ld_act rfl rfl wd_X11_act wd_X12_act (by omega) (lq_act _ _ _) rfl kx
    | 28, _ => exact lw_case Z hX hbl hbA NW hi hL (by omega) (by omega) I F hR hC hl [1] 1082 132 135 87 (by decide) rfl ld_trace rfl rfl wd_X11_trace wd_X12_trace (by omega) (lq_trace _) rfl kx
    | 29, _ => exact lw_case Z hX hbl hbA NW hi hL (by omega) (by omega) I F hR hC hl [1, 2] 1105 136 139 54 (by decide) rfl ld_as rfl rfl wd_X11_as wd_X12_as (by omega) (lq_as _ _) rfl kx
    | 30, _ => exact lw_case Z hX hbl hbA NW hi hL (by omega) (by omega) I F hR hC hl [] 1138 140 143 41 (by decide) rfl ld_image rfl rfl wd_X11_image wd_X12_image (by omega) (lq_image) rfl kx
    | 31, _ => exact lw_case Z hX hbl hbA NW hi hL (by omega) (by omega) I F hR hC hl [] 1151 144 147 28 (by decide) rfl ld_undo rfl rfl wd_X11_undo wd_X12_undo (by omega) (lq_undo) rfl kx
    | 32, _ => exact lw_case Z hX hbl hbA NW hi hL (by omega) (by omega) I F hR hC hl [1] 1164 148 151 5 (by decide) rfl ld_count rfl rfl wd_X11_count wd_X12_count (by omega) (lq_count _) rfl kx
    | k + 33, h => exact absurd h (by omega)
  · exact lv_tableOut (tgt := 1187) Z.1 Z.2.1 d5 (Or.inr (by rw [e1]; omega)) rfl (kx μ n ρ H locs hR hC F)
end LWB
