/-! LAW: its loop -/
section LWL
variable {p : Program} {l : Launch} {e : Env} {s : State} {m : MethodId} {args : Array Value} {below : List Frame} {meth : Method} {c : Code} {H : Heap} {locs : List Loc} {cells slots : Nat} {Q : State → Prop}
variable {ls : Array Slot} {D : va_G} {ids : Nat → Nat} {Kd : Nat → Nat} {N : Nat} {RL : List Nat} {ad adT sk sv : Nat → Nat} {μ : Nat → Nat → Int32} {n : Nat → Nat → Option Nat} {ρ : Nat → Nat → Int32} {A : Nat → Prop}
variable {b0 L i : Nat} {xs : Nat → Int32}
theorem d_law_18 : lw_db 18 [(.iload_n 3, 1), (.aload_n 0, 1), (.arraylength, 1), (.iconst 5, 1), (.isub, 1), (.if_icmp .gt 1170, 3)] = true := by decide +kernel
theorem d_law_1187 : lw_db 1187 [(.iinc 3 5, 3), (.goto (-1172), 3), (.iconst 1, 1), (.ireturn, 1)] = true := by decide +kernel
theorem lw_gt {L i : Nat} (hL : L ≤ 2560) (hi : i ≤ 2560) : nI L - 5 < nI i ↔ L < i + 5 := by
  have e5 : (5 : Int32).toInt = 5 := by decide
  have e : (nI L - 5).toInt = (L : Int) - 5 := by
    rw [Int32.toInt_sub, nI_toInt (by omega), e5]
    exact Int.bmod_eq_of_le (by omega) (by omega)
  rw [Int32.lt_iff_toInt_lt, e, nI_toInt (by omega)]
  omega
theorem lw_loop {a0 : Nat} (Z : CallFix p m c code 4 s args fm_AW R_law) (hX : va_X b0 L xs s s.heap) (hbl : b0 < s.heap.size) (hbA : ¬ A b0) (NW : fm_NW sk sv A s s.heap) (hXs : ∀ w ∈ pnC, va_Nw w s) (hL : L ≤ 2560)
    (kx : ∀ (ls : Array Slot) (H : Heap) (locs : List Loc) (cells slots : Nat), va_S A s.heap H locs → cells ≤ 600000 → slots ≤ 7302250 → W p l e room_1 s m args below meth c H locs cells slots Q (F0 m 1193 ls [])) : ∀ (d i : Nat) (ls : Array Slot) (Kd : Nat → Nat) (N : Nat) (RL : List Nat) (ad : Nat → Nat) (μ : Nat → Nat → Int32) (n : Nat → Nat → Option Nat) (ρ : Nat → Nat → Int32) (H : Heap) (locs : List Loc) (cells slots : Nat), L ≤ i + 5 * d + 4 → i ≤ L → cells ≤ 100 + 2 * i → slots ≤ 5000 + 12 * i → ad 0 = a0 → lw_I D ids s A Kd N RL ad adT → lw_F2 D ids s A Kd N RL ad adT (μ, n) (ρ, nR) H locs → Rep Kd μ n ρ → cl Kd N (μ, n) → lv_has ls 4 [(0, .ref b0), (1, .ref a0), (2, .ref (adT 0)), (3, .int (nI i))] → W p l e room_1 s m args below meth c H locs cells slots Q (F0 m 18 ls []) := by
  intro d
  induction d with
  | zero =>
    intro i ls Kd N RL ad μ n ρ H locs cells slots hd hi hcl hsl ha I F hR hC hl
    obtain ⟨d0, q⟩ := lw_db_c d_law_18
    obtain ⟨d1, q⟩ := lw_db_c q
    obtain ⟨d2, q⟩ := lw_db_c q
    obtain ⟨d3, q⟩ := lw_db_c q
    obtain ⟨d4, q⟩ := lw_db_c q
    obtain ⟨d5, q⟩ := lw_db_c q
    refine lv_iload_n Z.1 Z.2.1 d0 rfl (lv_at hl 3 rfl) ?_
    refine lv_aload_n Z.1 Z.2.1 d1 rfl (lv_at hl 0 rfl) ?_
    refine va_slen Z.1 Z.2.1 hX hbl hbA F.1.2 d2 ?_
    refine lv_iconst (v := 5) Z.1 Z.2.1 d3 (by decide) ?_
    refine lv_isub Z.1 Z.2.1 d4 ?_
    exact lv_icmp_gt (tgt := 1193) Z.1 Z.2.1 d5 rfl (fun _ => kx ls H locs cells slots F.1.2 (by omega) (by omega)) (fun h => absurd ((lw_gt hL (by omega)).2 (by omega)) h)
  | succ d ih =>
    intro i ls Kd N RL ad μ n ρ H locs cells slots hd hi hcl hsl ha I F hR hC hl
    obtain ⟨d0, q⟩ := lw_db_c d_law_18
    obtain ⟨d1, q⟩ := lw_db_c q
    obtain ⟨d2, q⟩ := lw_db_c q
    obtain ⟨d3, q⟩ := lw_db_c q
    obtain ⟨d4, q⟩ := lw_db_c q
    obtain ⟨d5, q⟩ := lw_db_c q
    refine lv_iload_n Z.1 Z.2.1 d0 rfl (lv_at hl 3 rfl) ?_
    refine lv_aload_n Z.1 Z.2.1 d1 rfl (lv_at hl 0 rfl) ?_
    refine va_slen Z.1 Z.2.1 hX hbl hbA F.1.2 d2 ?_
    refine lv_iconst (v := 5) Z.1 Z.2.1 d3 (by decide) ?_
    refine lv_isub Z.1 Z.2.1 d4 ?_
    refine lv_icmp_gt (tgt := 1193) Z.1 Z.2.1 d5 rfl (fun _ => kx ls H locs cells slots F.1.2 (by omega) (by omega)) (fun h => ?_)
    have h5 : i + 5 ≤ L := by
      by_cases h5 : i + 5 ≤ L
      · exact h5
      · exact absurd ((lw_gt hL (by omega)).2 (by omega)) h
    subst ha
    refine lw_body Z hX hbl hbA NW hXs h5 hL (by omega) (by omega) I F hR hC hl (fun Kd' N' RL' ad' μ' n' ρ' H1 locs1 ha1 I1 hR1 hC1 F1 => ?_)
    obtain ⟨e0, q⟩ := lw_db_c d_law_1187
    obtain ⟨e1, q⟩ := lw_db_c q
    refine lv_iinc (k := 3) (v := nI (i + 5)) Z.1 Z.2.1 e0 hl rfl (show nI i + nI 5 = _ from nI_add i 5) (by omega) rfl (fun ls1 hl1 => ?_)
    refine lv_goto (tgt := 18) Z.1 Z.2.1 e1 rfl ?_
    exact ih (i + 5) ls1 Kd' N' RL' ad' μ' n' ρ' H1 locs1 (cells + 6) (slots + 58) (by omega) h5 (by omega) (by omega) ha1 I1 F1 hR1 hC1 (lv_sub hl1 [1, 2, 3, 0] rfl)
end LWL
