/-! LAW: a case, both sides -/
def lw_ok (l : Launch) (D : va_G) (ids : Nat → Nat) (y1 : MethodName) (b1 : ByteArray) (n1 h1 : Nat) (y2 : MethodName) (b2 : ByteArray) (n2 h2 : Nat) (As : List Value) : Prop := ∀ (Kd : Nat → Nat) (N : Nat) (μ : Nat → Nat → Int32) (n : Nat → Nat → Option Nat) (ρ : Nat → Nat → Int32) (RL : List Nat) (ad adT sk sv : Nat → Nat), Rep Kd μ n ρ → cl Kd N (μ, n) → fm_E (kF Kd N) RL ad → fm_E kR RLT adT → ∃ r μ' n' ρ', (∀ sz, fm_MI l y1 b1 n1 (some .int) h1 D ids (kF Kd N) lC RL ad sk sv (μ, n) (.ref (ad 0) :: As) sz r (μ', n')) ∧ (∀ sz, fm_MI l y2 b2 n2 (some .int) h2 D ids kR lR RLT adT sk sv (ρ, nR) (.ref (adT 0) :: As) sz r (ρ', nR)) ∧ Rep Kd μ' n' ρ' ∧ cl Kd N (μ', n')
def lw_okL (l : Launch) (D : va_G) (ids : Nat → Nat) (y1 : MethodName) (b1 : ByteArray) (n1 h1 : Nat) (y2 : MethodName) (b2 : ByteArray) (n2 h2 : Nat) (As : List Value) : Prop := ∀ (Kd : Nat → Nat) (N : Nat) (μ : Nat → Nat → Int32) (n : Nat → Nat → Option Nat) (ρ : Nat → Nat → Int32) (RL : List Nat) (ad adT sk sv : Nat → Nat), Rep Kd μ n ρ → cl Kd N (μ, n) → fm_E (kF Kd N) RL ad → fm_E kR RLT adT → ∃ r μ' n' ρ', (∀ sz, fm_ML l y1 b1 n1 (some .long) h1 D ids (kF Kd N) lC RL ad sk sv (μ, n) (.ref (ad 0) :: As) sz r (μ', n')) ∧ (∀ sz, fm_ML l y2 b2 n2 (some .long) h2 D ids kR lR RLT adT sk sv (ρ, nR) (.ref (adT 0) :: As) sz r (ρ', nR)) ∧ Rep Kd μ' n' ρ' ∧ cl Kd N (μ', n')
theorem gR_0 {Kd : Nat → Nat} {N : Nat} : gR Kd N 0 := Or.inl (by omega)
theorem fm_E_G {D : va_G} {ids kap : Nat → Nat} {RL : List Nat} {ad : Nat → Nat} {s : State} {A : Nat → Prop} (G : fm_G D ids kap RL ad s A) : fm_E kap RL ad := ⟨G.1, G.2.1, G.2.2.1⟩
section LAWC2
variable {p : Program} {l : Launch} {e : Env} {s : State} {m : MethodId} {args : Array Value} {below : List Frame} {meth : Method} {c : Code} {H : Heap} {locs : List Loc} {cells slots : Nat} {Q : State → Prop}
variable {ls : Array Slot} {D : va_G} {ids : Nat → Nat} {Kd : Nat → Nat} {N : Nat} {RL : List Nat} {ad adT sk sv : Nat → Nat} {μ : Nat → Nat → Int32} {n : Nat → Nat → Option Nat} {ρ : Nat → Nat → Int32} {A : Nat → Prop}
variable {b0 L i : Nat} {xs : Nat → Int32}
theorem lw_case (Z : CallFix p m c code 4 s args fm_AW R_law) (hX : va_X b0 L xs s s.heap) (hbl : b0 < s.heap.size) (hbA : ¬ A b0) (NW : fm_NW sk sv A s s.heap) (hi : i + 5 ≤ L) (hL : L ≤ 2560) (hcl : cells ≤ 600000) (hsl : slots ≤ 7302250)
    (I : lw_I D ids s A Kd N RL ad adT) (F : lw_F2 D ids s A Kd N RL ad adT (μ, n) (ρ, nR) H locs) (hR : Rep Kd μ n ρ) (hC : cl Kd N (μ, n)) (hl : lv_has ls 4 [(0, .ref b0), (1, .ref (ad 0)), (2, .ref (adT 0)), (3, .int (nI i))])
    (js : List Nat) (pc i1 i2 : Nat) (off : Int) {y1 y2 : MethodName} {b1 b2 : ByteArray} {n1 n2 h1 h2 k : Nat} (hjs : ∀ j ∈ js, j < 5) (hk : js.length = k)
    (hdb : lw_db pc ((.aload_n 1, 1) :: (lw_ai js ++ (.invokevirtual i1, 3) :: (.aload_n 2, 1) :: (lw_ai js ++ [(.invokevirtual i2, 3), (.if_icmp .eq off, 3)]))) = true)
    (hy1 : y1.cls = "FrostBids") (hy2 : y2.cls = "FrostBidsModel") (w1 : lw_wd R_law i1 y1 b1 n1 (some .int) k) (w2 : lw_wd R_law i2 y2 b2 n2 (some .int) k) (hr : h1 ≤ 100 ∧ h2 ≤ 100 ∧ n1 ≤ 100 ∧ n2 ≤ 100)
    (hok : lw_ok l D ids y1 b1 n1 h1 y2 b2 n2 h2 (js.map (fun j => Value.int (xs (i + j))))) (ht : ((pc + 1 + 5 * js.length + 3 + 1 + 5 * js.length + 3 : Nat) : Int) + off = ((1187 : Nat) : Int))
    (kk : ∀ μ' n' ρ' H1 locs1, Rep Kd μ' n' ρ' → cl Kd N (μ', n') → lw_F2 D ids s A Kd N RL ad adT (μ', n') (ρ', nR) H1 locs1 → W p l e room_1 s m args below meth c H1 locs1 cells slots Q (F0 m 1187 ls [])) : W p l e room_1 s m args below meth c H locs cells slots Q (F0 m pc ls []) := by
  obtain ⟨r, μ', n', ρ', q1, q2, hR', hC'⟩ := hok Kd N μ n ρ RL ad adT sk sv hR hC (fm_E_G I.1) (fm_E_G I.2.1)
  obtain ⟨d0, hdb⟩ := lw_db_c hdb
  refine lv_aload_n Z.1 Z.2.1 d0 rfl (lv_at hl 1 rfl) ?_
  refine lw_args Z hX hbl hbA F.1.2 hl hi hL _ js _ _ hjs hdb (fun hdb => ?_)
  obtain ⟨d1, hdb⟩ := lw_db_c hdb
  refine lw_xc (R := room_1) (rest := []) Z I F NW (q1 H.size) hy1 w1 (by rw [List.length_map]; exact hk) ⟨by show h1 + 1 ≤ 2048; omega, by show 8 + (n1 + 11) + 40 * h1 ≤ 84000; omega⟩ hl.1 (by decide) d1 hcl hsl rfl (fun H1 locs1 F1 => ?_)
  obtain ⟨d2, hdb⟩ := lw_db_c hdb
  refine lv_aload_n Z.1 Z.2.1 d2 rfl (lv_at hl 2 rfl) ?_
  refine lw_args Z hX hbl hbA F1.1.2 hl hi hL _ js _ _ hjs hdb (fun hdb => ?_)
  obtain ⟨d3, hdb⟩ := lw_db_c hdb
  refine lw_xr (R := room_1) (rest := [.int r]) Z I F1 NW (q2 H1.size) hy2 w2 (by rw [List.length_map]; exact hk) ⟨by show h2 + 1 ≤ 2048; omega, by show 8 + (n2 + 11) + 40 * h2 ≤ 84000; omega⟩ hl.1 (by show 1 + 0 ≤ 8; omega) d3 hcl hsl rfl (fun H2 locs2 F2 => ?_)
  obtain ⟨d4, hdb⟩ := lw_db_c hdb
  exact lv_icmp_eq Z.1 Z.2.1 d4 ht (fun _ => kk μ' n' ρ' H2 locs2 hR' hC' F2) (fun h => absurd rfl h)
theorem lg_cmp_self (x : Int64) : lg_cmp x x = 0 := by
  unfold lg_cmp
  have h : ¬ x < x := Int64.lt_irrefl
  simp [h]
theorem lw_caseL (Z : CallFix p m c code 4 s args fm_AW R_law) (hX : va_X b0 L xs s s.heap) (hbl : b0 < s.heap.size) (hbA : ¬ A b0) (NW : fm_NW sk sv A s s.heap) (hi : i + 5 ≤ L) (hL : L ≤ 2560) (hcl : cells ≤ 600000) (hsl : slots ≤ 7302250)
    (I : lw_I D ids s A Kd N RL ad adT) (F : lw_F2 D ids s A Kd N RL ad adT (μ, n) (ρ, nR) H locs) (hR : Rep Kd μ n ρ) (hC : cl Kd N (μ, n)) (hl : lv_has ls 4 [(0, .ref b0), (1, .ref (ad 0)), (2, .ref (adT 0)), (3, .int (nI i))])
    (js : List Nat) (pc i1 i2 : Nat) (off : Int) {y1 y2 : MethodName} {b1 b2 : ByteArray} {n1 n2 h1 h2 k : Nat} (hjs : ∀ j ∈ js, j < 5) (hk : js.length = k)
    (hdb : lw_db pc ((.aload_n 1, 1) :: (lw_ai js ++ (.invokevirtual i1, 3) :: (.aload_n 2, 1) :: (lw_ai js ++ [(.invokevirtual i2, 3), (.lcmp, 1), (.ifCond .eq off, 3)]))) = true)
    (hy1 : y1.cls = "FrostBids") (hy2 : y2.cls = "FrostBidsModel") (w1 : lw_wd R_law i1 y1 b1 n1 (some .long) k) (w2 : lw_wd R_law i2 y2 b2 n2 (some .long) k) (hr : h1 ≤ 100 ∧ h2 ≤ 100 ∧ n1 ≤ 100 ∧ n2 ≤ 100)
    (hok : lw_okL l D ids y1 b1 n1 h1 y2 b2 n2 h2 (js.map (fun j => Value.int (xs (i + j))))) (ht : ((pc + 1 + 5 * js.length + 3 + 1 + 5 * js.length + 3 + 1 : Nat) : Int) + off = ((1187 : Nat) : Int))
    (kk : ∀ μ' n' ρ' H1 locs1, Rep Kd μ' n' ρ' → cl Kd N (μ', n') → lw_F2 D ids s A Kd N RL ad adT (μ', n') (ρ', nR) H1 locs1 → W p l e room_1 s m args below meth c H1 locs1 cells slots Q (F0 m 1187 ls [])) : W p l e room_1 s m args below meth c H locs cells slots Q (F0 m pc ls []) := by
  obtain ⟨r, μ', n', ρ', q1, q2, hR', hC'⟩ := hok Kd N μ n ρ RL ad adT sk sv hR hC (fm_E_G I.1) (fm_E_G I.2.1)
  obtain ⟨d0, hdb⟩ := lw_db_c hdb
  refine lv_aload_n Z.1 Z.2.1 d0 rfl (lv_at hl 1 rfl) ?_
  refine lw_args Z hX hbl hbA F.1.2 hl hi hL _ js _ _ hjs hdb (fun hdb => ?_)
  obtain ⟨d1, hdb⟩ := lw_db_c hdb
  refine lw_xcL (R := room_1) (rest := []) Z I F NW (q1 H.size) hy1 w1 (by rw [List.length_map]; exact hk) ⟨by show h1 + 1 ≤ 2048; omega, by show 8 + (n1 + 11) + 40 * h1 ≤ 84000; omega⟩ hl.1 (by decide) d1 hcl hsl rfl (fun H1 locs1 F1 => ?_)
  obtain ⟨d2, hdb⟩ := lw_db_c hdb
  refine lv_aload_n Z.1 Z.2.1 d2 rfl (lv_at hl 2 rfl) ?_
  refine lw_args Z hX hbl hbA F1.1.2 hl hi hL _ js _ _ hjs hdb (fun hdb => ?_)
  obtain ⟨d3, hdb⟩ := lw_db_c hdb
  refine lw_xrL (R := room_1) (rest := [.long r]) Z I F1 NW (q2 H1.size) hy2 w2 (by rw [List.length_map]; exact hk) ⟨by show h2 + 1 ≤ 2048; omega, by show 8 + (n2 + 11) + 40 * h2 ≤ 84000; omega⟩ hl.1 (by show 2 + 0 ≤ 8; omega) d3 hcl hsl rfl (fun H2 locs2 F2 => ?_)
  obtain ⟨d4, hdb⟩ := lw_db_c hdb
  obtain ⟨d5, hdb⟩ := lw_db_c hdb
  refine W.lcmp Z.1 Z.2.1 d4 ?_
  rw [lg_cmp_self]
  exact lv_if_eq Z.1 Z.2.1 d5 ht (fun _ => kk μ' n' ρ' H2 locs2 hR' hC' F2) (fun h => absurd rfl h)
end LAWC2
