/-! PANE: its world -/
theorem va_at_q {D : va_G} {c : List vw_C} {a t L : Nat} {f g : Nat → Option Nat} {H : Heap} (h : ∀ j, j < L → f j = g j) (hP : va_at D c (a, .inl (t, L, .inr (.inr (.inr (.inr f))))) H) : va_at D c (a, .inl (t, L, .inr (.inr (.inr (.inr g))))) H := by
  have e : arrV t L (fun j => va_rf (f j)) = arrV t L (fun j => va_rf (g j)) := by
    unfold arrV
    have : (fun j : Fin L => va_rf (f j.val)) = fun j : Fin L => va_rf (g j.val) := by
      funext j
      rw [h j.1 j.2]
    rw [this]
  have hP : H[a]? = some (arrV t L (fun j => va_rf (f j))) := hP
  rw [e] at hP
  exact hP
theorem va_P_mem {D : va_G} {c : List vw_C} {ws : va_W} {H : Heap} (h : va_P D c ws H) {x : Nat × va_E} (hx : x ∈ ws) : va_at D c x H := by
  obtain ⟨i, hi⟩ := List.getElem?_of_mem hx
  exact h i x hi
section PNW
variable {D : va_G} {c : List vw_C} {H : Heap} {ids : Nat → ClassId} {k a pa ca bt bd sz : Nat} {n y z : Int32} {v4 v5 v6 v7 v8 v9 v10 v11 v12 v13 v15 v16 : Value} {f g : Nat → Option Nat} {U : Nat → Nat} {A : Nat → Prop}
theorem pn_at (hP : va_P D c (pnW ids k a pa ca bt bd n y z v4 v5 v6 v7 v8 v9 v10 v11 v12 v13 v15 v16 f g U) H) : va_at D c (pa, .inl (ids 16, 6, .inr (.inr (.inr (.inr (va_up f n.toNatClampNeg (some (U 0)))))))) H ∧ va_at D c (ca, .inl (ids 15, 6, .inr (.inr (.inr (.inr (va_up g n.toNatClampNeg (some (U 3)))))))) H ∧ va_at D c (a, .inr (11, [.ref pa, .ref ca, .int (n + 1), .ref bt, v4, v5, v6, v7, v8, v9, v10, v11, v12, v13, .ref bd, v15, v16])) H ∧ va_at D c (U 0, .inr (ckK k, pnO k n y z bd U)) H ∧ va_at D c (U 3, .inr (1, [.ref (U 0), .ref bt, .int 0, .int 0, .int 0, .int 0, .int 0, .int 0, .ref (U 4), .ref (U 5)])) H ∧ va_at D c (U 4, .inl (ids 13, 12, .inl (fun _ => 0))) H ∧ va_at D c (U 5, .inl (ids 13, 16, .inl (fun _ => 0))) H ∧ (k = 6 → va_at D c (U 1, .inl (ids 13, 4, .inl (fun _ => 0))) H ∧ va_at D c (U 2, .inl (ids 13, 4, .inl (fun _ => 0))) H) := by
  unfold pnW at hP
  by_cases h : k = 6
  · rw [if_pos h] at hP
    exact ⟨hP 0 _ rfl, hP 1 _ rfl, hP 2 _ rfl, hP 3 _ rfl, hP 6 _ rfl, hP 7 _ rfl, hP 8 _ rfl, fun _ => ⟨hP 4 _ rfl, hP 5 _ rfl⟩⟩
  · rw [if_neg h] at hP
    exact ⟨hP 0 _ rfl, hP 1 _ rfl, hP 2 _ rfl, hP 3 _ rfl, hP 4 _ rfl, hP 5 _ rfl, hP 6 _ rfl, fun q => absurd q h⟩
theorem pn_ix {x : Nat} (hx : x < 6) (hk : (x = 1 ∨ x = 2) → k = 6) : ∃ e, (pnW ids k a pa ca bt bd n y z v4 v5 v6 v7 v8 v9 v10 v11 v12 v13 v15 v16 f g U)[if k = 6 then 3 + x else if x = 0 then 3 else x + 1]? = some (U x, e) := by
  unfold pnW
  by_cases h : k = 6
  · rw [if_pos h, if_pos h]
    match x, hx with
    | 0, _ => exact ⟨_, rfl⟩
    | 1, _ => exact ⟨_, rfl⟩
    | 2, _ => exact ⟨_, rfl⟩
    | 3, _ => exact ⟨_, rfl⟩
    | 4, _ => exact ⟨_, rfl⟩
    | 5, _ => exact ⟨_, rfl⟩
    | x + 6, h => exact absurd h (by omega)
  · rw [if_neg h, if_neg h]
    match x, hx with
    | 0, _ => exact ⟨_, rfl⟩
    | 1, _ => exact absurd (hk (Or.inl rfl)) h
    | 2, _ => exact absurd (hk (Or.inr rfl)) h
    | 3, _ => exact ⟨_, rfl⟩
    | 4, _ => exact ⟨_, rfl⟩
    | 5, _ => exact ⟨_, rfl⟩
    | x + 6, h => exact absurd h (by omega)
theorem pn_new {wc : va_W} (hw : ∀ q, va_A wc sz q → q = a ∨ q = pa ∨ q = ca ∨ sz ≤ q) (hD : va_D (va_A wc sz) (pnW ids k a pa ca bt bd n y z v4 v5 v6 v7 v8 v9 v10 v11 v12 v13 v15 v16 f g U)) : (∀ x, x < 6 → ((x = 1 ∨ x = 2) → k = 6) → sz ≤ U x) ∧ ∀ x x', x < 6 → ((x = 1 ∨ x = 2) → k = 6) → x' < 6 → ((x' = 1 ∨ x' = 2) → k = 6) → U x = U x' → x = x' := by
  have key : ∀ x, x < 6 → ((x = 1 ∨ x = 2) → k = 6) → 3 ≤ (if k = 6 then 3 + x else if x = 0 then 3 else x + 1) := by
    intro x hx hk
    by_cases h : k = 6
    · rw [if_pos h]; omega
    · rw [if_neg h]
      by_cases h0 : x = 0
      · rw [if_pos h0]; omega
      · rw [if_neg h0]
        have : x ≠ 1 := fun q => h (hk (Or.inl q))
        omega
  refine ⟨fun x hx hk => ?_, fun x x' hx hk hx' hk' he => ?_⟩
  · obtain ⟨e, hi⟩ := pn_ix (ids := ids) (a := a) (pa := pa) (ca := ca) (bt := bt) (bd := bd) (n := n) (y := y) (z := z) (v4 := v4) (v5 := v5) (v6 := v6) (v7 := v7) (v8 := v8) (v9 := v9) (v10 := v10) (v11 := v11) (v12 := v12) (v13 := v13) (v15 := v15) (v16 := v16) (f := f) (g := g) (U := U) hx hk
    have h3 := key x hx hk
    rcases hw _ (hD.2 _ _ hi) with q | q | q | q
    · have := hD.1 _ 2 _ _ hi rfl q
      omega
    · have := hD.1 _ 0 _ _ hi rfl q
      omega
    · have := hD.1 _ 1 _ _ hi rfl q
      omega
    · exact q
  · obtain ⟨e, hi⟩ := pn_ix (ids := ids) (a := a) (pa := pa) (ca := ca) (bt := bt) (bd := bd) (n := n) (y := y) (z := z) (v4 := v4) (v5 := v5) (v6 := v6) (v7 := v7) (v8 := v8) (v9 := v9) (v10 := v10) (v11 := v11) (v12 := v12) (v13 := v13) (v15 := v15) (v16 := v16) (f := f) (g := g) (U := U) hx hk
    obtain ⟨e', hi'⟩ := pn_ix (ids := ids) (a := a) (pa := pa) (ca := ca) (bt := bt) (bd := bd) (n := n) (y := y) (z := z) (v4 := v4) (v5 := v5) (v6 := v6) (v7 := v7) (v8 := v8) (v9 := v9) (v10 := v10) (v11 := v11) (v12 := v12) (v13 := v13) (v15 := v15) (v16 := v16) (f := f) (g := g) (U := U) hx' hk'
    have := hD.1 _ _ _ _ hi hi' he
    by_cases h : k = 6
    · rw [if_pos h, if_pos h] at this
      omega
    · rw [if_neg h, if_neg h] at this
      have n1 : ¬ x = 1 := fun q => h (hk (Or.inl q))
      have n1' : ¬ x' = 1 := fun q => h (hk' (Or.inl q))
      by_cases h0 : x = 0
      · rw [if_pos h0] at this
        by_cases h0' : x' = 0
        · omega
        · rw [if_neg h0'] at this
          have n2' : ¬ x' = 2 := fun q => h (hk' (Or.inr q))
          omega
      · rw [if_neg h0] at this
        by_cases h0' : x' = 0
        · rw [if_pos h0'] at this
          have n2 : ¬ x = 2 := fun q => h (hk (Or.inr q))
          omega
        · rw [if_neg h0'] at this
          omega
end PNW
section WPG
variable {D : va_G} {H : Heap} {ids : Nat → ClassId} {N np k : Nat} {y z : Int32} {Kd U ad : Nat → Nat} {μ : Nat → Nat → Int32} {n : Nat → Nat → Option Nat} {RL : List Nat}
theorem ad_o (hC : cl Kd N (μ, n)) {r j : Nat} (hr : gR Kd N r) (hj : rs Kd r j) : (n r j).map (pgU N U ad) = (n r j).map ad := by
  cases e : n r j with
  | none => rfl
  | some q =>
    have := hC r j q hr hj e
    show some (pgU N U ad q) = some (ad q)
    rw [pgU_o (gR_ng this)]
theorem fv_o (hC : cl Kd N (μ, n)) {r j c : Nat} (hr : gR Kd N r) (hj : rs Kd r j) (h1 : ¬ (r = 1 ∧ j = np)) (h2 : ¬ (r = 2 ∧ j = np)) (h0 : ¬ (r = 0 ∧ j = 2)) : fm_fv (pgU N U ad) (pgM N np k y z μ, pgN N np n) c r j = fm_fv ad (μ, n) c r j := by
  unfold fm_fv
  show (if fm_isR c j = true then va_rf ((pgN N np n r j).map (pgU N U ad)) else Value.int (pgM N np k y z μ r j)) = if fm_isR c j = true then va_rf ((n r j).map ad) else Value.int (μ r j)
  rw [pgN_o (gR_ng hr) h1 h2, pgM_o (gR_ng hr) h0, ad_o hC hr hj]
/-- an old role, none of the three -/
theorem at_o (hC : cl Kd N (μ, n)) {r : Nat} (hr : gR Kd N r) (h3 : 2 < r) (hP : va_at D fm_cls (ad r, fm_ct ids (kF Kd N) lC ad (μ, n) r) H) : va_at D fm_cls (pgU N U ad r, fm_ct ids (kF (pgK N k Kd) (N + 1)) lC (pgU N U ad) (pgM N np k y z μ, pgN N np n) r) H := by
  have hk1 : kF (pgK N k Kd) (N + 1) r = kC Kd r := by rw [kF_g (gR_new.2 (Or.inl hr)), kC_pg (gR_ng hr)]
  have hk0 : kF Kd N r = kC Kd r := kF_g hr
  rw [pgU_o (gR_ng hr)]
  by_cases c13 : kC Kd r < 13
  · rw [fm_ct_obj hk0 c13] at hP
    rw [fm_ct_obj hk1 c13]
    have e : (List.range (fm_N (kC Kd r))).map (fm_fv (pgU N U ad) (pgM N np k y z μ, pgN N np n) (kC Kd r) r) = (List.range (fm_N (kC Kd r))).map (fm_fv ad (μ, n) (kC Kd r) r) := by
      refine List.map_congr_left (fun j hj => fv_o hC hr ?_ (by omega) (by omega) (by omega))
      unfold rs
      rw [if_pos c13]
      exact List.mem_range.1 hj
    rw [e]
    exact hP
  · by_cases c15 : kC Kd r < 15
    · rw [fm_ct_int hk0 c13 c15] at hP
      rw [fm_ct_int hk1 c13 c15]
      have e : (pgM N np k y z μ, pgN N np n).1 r = (μ, n).1 r := by
        funext i
        exact pgM_o (gR_ng hr) (by omega)
      rw [e]
      exact hP
    · rw [fm_ct_ref hk0 c15] at hP
      rw [fm_ct_ref hk1 c15]
      refine va_at_q (fun j hj => ?_) hP
      show (n r j).map ad = (pgN N np n r j).map (pgU N U ad)
      rw [pgN_o (gR_ng hr) (by omega) (by omega), ad_o hC hr]
      unfold rs
      rw [if_neg c13]
      exact hj
end WPG
