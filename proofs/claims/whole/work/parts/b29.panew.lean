/-! PANE: its world, role by role -/
theorem map10 {α : Type} (G : Nat → α) : (List.range 10).map G = [G 0, G 1, G 2, G 3, G 4, G 5, G 6, G 7, G 8, G 9] := rfl
theorem map12 {α : Type} (G : Nat → α) : (List.range 12).map G = [G 0, G 1, G 2, G 3, G 4, G 5, G 6, G 7, G 8, G 9, G 10, G 11] := rfl
theorem map17 {α : Type} (G : Nat → α) : (List.range 17).map G = [G 0, G 1, G 2, G 3, G 4, G 5, G 6, G 7, G 8, G 9, G 10, G 11, G 12, G 13, G 14, G 15, G 16] := rfl
section WPH
variable {D : va_G} {H : Heap} {ids : Nat → ClassId} {N np k : Nat} {y z : Int32} {Kd U ad : Nat → Nat} {μ : Nat → Nat → Int32} {n : Nat → Nat → Option Nat} {RL : List Nat}
theorem at_p0 (hC : cl Kd N (μ, n)) (e0 : n 0 0 = some 1) (e1 : n 0 1 = some 2) (e3 : n 0 3 = some 65) (e14 : n 0 14 = some 22) (hP : va_at D fm_cls (ad 0, .inr (11, [.ref (ad 1), .ref (ad 2), .int (nI np + 1), .ref (ad 65), fm_fv ad (μ, n) 11 0 4, fm_fv ad (μ, n) 11 0 5, fm_fv ad (μ, n) 11 0 6, fm_fv ad (μ, n) 11 0 7, fm_fv ad (μ, n) 11 0 8, fm_fv ad (μ, n) 11 0 9, fm_fv ad (μ, n) 11 0 10, fm_fv ad (μ, n) 11 0 11, fm_fv ad (μ, n) 11 0 12, fm_fv ad (μ, n) 11 0 13, .ref (ad 22), fm_fv ad (μ, n) 11 0 15, fm_fv ad (μ, n) 11 0 16])) H) : va_at D fm_cls (pgU N U ad 0, fm_ct ids (kF (pgK N k Kd) (N + 1)) lC (pgU N U ad) (pgM N np k y z μ, pgN N np n) 0) H := by
  have hk1 : kF (pgK N k Kd) (N + 1) 0 = 11 := by rw [kF_lo (by omega)]; rfl
  rw [pgU_o (by omega), fm_ct_obj hk1 (by omega)]
  have fo : ∀ j, j < 17 → j ≠ 2 → fm_fv (pgU N U ad) (pgM N np k y z μ, pgN N np n) 11 0 j = fm_fv ad (μ, n) 11 0 j := fun j hj h2 => fv_o hC (Or.inl (by omega)) (show rs Kd 0 j from hj) (by omega) (by omega) (by omega)
  have g0 : fm_fv ad (μ, n) 11 0 0 = .ref (ad 1) := by
    show va_rf ((n 0 0).map ad) = _
    rw [e0]
    rfl
  have g1 : fm_fv ad (μ, n) 11 0 1 = .ref (ad 2) := by
    show va_rf ((n 0 1).map ad) = _
    rw [e1]
    rfl
  have g3 : fm_fv ad (μ, n) 11 0 3 = .ref (ad 65) := by
    show va_rf ((n 0 3).map ad) = _
    rw [e3]
    rfl
  have g14 : fm_fv ad (μ, n) 11 0 14 = .ref (ad 22) := by
    show va_rf ((n 0 14).map ad) = _
    rw [e14]
    rfl
  have f2 : fm_fv (pgU N U ad) (pgM N np k y z μ, pgN N np n) 11 0 2 = .int (nI np + 1) := by
    show Value.int (pgM N np k y z μ 0 2) = _
    unfold pgM
    rw [if_neg (by omega), if_pos ⟨rfl, rfl⟩, nI_1]
  have e : (List.range (fm_N 11)).map (fm_fv (pgU N U ad) (pgM N np k y z μ, pgN N np n) 11 0) = [.ref (ad 1), .ref (ad 2), .int (nI np + 1), .ref (ad 65), fm_fv ad (μ, n) 11 0 4, fm_fv ad (μ, n) 11 0 5, fm_fv ad (μ, n) 11 0 6, fm_fv ad (μ, n) 11 0 7, fm_fv ad (μ, n) 11 0 8, fm_fv ad (μ, n) 11 0 9, fm_fv ad (μ, n) 11 0 10, fm_fv ad (μ, n) 11 0 11, fm_fv ad (μ, n) 11 0 12, fm_fv ad (μ, n) 11 0 13, .ref (ad 22), fm_fv ad (μ, n) 11 0 15, fm_fv ad (μ, n) 11 0 16] := by
    refine (map17 _).trans ?_
    rw [f2, fo 0 (by omega) (by omega), fo 1 (by omega) (by omega), fo 3 (by omega) (by omega), fo 4 (by omega) (by omega), fo 5 (by omega) (by omega), fo 6 (by omega) (by omega), fo 7 (by omega) (by omega), fo 8 (by omega) (by omega), fo 9 (by omega) (by omega), fo 10 (by omega) (by omega), fo 11 (by omega) (by omega), fo 12 (by omega) (by omega), fo 13 (by omega) (by omega), fo 14 (by omega) (by omega), fo 15 (by omega) (by omega), fo 16 (by omega) (by omega), g0, g1, g3, g14]
  rw [e]
  exact hP
theorem kF_n {x : Nat} (hx : x < 6) (hk : (x = 1 ∨ x = 2) → k = 6) : kF (pgK N k Kd) (N + 1) (100 + x + 6 * N) = kX k x := by
  rw [kF_g (gR_new.2 (Or.inr (pgL_mem.2 ⟨x, hx, hk, rfl⟩)))]
  exact kC_n hx
theorem at_nx {x : Nat} (hx : x < 6) (hk : (x = 1 ∨ x = 2) → k = 6) (h0 : x ≠ 0) (h3 : x ≠ 3) (hP : va_at D fm_cls (U x, .inl (ids 13, lX x, .inl (fun _ => 0))) H) : va_at D fm_cls (pgU N U ad (100 + x + 6 * N), fm_ct ids (kF (pgK N k Kd) (N + 1)) lC (pgU N U ad) (pgM N np k y z μ, pgN N np n) (100 + x + 6 * N)) H := by
  have hk1 : kF (pgK N k Kd) (N + 1) (100 + x + 6 * N) = 13 := by
    rw [kF_n hx hk]
    unfold kX
    rw [if_neg h0, if_neg h3]
  have e : (pgM N np k y z μ, pgN N np n).1 (100 + x + 6 * N) = fun _ => 0 := by
    funext i
    exact pgM_x hx h0
  rw [fm_ct_int hk1 (by omega) (by omega), pgU_n hx, lC_x N x hx, e]
  exact hP
theorem at_n3 (hP : va_at D fm_cls (U 3, .inr (1, [.ref (U 0), .ref (ad 65), .int 0, .int 0, .int 0, .int 0, .int 0, .int 0, .ref (U 4), .ref (U 5)])) H) : va_at D fm_cls (pgU N U ad (100 + 3 + 6 * N), fm_ct ids (kF (pgK N k Kd) (N + 1)) lC (pgU N U ad) (pgM N np k y z μ, pgN N np n) (100 + 3 + 6 * N)) H := by
  have hk1 : kF (pgK N k Kd) (N + 1) (100 + 3 + 6 * N) = 1 := kF_n (x := 3) (by omega) (fun q => by omega)
  have eI : ∀ j, fm_isR 1 j = false → fm_fv (pgU N U ad) (pgM N np k y z μ, pgN N np n) 1 (100 + 3 + 6 * N) j = .int 0 := by
    intro j h
    unfold fm_fv
    rw [if_neg (by rw [h]; decide)]
    show Value.int (pgM N np k y z μ (100 + 3 + 6 * N) j) = _
    rw [pgM_x (by omega) (by omega)]
  have eR : ∀ j, fm_isR 1 j = true → fm_fv (pgU N U ad) (pgM N np k y z μ, pgN N np n) 1 (100 + 3 + 6 * N) j = va_rf ((if j = 0 then some (100 + 0 + 6 * N) else if j = 1 then some 65 else if j = 8 then some (100 + 4 + 6 * N) else if j = 9 then some (100 + 5 + 6 * N) else none).map (pgU N U ad)) := by
    intro j h
    unfold fm_fv
    rw [if_pos h]
    show va_rf ((pgN N np n (103 + 6 * N) j).map (pgU N U ad)) = _
    rw [pgN_3]
  have r0 : fm_fv (pgU N U ad) (pgM N np k y z μ, pgN N np n) 1 (100 + 3 + 6 * N) 0 = .ref (U 0) := by
    rw [eR 0 rfl]
    show Value.ref (pgU N U ad (100 + 0 + 6 * N)) = _
    rw [pgU_n (by omega)]
  have r1 : fm_fv (pgU N U ad) (pgM N np k y z μ, pgN N np n) 1 (100 + 3 + 6 * N) 1 = .ref (ad 65) := by
    rw [eR 1 rfl]
    show Value.ref (pgU N U ad 65) = _
    rw [pgU_o (by omega)]
  have r8 : fm_fv (pgU N U ad) (pgM N np k y z μ, pgN N np n) 1 (100 + 3 + 6 * N) 8 = .ref (U 4) := by
    rw [eR 8 rfl]
    show Value.ref (pgU N U ad (100 + 4 + 6 * N)) = _
    rw [pgU_n (by omega)]
  have r9 : fm_fv (pgU N U ad) (pgM N np k y z μ, pgN N np n) 1 (100 + 3 + 6 * N) 9 = .ref (U 5) := by
    rw [eR 9 rfl]
    show Value.ref (pgU N U ad (100 + 5 + 6 * N)) = _
    rw [pgU_n (by omega)]
  have e : (List.range (fm_N 1)).map (fm_fv (pgU N U ad) (pgM N np k y z μ, pgN N np n) 1 (100 + 3 + 6 * N)) = [.ref (U 0), .ref (ad 65), .int 0, .int 0, .int 0, .int 0, .int 0, .int 0, .ref (U 4), .ref (U 5)] := by
    refine (map10 _).trans ?_
    rw [r0, r1, r8, r9, eI 2 rfl, eI 3 rfl, eI 4 rfl, eI 5 rfl, eI 6 rfl, eI 7 rfl]
  rw [fm_ct_obj hk1 (by omega), pgU_n (by omega), e]
  exact hP
theorem at_n0 (hk : k ≤ 6) (hP : va_at D fm_cls (U 0, .inr (ckK k, pnO k (nI np) y z (ad 22) U)) H) : va_at D fm_cls (pgU N U ad (100 + 0 + 6 * N), fm_ct ids (kF (pgK N k Kd) (N + 1)) lC (pgU N U ad) (pgM N np k y z μ, pgN N np n) (100 + 0 + 6 * N)) H := by
  have hk1 : kF (pgK N k Kd) (N + 1) (100 + 0 + 6 * N) = ckK k := kF_n (x := 0) (by omega) (fun q => by omega)
  rw [fm_ct_obj hk1 (ck13 k), pgU_n (by omega)]
  have eI : ∀ c j, fm_isR c j = false → fm_fv (pgU N U ad) (pgM N np k y z μ, pgN N np n) c (100 + 0 + 6 * N) j = .int (if j = 0 then nI k else if j = 1 then nI np else if j = 2 then y else if j = 3 then z else 0) := by
    intro c j h
    unfold fm_fv
    rw [if_neg (by rw [h]; decide)]
    show Value.int (pgM N np k y z μ (100 + 6 * N) j) = _
    rw [pgM_0]
  have eR : ∀ c j, fm_isR c j = true → fm_fv (pgU N U ad) (pgM N np k y z μ, pgN N np n) c (100 + 0 + 6 * N) j = va_rf ((if j = 9 then some 22 else if j = 10 then some (100 + 1 + 6 * N) else if j = 11 then some (100 + 2 + 6 * N) else none).map (pgU N U ad)) := by
    intro c j h
    unfold fm_fv
    rw [if_pos h]
    show va_rf ((pgN N np n (100 + 6 * N) j).map (pgU N U ad)) = _
    rw [pgN_0]
  have r9 : ∀ c, fm_isR c 9 = true → fm_fv (pgU N U ad) (pgM N np k y z μ, pgN N np n) c (100 + 0 + 6 * N) 9 = .ref (ad 22) := by
    intro c h
    rw [eR c 9 h]
    show Value.ref (pgU N U ad 22) = _
    rw [pgU_o (by omega)]
  have r10 : ∀ c, fm_isR c 10 = true → fm_fv (pgU N U ad) (pgM N np k y z μ, pgN N np n) c (100 + 0 + 6 * N) 10 = .ref (U 1) := by
    intro c h
    rw [eR c 10 h]
    show Value.ref (pgU N U ad (100 + 1 + 6 * N)) = _
    rw [pgU_n (by omega)]
  have r11 : ∀ c, fm_isR c 11 = true → fm_fv (pgU N U ad) (pgM N np k y z μ, pgN N np n) c (100 + 0 + 6 * N) 11 = .ref (U 2) := by
    intro c h
    rw [eR c 11 h]
    show Value.ref (pgU N U ad (100 + 2 + 6 * N)) = _
    rw [pgU_n (by omega)]
  have hc : k = 0 ∨ k = 1 ∨ k = 2 ∨ k = 3 ∨ k = 4 ∨ k = 5 ∨ k = 6 := by omega
  rcases hc with rfl | rfl | rfl | rfl | rfl | rfl | rfl
  · have e : (List.range (fm_N (ckK 0))).map (fm_fv (pgU N U ad) (pgM N np 0 y z μ, pgN N np n) (ckK 0) (100 + 0 + 6 * N)) = pnO 0 (nI np) y z (ad 22) U := by
      refine (map10 _).trans ?_
      rw [eI (ckK 0) 0 rfl, eI (ckK 0) 1 rfl, eI (ckK 0) 2 rfl, eI (ckK 0) 3 rfl, eI (ckK 0) 4 rfl, eI (ckK 0) 5 rfl, eI (ckK 0) 6 rfl, eI (ckK 0) 7 rfl, eI (ckK 0) 8 rfl, r9 (ckK 0) rfl]
      rfl
    rw [e]
    exact hP
  · have e : (List.range (fm_N (ckK 1))).map (fm_fv (pgU N U ad) (pgM N np 1 y z μ, pgN N np n) (ckK 1) (100 + 0 + 6 * N)) = pnO 1 (nI np) y z (ad 22) U := by
      refine (map10 _).trans ?_
      rw [eI (ckK 1) 0 rfl, eI (ckK 1) 1 rfl, eI (ckK 1) 2 rfl, eI (ckK 1) 3 rfl, eI (ckK 1) 4 rfl, eI (ckK 1) 5 rfl, eI (ckK 1) 6 rfl, eI (ckK 1) 7 rfl, eI (ckK 1) 8 rfl, r9 (ckK 1) rfl]
      rfl
    rw [e]
    exact hP
  · have e : (List.range (fm_N (ckK 2))).map (fm_fv (pgU N U ad) (pgM N np 2 y z μ, pgN N np n) (ckK 2) (100 + 0 + 6 * N)) = pnO 2 (nI np) y z (ad 22) U := by
      refine (map10 _).trans ?_
      rw [eI (ckK 2) 0 rfl, eI (ckK 2) 1 rfl, eI (ckK 2) 2 rfl, eI (ckK 2) 3 rfl, eI (ckK 2) 4 rfl, eI (ckK 2) 5 rfl, eI (ckK 2) 6 rfl, eI (ckK 2) 7 rfl, eI (ckK 2) 8 rfl, r9 (ckK 2) rfl]
      rfl
    rw [e]
    exact hP
  · have e : (List.range (fm_N (ckK 3))).map (fm_fv (pgU N U ad) (pgM N np 3 y z μ, pgN N np n) (ckK 3) (100 + 0 + 6 * N)) = pnO 3 (nI np) y z (ad 22) U := by
      refine (map10 _).trans ?_
      rw [eI (ckK 3) 0 rfl, eI (ckK 3) 1 rfl, eI (ckK 3) 2 rfl, eI (ckK 3) 3 rfl, eI (ckK 3) 4 rfl, eI (ckK 3) 5 rfl, eI (ckK 3) 6 rfl, eI (ckK 3) 7 rfl, eI (ckK 3) 8 rfl, r9 (ckK 3) rfl]
      rfl
    rw [e]
    exact hP
  · have e : (List.range (fm_N (ckK 4))).map (fm_fv (pgU N U ad) (pgM N np 4 y z μ, pgN N np n) (ckK 4) (100 + 0 + 6 * N)) = pnO 4 (nI np) y z (ad 22) U := by
      refine (map10 _).trans ?_
      rw [eI (ckK 4) 0 rfl, eI (ckK 4) 1 rfl, eI (ckK 4) 2 rfl, eI (ckK 4) 3 rfl, eI (ckK 4) 4 rfl, eI (ckK 4) 5 rfl, eI (ckK 4) 6 rfl, eI (ckK 4) 7 rfl, eI (ckK 4) 8 rfl, r9 (ckK 4) rfl]
      rfl
    rw [e]
    exact hP
  · have e : (List.range (fm_N (ckK 5))).map (fm_fv (pgU N U ad) (pgM N np 5 y z μ, pgN N np n) (ckK 5) (100 + 0 + 6 * N)) = pnO 5 (nI np) y z (ad 22) U := by
      refine (map10 _).trans ?_
      rw [eI (ckK 5) 0 rfl, eI (ckK 5) 1 rfl, eI (ckK 5) 2 rfl, eI (ckK 5) 3 rfl, eI (ckK 5) 4 rfl, eI (ckK 5) 5 rfl, eI (ckK 5) 6 rfl, eI (ckK 5) 7 rfl, eI (ckK 5) 8 rfl, r9 (ckK 5) rfl]
      rfl
    rw [e]
    exact hP
  · have e : (List.range (fm_N (ckK 6))).map (fm_fv (pgU N U ad) (pgM N np 6 y z μ, pgN N np n) (ckK 6) (100 + 0 + 6 * N)) = pnO 6 (nI np) y z (ad 22) U := by
      refine (map12 _).trans ?_
      rw [eI (ckK 6) 0 rfl, eI (ckK 6) 1 rfl, eI (ckK 6) 2 rfl, eI (ckK 6) 3 rfl, eI (ckK 6) 4 rfl, eI (ckK 6) 5 rfl, eI (ckK 6) 6 rfl, eI (ckK 6) 7 rfl, eI (ckK 6) 8 rfl, r9 (ckK 6) rfl, r10 (ckK 6) rfl, r11 (ckK 6) rfl]
      rfl
    rw [e]
    exact hP
/-- the world after pane() -/
theorem W_pg (hRL : RLok Kd N RL) (hC : cl Kd N (μ, n)) (hk : k ≤ 6) (hnp : np < 6) (e0 : n 0 0 = some 1) (e1 : n 0 1 = some 2) (e3 : n 0 3 = some 65) (e14 : n 0 14 = some 22)
    (hP1 : va_P D fm_cls (pnW ids k (ad 0) (ad 1) (ad 2) (ad 65) (ad 22) (nI np) y z (fm_fv ad (μ, n) 11 0 4) (fm_fv ad (μ, n) 11 0 5) (fm_fv ad (μ, n) 11 0 6) (fm_fv ad (μ, n) 11 0 7) (fm_fv ad (μ, n) 11 0 8) (fm_fv ad (μ, n) 11 0 9) (fm_fv ad (μ, n) 11 0 10) (fm_fv ad (μ, n) 11 0 11) (fm_fv ad (μ, n) 11 0 12) (fm_fv ad (μ, n) 11 0 13) (fm_fv ad (μ, n) 11 0 15) (fm_fv ad (μ, n) 11 0 16) (fun j => (n 1 j).map ad) (fun j => (n 2 j).map ad) U) H)
    (hP2 : va_P D fm_cls (fm_w ids (kF Kd N) lC (RL.filter (fun r => decide (2 < r))) ad (μ, n)) H) : va_P D fm_cls (fm_w ids (kF (pgK N k Kd) (N + 1)) lC (RL ++ pgL N k) (pgU N U ad) (pgM N np k y z μ, pgN N np n)) H := by
  obtain ⟨p1, p2, p0, q0, q3, q4, q5, q12⟩ := pn_at hP1
  intro i x hi
  obtain ⟨r, hr, ex⟩ := List.mem_map.1 (List.mem_of_getElem? hi)
  subst ex
  rcases List.mem_append.1 hr with h | h
  · have hg := (kF_t.1 ((hRL.2 r).1 h)).1
    by_cases c3 : 2 < r
    · refine at_o hC hg c3 (va_P_mem hP2 (List.mem_map.2 ⟨r, List.mem_filter.2 ⟨h, by simpa using c3⟩, rfl⟩))
    · have hc : r = 0 ∨ r = 1 ∨ r = 2 := by omega
      rcases hc with rfl | rfl | rfl
      · exact at_p0 hC e0 e1 e3 e14 p0
      · have hk1 : kF (pgK N k Kd) (N + 1) 1 = 16 := by rw [kF_lo (by omega)]; rfl
        rw [pgU_o (by omega), fm_ct_ref hk1 (by omega)]
        refine va_at_q (fun j hj => ?_) p1
        show va_up (fun j => (n 1 j).map ad) (nI np).toNatClampNeg (some (U 0)) j = (pgN N np n 1 j).map (pgU N U ad)
        rw [nI_clamp (by omega)]
        unfold va_up
        by_cases hj2 : j = np
        · rw [if_pos hj2]
          unfold pgN
          rw [if_neg (by omega), if_pos ⟨rfl, hj2⟩]
          show _ = some (pgU N U ad (100 + 0 + 6 * N))
          rw [pgU_n (by omega)]
        · rw [if_neg hj2, pgN_o (by omega) (by omega) (by omega)]
          exact (ad_o hC (Or.inl (by omega)) (show rs Kd 1 j from hj)).symm
      · have hk1 : kF (pgK N k Kd) (N + 1) 2 = 15 := by rw [kF_lo (by omega)]; rfl
        rw [pgU_o (by omega), fm_ct_ref hk1 (by omega)]
        refine va_at_q (fun j hj => ?_) p2
        show va_up (fun j => (n 2 j).map ad) (nI np).toNatClampNeg (some (U 3)) j = (pgN N np n 2 j).map (pgU N U ad)
        rw [nI_clamp (by omega)]
        unfold va_up
        by_cases hj2 : j = np
        · rw [if_pos hj2]
          unfold pgN
          rw [if_neg (by omega), if_neg (by omega), if_pos ⟨rfl, hj2⟩]
          show _ = some (pgU N U ad (100 + 3 + 6 * N))
          rw [pgU_n (by omega)]
        · rw [if_neg hj2, pgN_o (by omega) (by omega) (by omega)]
          exact (ad_o hC (Or.inl (by omega)) (show rs Kd 2 j from hj)).symm
  · obtain ⟨x, hx, hxk, e⟩ := pgL_mem.1 h
    subst e
    have hc : x = 0 ∨ x = 1 ∨ x = 2 ∨ x = 3 ∨ x = 4 ∨ x = 5 := by omega
    rcases hc with rfl | rfl | rfl | rfl | rfl | rfl
    · exact at_n0 hk q0
    · exact at_nx (by omega) hxk (by omega) (by omega) (q12 (hxk (Or.inl rfl))).1
    · exact at_nx (by omega) hxk (by omega) (by omega) (q12 (hxk (Or.inr rfl))).2
    · exact at_n3 q3
    · exact at_nx (by omega) hxk (by omega) (by omega) q4
    · exact at_nx (by omega) hxk (by omega) (by omega) q5
end WPH
