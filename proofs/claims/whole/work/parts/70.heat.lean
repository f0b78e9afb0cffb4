/-! methods, both sides: heat -/
theorem cI_w {Kd : Nat → Nat} {μ : Nat → Nat → Int32} {n : Nat → Nat → Option Nat} {j i h ice p k v w c : Nat} {r : Nat → Nat} {cl : List Cl} {sh : Bool} (hc : cI Kd μ n j i (p, k, v, w, c, r, cl) h ice sh) {w' : Nat} (hw : w' ≤ 9) : cI Kd (wm μ (103 + 6 * j) 3 (nI w')) n j i (p, k, v, w', c, r, cl) h ice sh := by
  obtain ⟨hn, ⟨f2, f3, f4, f5, f6, f7⟩, ⟨g0, g1, g2, g3⟩, b1, b2, b3, b4, b5, b6, b7, b8⟩ := hc
  refine ⟨hn, ⟨?_, wm_s _ _ _ _, ?_, ?_, ?_, ?_⟩, ⟨?_, ?_, g2, fun hk x hx => ?_⟩, b1, hw, b3, b4, b5, b6, b7, b8⟩
  · rw [wm_k (by omega)]; exact f2
  · rw [wm_k (by omega)]; exact f4
  · rw [wm_k (by omega)]; exact f5
  · rw [wm_k (by omega)]; exact f6
  · rw [wm_k (by omega)]; exact f7
  · rw [wm_r (by omega)]; exact g0
  · rw [wm_r (by omega)]; exact g1
  · rw [wm_r (by omega)]; exact g3 hk x hx
section X
variable {Kd : Nat → Nat}
theorem x_heatl {s : Nat → Int32} {np i j f t N0 : Nat} {cl : List Cl} {c : Int32} (hj : j < np) (hN : N0 ≤ 20) (h99 : N (s 0) ≤ 9999) : ∀ (d w bst : Nat) (mst : Int32) (fuel fuel2 : Nat) (μ : Nat → Nat → Int32) (n : Nat → Nat → Option Nat) (ρ : Nat → Nat → Int32), w + d = 10 → gen Kd μ n s np i cl f t → ρ 1 = s → ∃ r μ' n' ρ', b_X11_heat_39 (kC Kd) lC (fuel + d + 1) 0 (nI j) (nI N0) c (nI bst) mst (nI w) (μ, n) = some (r, (μ', n')) ∧ b_X12_heat_41 kR lR (fuel2 + d + 1) 0 (nI j) (nI N0) c (nI bst) mst (nI w) (ρ, nR) = some (r, (ρ', nR)) ∧ dQ μ n μ' n' ∧ rK ρ ρ' := by
  intro d
  induction d with
  | zero =>
    intro w bst mst fuel fuel2 μ n ρ hw hg hr
    rw [b_X11_heat_39, b_X12_heat_41]
    unfold k_X11_heat_39 k_X12_heat_41
    rw [if_pos (show (9 : Int32) < nI w from nI_lt (a := 9) (by omega) (by omega)), if_pos (show (10 : Int32) ≤ nI w from nI_le (a := 10) (by omega) (by omega))]
    by_cases hc : c = 0
    · rw [if_pos hc, if_pos hc]
      exact ⟨_, _, _, _, rfl, rfl, dQ_r _ _, rfl, rfl, rfl, rfl, rfl⟩
    · rw [if_neg hc, if_neg hc]
      exact ⟨_, _, _, _, rfl, rfl, dQ_r _ _, rfl, rfl, rfl, rfl, rfl⟩
  | succ d ih =>
    intro w bst mst fuel fuel2 μ n ρ hw hg hr
    have hg0 := hg
    obtain ⟨g1, g2, g3, g4, g5, g6, g7, g8, g9, g10⟩ := hg
    obtain ⟨e1, l1⟩ := nn_N (by omega) g5.2.1
    obtain ⟨μ1, n1, a1, a2, a3⟩ := k_from hg0 hj l1
    have a4 := cI_w a3 (w' := w) (by omega)
    have hd1 : dQ μ1 n1 (wm μ1 (103 + 6 * j) 3 (nI w)) n1 := dQ_3 (fun r x y z => wm_r x)
    have hg1 := gen_d (dQ_t a2 hd1) hg0
    have ht1 := hg1.2.2.2.2.2.2.2.2.1
    obtain ⟨μ2, b1, b2, b3⟩ := k_goHours (N := N0) a4 (f := f) (t := t) ht1 (by omega) (by omega)
    have hd2 : dQ μ n μ2 n1 := dQ_t a2 (dQ_t hd1 (dQ_3 b3))
    have hg2 := gen_d hd2 hg0
    have ho := k_offer b2 (f := f) (t := t) hg2.2.2.2.2.2.2.2.2.1
    obtain ⟨ρ1, k1, k2, k3⟩ := r_keeps ρ
    have hr1 : ρ1 1 = s := (k2 1 (by omega)).trans hr
    have hI' : rI (upd s (15 + j) (nI w)) := rI_w g5 (fun h => absurd h (by omega)) (fun h => absurd h (by omega)) (fun p hp h => absurd h (by omega)) (fun p hp h => absurd h (by omega)) (fun p hp h => nn_mk (by omega)) (by omega)
    have hd' : hdR (upd s (15 + j) (nI w)) cl f t := hdR_c (fun x hx => upd_n (by omega)) g8
    have hrc : rC (upd s (15 + j) (nI w)) (wm ρ1 1 (15 + j) (nI w)) j (N (s 0)) (N (s (3 + j))) := by
      refine ⟨fun x _ _ => by rw [wm_u, hr1], ?_, ?_⟩
      · rw [wm_k (by omega), hr1]; exact (nn_N (by omega) g5.1).1
      · rw [wm_k (by omega), hr1]; exact (nn_N (by omega) (g5.2.2.2 j (by omega)).1).1
    obtain ⟨ρ2, c1, c2, c3⟩ := rC_n (n := N0) hI' hd' hrc (show j < 6 by omega) (by omega) (N_lt g5 (by omega)) (by omega)
    have hq : pq (upd s (15 + j) (nI w)) cl j = (j, N (s (28 + j)), N (s (34 + j)), w, N (s 1), (fun i => N (s (40 + 4 * j + i))), cl) := by
      unfold pq
      rw [upd_n (show 28 + j ≠ 15 + j by omega), upd_n (show 34 + j ≠ 15 + j by omega), upd_s, upd_n (show 1 ≠ 15 + j by omega), N_nI (by omega)]
      have hrow : (fun i => N (upd s (15 + j) (nI w) (40 + 4 * j + i))) = fun i => N (s (40 + 4 * j + i)) := by
        funext x
        rw [upd_n (show 40 + 4 * j + x ≠ 15 + j by omega)]
      rw [hrow]
    rw [hq, shB_c (upd_n (show 9 + j ≠ 15 + j by omega))] at c3
    have hro := rC_o hI' hd' c3 (show j < 6 by omega) (by omega) (goS_lt _ _ _ _ _ (N_lt g5 (by omega)))
    obtain ⟨ρ3, y1, y2, y3⟩ := r_back k2 k3 (rS_t (rS_w ρ1 (15 + j) (nI w)) c2) (fun x hx => by rw [c3.1 x (by omega) (by omega), upd_n (by omega), hr1])
    have hnl : ¬ (9 : Int32) < nI w := nI_nlt (b := w) (a := 9) (by omega) (by omega)
    have hnl2 : ¬ (10 : Int32) ≤ nI w := nI_ge (b := 10) (by omega) (by omega)
    rw [show fuel + (d + 1) + 1 = fuel + d + 1 + 1 by omega, show fuel2 + (d + 1) + 1 = fuel2 + d + 1 + 1 by omega, b_X11_heat_39, b_X12_heat_41]
    unfold k_X11_heat_39 k_X12_heat_41
    rw [if_neg hnl, if_neg hnl2, C_g0, g3.2.2.1, e1, C_c0, a1, fm_bi_s, C_pic, C_ckc, b1, fm_b1_s, C_ckc, ho, fm_b1_s, k1]
    simp (disch := omega) only [R_let, R_ck, R_g1, L_15, R_ws, c1, hro, y1, C_ckc, ho, fm_b1_s, nI_1]
    by_cases hx : nI (offN f t (goS (j, N (s (28 + j)), N (s (34 + j)), w, N (s 1), (fun i => N (s (40 + 4 * j + i))), cl) (shB s j) N0 (N (s 0)) (N (s (3 + j))))) ≤ mst
    · obtain ⟨r, μ', n', ρ', x1, x2, x3, x4⟩ := ih (w + 1) bst mst fuel fuel2 μ2 n1 ρ3 (by omega) hg2 (y2.trans hr)
      have hk := rK_b y2 y3
      refine ⟨r, μ', n', ρ', (if_pos hx).trans x1, ?_, dQ_t hd2 x3, x4.1.trans hk.1, x4.2.1.trans hk.2.1, x4.2.2.1.trans hk.2.2.1, x4.2.2.2.1.trans hk.2.2.2.1, x4.2.2.2.2.trans hk.2.2.2.2⟩
      rw [if_pos hx, if_pos hx]
      exact x2
    · obtain ⟨r, μ', n', ρ', x1, x2, x3, x4⟩ := ih (w + 1) w _ fuel fuel2 μ2 n1 ρ3 (by omega) hg2 (y2.trans hr)
      have hk := rK_b y2 y3
      refine ⟨r, μ', n', ρ', (if_neg hx).trans x1, ?_, dQ_t hd2 x3, x4.1.trans hk.1, x4.2.1.trans hk.2.1, x4.2.2.1.trans hk.2.2.1, x4.2.2.2.1.trans hk.2.2.2.1, x4.2.2.2.2.trans hk.2.2.2.2⟩
      rw [if_neg hx, if_neg hx]
      exact x2
end X
