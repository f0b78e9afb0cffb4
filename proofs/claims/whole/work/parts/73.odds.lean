/-! methods, both sides: odds, mean -/
section X
variable {Kd : Nat → Nat}
theorem x_oddsl {s : Nat → Int32} {np i j f t N0 : Nat} {cl : List Cl} {a3 a4 : Int32} (hj : j < np) (hN : N0 ≤ 60) (h99 : N (s 0) ≤ 9999) : ∀ (d c w fuel fuel2 : Nat) (μ : Nat → Nat → Int32) (n : Nat → Nat → Option Nat) (ρ : Nat → Nat → Int32), c + d = 21 → w ≤ c → gen Kd μ n s np i cl f t → ρ 1 = s → ∃ r μ' n' ρ', b_X11_odds_46 (kC Kd) lC (fuel + d + 1) 0 (nI j) (nI N0) a3 a4 (nI w) (nI c) (μ, n) = some (r, (μ', n')) ∧ b_X12_odds_49 kR lR (fuel2 + d + 1) 0 (nI j) (nI N0) a3 a4 (lN w) (nI c) (ρ, nR) = some (r, (ρ', nR)) ∧ dQ μ n μ' n' ∧ rK ρ ρ' := by
  intro d
  induction d with
  | zero =>
    intro c w fuel fuel2 μ n ρ hw hwc hg hr
    rw [b_X11_odds_46, b_X12_odds_49]
    unfold k_X11_odds_46 k_X12_odds_49
    rw [if_pos (show (20 : Int32) < nI c from nI_lt (a := 20) (by omega) (by omega)), if_pos (show (20 : Int32) < nI c from nI_lt (a := 20) (by omega) (by omega))]
    obtain ⟨v, e1, e2⟩ := x_frac (kap := kC Kd) (lam := lC) (kap2 := kR) (lam2 := lR) (μ, n) (ρ, nR) w 21 a4 (by omega) (by omega) (by omega)
    rw [show (21 : Int32) = nI 21 from rfl, e1, show (21 : Int64) = lN 21 from rfl, e2, fm_b1_s, fm_b1_s]
    exact ⟨_, _, _, _, rfl, rfl, dQ_r _ _, rfl, rfl, rfl, rfl, rfl⟩
  | succ d ih =>
    intro c w fuel fuel2 μ n ρ hw hwc hg hr
    have hg0 := hg
    obtain ⟨g1, g2, g3, g4, g5, g6, g7, g8, g9, g10⟩ := hg
    obtain ⟨μ1, n1, a1, a2, aa4⟩ := k_from hg0 hj (c := c) (by omega)
    have hg1 := gen_d a2 hg0
    have ht1 := hg1.2.2.2.2.2.2.2.2.1
    obtain ⟨μ2, b1, b2, b3⟩ := k_goHours (N := N0) aa4 (f := f) (t := t) ht1 (by omega) (by omega)
    have hd2 : dQ μ n μ2 n1 := dQ_t a2 (dQ_3 b3)
    have hg2 := gen_d hd2 hg0
    have ho := k_offer b2 (f := f) (t := t) hg2.2.2.2.2.2.2.2.2.1
    obtain ⟨ρ1, k1, k2, k3⟩ := r_keeps ρ
    have hr1 : ρ1 1 = s := (k2 1 (by omega)).trans hr
    have hI' : rI (upd s 1 (nI c)) := rI_w g5 (fun h => absurd h (by omega)) (fun h => nn_mk (by omega)) (fun p hp h => absurd h (by omega)) (fun p hp h => absurd h (by omega)) (fun p hp h => absurd h (by omega)) (by omega)
    have hd' : hdR (upd s 1 (nI c)) cl f t := hdR_c (fun x hx => upd_n (by omega)) g8
    have hrc : rC (upd s 1 (nI c)) (wm ρ1 1 1 (nI c)) j (N (s 0)) (N (s (3 + j))) := by
      refine ⟨fun x _ _ => by rw [wm_u, hr1], ?_, ?_⟩
      · rw [wm_k (by omega), hr1]; exact (nn_N (by omega) g5.1).1
      · rw [wm_k (by omega), hr1]; exact (nn_N (by omega) (g5.2.2.2 j (by omega)).1).1
    obtain ⟨ρ2, c1, c2, c3⟩ := rC_n (n := N0) hI' hd' hrc (show j < 6 by omega) (by omega) (N_lt g5 (by omega)) (by omega)
    have hq : pq (upd s 1 (nI c)) cl j = pqc s cl j c := by
      unfold pq pqc
      rw [upd_n (show 28 + j ≠ 1 by omega), upd_n (show 34 + j ≠ 1 by omega), upd_n (show 15 + j ≠ 1 by omega), upd_s, N_nI (by omega)]
      have hrow : (fun i => N (upd s 1 (nI c) (40 + 4 * j + i))) = fun i => N (s (40 + 4 * j + i)) := by
        funext x
        rw [upd_n (show 40 + 4 * j + x ≠ 1 by omega)]
      rw [hrow]
    rw [hq, shB_c (upd_n (show 9 + j ≠ 1 by omega))] at c3
    have hro := rC_o hI' hd' c3 (show j < 6 by omega) (by omega) (goS_lt _ _ _ _ _ (N_lt g5 (by omega)))
    obtain ⟨ρ3, y1, y2, y3⟩ := r_back k2 k3 (rS_t (rS_w ρ1 1 (nI c)) c2) (fun x hx => by rw [c3.1 x (by omega) (by omega), upd_n (by omega), hr1])
    have hnl : ¬ (20 : Int32) < nI c := nI_nlt (b := c) (a := 20) (by omega) (by omega)
    rw [show fuel + (d + 1) + 1 = fuel + d + 1 + 1 by omega, show fuel2 + (d + 1) + 1 = fuel2 + d + 1 + 1 by omega, b_X11_odds_46, b_X12_odds_49]
    unfold k_X11_odds_46 k_X12_odds_49
    rw [if_neg hnl, if_neg hnl, C_c0, a1, fm_bi_s, C_ckc, b1, fm_b1_s, C_ckc, ho, fm_b1_s, k1]
    simp (disch := omega) only [R_let, R_ck, R_g1, R_w1, fm_b1_s, nI_1]
    rw [c1]
    simp (disch := omega) only [R_let, R_ck, fm_b1_s, nI_1]
    rw [hro]
    simp (disch := omega) only [R_let, R_ck, fm_b1_s, nI_1]
    rw [y1]
    simp (disch := omega) only [R_let, R_ck, fm_b1_s, nI_1, Int64.add_zero]
    have hk := rK_b y2 y3
    by_cases hx : nI (offN f t (goS (pqc s cl j c) (shB s j) N0 (N (s 0)) (N (s (3 + j))))) < a3
    · obtain ⟨r, μ', n', ρ', x1, x2, x3, x4⟩ := ih (c + 1) w fuel fuel2 μ2 n1 ρ3 (by omega) (by omega) hg2 (y2.trans hr)
      refine ⟨r, μ', n', ρ', (if_pos hx).trans x1, (if_pos hx).trans x2, dQ_t hd2 x3, x4.1.trans hk.1, x4.2.1.trans hk.2.1, x4.2.2.1.trans hk.2.2.1, x4.2.2.2.1.trans hk.2.2.2.1, x4.2.2.2.2.trans hk.2.2.2.2⟩
    · obtain ⟨r, μ', n', ρ', x1, x2, x3, x4⟩ := ih (c + 1) (w + 1) fuel fuel2 μ2 n1 ρ3 (by omega) (by omega) hg2 (y2.trans hr)
      have hl1 : lN w + 1 = lN (w + 1) := (lN_add w 1)
      rw [hl1]
      refine ⟨r, μ', n', ρ', (if_neg hx).trans x1, (if_neg hx).trans x2, dQ_t hd2 x3, x4.1.trans hk.1, x4.2.1.trans hk.2.1, x4.2.2.1.trans hk.2.2.1, x4.2.2.2.1.trans hk.2.2.2.1, x4.2.2.2.2.trans hk.2.2.2.2⟩
end X
