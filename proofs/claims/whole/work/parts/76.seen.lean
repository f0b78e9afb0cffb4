/-! methods, both sides: what colds, warms and firm share -/
theorem hdR_g {s s' : Nat → Int32} {cl : List Cl} {f t : Nat} (h27 : s' 27 = s 27) (h : ∀ j, 211 ≤ j → s' j = s j) (hd : hdR s cl f t) : hdR s' cl f t := by
  rcases hd with ⟨h1, h2⟩ | ⟨j, e, h0, h1, h2, h3, h4, h5, h6, h7⟩
  · exact Or.inl ⟨h27.trans h1, h2⟩
  · exact Or.inr ⟨j, e, h0, h27.trans h1, (h _ (by omega)).trans h2, h3, clR_c _ _ _ (fun j h1 h2 => h j (by omega)) h4, (h _ (by omega)).trans h5, (h _ (by omega)).trans h6, h7⟩
section X
variable {Kd : Nat → Nat}
theorem x_seenl {s : Nat → Int32} {np i f t k wh g c : Nat} {cl : List Cl} {a2 a3 a4 : Int32} (hG : gss s np cl f t wh g c a2 a3 a4) (h99 : N (s 0) ≤ 9999) : ∀ (d x fuel fuel2 : Nat) (μ : Nat → Nat → Int32) (n : Nat → Nat → Option Nat) (ρ : Nat → Nat → Int32), x + d = k → gen Kd μ n s np i cl f t → qz μ n s np k → ρ 1 = s → ∃ b μ' n' ρ', b_X11_isSeenSo_3 (kC Kd) lC (fuel + d + 1) 0 (nI c) a2 a3 a4 (nI x) (μ, n) = some (b2i b, (μ', n')) ∧ b_X12_areAsSeen_13 kR lR (fuel2 + d + 2) 0 (nI wh) (nI g) (s wh) 1 (nI x) (ρ, nR) = some (b2i b, (ρ', nR)) ∧ dQ μ n μ' n' ∧ rK ρ ρ' := by
  intro d
  induction d with
  | zero =>
    intro x fuel fuel2 μ n ρ hw hg hq hr
    have hx : x = k := hw
    subst hx
    rw [b_X11_isSeenSo_3, show fuel2 + 0 + 2 = fuel2 + 1 + 1 by omega, b_X12_areAsSeen_13]
    generalize b_X12_areAsSeen_13 kR lR (fuel2 + 1) = G
    unfold k_X11_isSeenSo_3 k_X12_areAsSeen_13
    have c13 : ∀ {α : Type} (F : Option α), fm_ck (kC Kd 13 == 8) F = F := fun F => C_ck rfl F
    rw [C_r0 hq.2.2.2.2.2.1, c13, z_size hq, fm_b1_s, if_pos (Int32.le_refl _), R_g1, R_s23, hr, hq.2.1, if_pos (Int32.le_refl _), fm_z1, fm_z1]
    exact ⟨true, μ, n, ρ, rfl, rfl, dQ_r _ _, rfl, rfl, rfl, rfl, rfl⟩
  | succ d ih =>
    intro x fuel fuel2 μ n ρ hw hg hq hr
    have hg0 := hg
    obtain ⟨g1, g2, g3, g4, g5, g6, g7, g8, g9, g10⟩ := hg
    obtain ⟨hc20, hwh, hI', hqn, hqe⟩ := hG
    have hq0 := hq
    obtain ⟨q1, q2, q3, q4, q5, q6, q7⟩ := hq
    obtain ⟨_, ⟨p, hp, ep⟩, n5, n6⟩ := q7 x (by omega)
    obtain ⟨eN, lN⟩ := nn_N (by omega) n5
    obtain ⟨eI, lI⟩ := nn_N (by omega) n6
    obtain ⟨μ1, n1, b1, b2, b3⟩ := k_from hg0 hp hc20
    -- the course, told of the guess
    have hd' : hdR (upd s wh (nI g)) cl f t := hdR_g (upd_n (by omega)) (fun x hx => upd_n (by omega)) g8
    have hstep : ∃ μ2, (if s (64 + x) = a2 then wm (wm μ1 (103 + 6 * p) 3 a3) (103 + 6 * p) 4 a4 else μ1) = μ2 ∧ dQ μ1 n1 μ2 n1 ∧ cI Kd μ2 n1 p i (pq (upd s wh (nI g)) cl p) (N (s 0)) (N (s (3 + p))) (shB s p) := by
      by_cases ha : s (64 + x) = a2
      · obtain ⟨w, v, lw, lv, e3, e4, e5⟩ := hqe p hp (ep.symm.trans ha)
        refine ⟨_, if_pos ha, dQ_3 (fun r x y z => (wm_r x).trans (wm_r x)), ?_⟩
        rw [e5, e3, e4]
        exact cI_v (cI_w b3 lw) lv
      · refine ⟨_, if_neg ha, dQ_r _ _, ?_⟩
        rw [hqn p hp (fun h => ha (ep.trans h))]
        exact b3
    obtain ⟨μ2, e2, d2, c2⟩ := hstep
    have hg1 := gen_d (dQ_t b2 d2) hg0
    have ht1 := hg1.2.2.2.2.2.2.2.2.1
    obtain ⟨μ3, f1, f2, f3⟩ := k_goHours (N := N (s (69 + x))) c2 (f := f) (t := t) ht1 (by omega) (by omega)
    have hd3 : dQ μ n μ3 n1 := dQ_t b2 (dQ_t d2 (dQ_3 f3))
    have hg3 := gen_d hd3 hg0
    have hq2 : qz μ2 n1 s np k := qz_d (dQ_t b2 d2) hq0
    have hq3 : qz μ3 n1 s np k := qz_d hd3 hq0
    have hice : μ3 (103 + 6 * p) 6 = nI (goS (pq (upd s wh (nI g)) cl p) (shB s p) (N (s (69 + x))) (N (s 0)) (N (s (3 + p)))) := f2.2.1.2.2.2.2.1
    -- the reference
    obtain ⟨ρ1, k1, k2, k3⟩ := r_keeps ρ
    have hr1 : ρ1 1 = s := (k2 1 (by omega)).trans hr
    have hrc : rC (upd s wh (nI g)) (wm ρ1 1 wh (nI g)) p (N (s 0)) (N (s (3 + p))) := by
      refine ⟨fun x _ _ => by rw [wm_u, hr1], ?_, ?_⟩
      · rw [wm_k (by omega), hr1]; exact (nn_N (by omega) g5.1).1
      · rw [wm_k (by omega), hr1]; exact (nn_N (by omega) (g5.2.2.2 p (by omega)).1).1
    obtain ⟨ρ2, c1, c2, c3⟩ := rC_n (n := N (s (69 + x))) hI' hd' hrc (show p < 6 by omega) (by omega) (N_lt g5 (by omega)) (by omega)
    rw [shB_c (upd_n (show 9 + p ≠ wh by omega))] at c3
    obtain ⟨ρ3, y1, y2, y3⟩ := r_goesBack ρ2
    have hr4 : (wm ρ3 1 wh (s wh)) 1 = s := by
      funext j
      by_cases hj : j = wh
      · rw [hj, wm_s]
      · rw [wm_k hj]
        by_cases h21 : j < 21
        · rw [(y3 j).2 h21, c2 3 (by omega) (by omega) (by omega), wm_r (by omega), k3 j h21, hr]
        · rw [(y3 j).1 (by omega), c3.1 j (by omega) (by omega), upd_n hj]
    have hk : rK ρ (wm ρ3 1 wh (s wh)) := by
      have hh : ∀ r, r ≠ 1 → r ≠ 3 → r ≠ 4 → r ≠ 5 → wm ρ3 1 wh (s wh) r = ρ r := fun r r1 r3 r4 r5 => by
        rw [wm_r r1, y2 r r1, c2 r r1 r4 r5, wm_r r1, k2 r r3]
      exact rK_b (hr4.trans hr.symm) hh
    have hnl : ¬ nI k ≤ nI x := nI_ge (by omega) (by omega)
    have c13 : ∀ {α : Type} (F : Option α), fm_ck (kC Kd 13 == 8) F = F := fun F => C_ck rfl F
    have b1' : m_X11_courseFromNow (kC Kd) lC 0 (s (64 + x)) (nI c) (μ, n) = some (103 + 6 * p, (μ1, n1)) := by rw [ep]; exact b1
    have n11 : n1 0 11 = some 13 := hq3.2.2.2.2.2.1
    have hpn : m_X11_isPane (kC Kd) lC 0 (s (64 + x)) (μ, n) = some 1 := by
      have h3 : cA μ (ρ 1) := by rw [hr]; exact g3
      have h6 : ρ 1 21 = nI np := by rw [hr]; exact g6
      obtain ⟨m, em⟩ : ∃ m, np = m + 1 := ⟨np - 1, by omega⟩
      have e : (decide (0 ≤ nI p) && decide (nI p ≤ nI np - 1)) = true := by
        rw [em, nI_pred]
        exact wi_T (by omega) (by omega)
      rw [x_pC h3 h6, ep, e]
      rfl
    have f1' : m_X1_goHours (kC Kd) lC (103 + 6 * p) (s (69 + x)) (μ2, n1) = some (μ3, n1) := by rw [eN]; exact f1
    rw [show fuel + (d + 1) + 1 = fuel + d + 1 + 1 by omega, show fuel2 + (d + 1) + 2 = fuel2 + d + 2 + 1 by omega, b_X11_isSeenSo_3, b_X12_areAsSeen_13]
    generalize hice2 : nI (goS (pq (upd s wh (nI g)) cl p) (shB s p) (N (s (69 + x))) (N (s 0)) (N (s (3 + p)))) = ic at hice
    have hcls : ∀ G : Nat → Int32 → Int32 → Int32 → Int32 → Int32 → fm_M → Option (Int32 × fm_M), k_X11_isSeenSo_3 (kC Kd) lC G 0 (nI c) a2 a3 a4 (nI x) (μ, n) = if ic = s (74 + x) then G 0 (nI c) a2 a3 a4 (nI (x + 1)) (μ3, n1) else some (0, (μ3, n1)) := by
      intro G
      unfold k_X11_isSeenSo_3
      rw [C_r0 q6, c13, z_size hq0, fm_b1_s, if_neg hnl, C_r0 q6, c13, (z_at hq0 (by omega)).1, fm_b1_s, C_c0, hpn, fm_b1_s, if_neg (show ¬ (1 : Int32) = 0 by decide), C_c0, b1', fm_bi_s]
      by_cases ha : s (64 + x) = a2
      · rw [if_pos ha] at e2
        subst e2
        rw [if_pos ha, C_pic, C_pic, C_r0 n11, c13, (z_at hq2 (by omega)).2.1, fm_b1_s, C_ckc, f1', fm_b1_s, C_gic, hice, C_r0 n11, c13, (z_at hq3 (by omega)).2.2, fm_b1_s, R_let, nI_1, fm_z0]
      · rw [if_neg ha] at e2
        subst e2
        rw [if_neg ha, C_r0 n11, c13, (z_at hq2 (by omega)).2.1, fm_b1_s, C_ckc, f1', fm_b1_s, C_gic, hice, C_r0 n11, c13, (z_at hq3 (by omega)).2.2, fm_b1_s, R_let, nI_1, fm_z0]
    have href : ∀ G : Nat → Int32 → Int32 → Int32 → Int32 → Int32 → fm_M → Option (Int32 × fm_M), k_X12_areAsSeen_13 kR lR G 0 (nI wh) (nI g) (s wh) 1 (nI x) (ρ, nR) = if ic = s (74 + x) then G 0 (nI wh) (nI g) (s wh) 1 (nI (x + 1)) (wm ρ3 1 wh (s wh), nR) else G 0 (nI wh) (nI g) (s wh) 0 (nI (x + 1)) (wm ρ3 1 wh (s wh), nR) := by
      intro G
      unfold k_X12_areAsSeen_13
      have e64 : wm ρ1 1 wh (nI g) 1 (64 + x) = nI p := by rw [wm_k (by omega), hr1]; exact ep
      have e69 : wm ρ1 1 wh (nI g) 1 (69 + x) = nI (N (s (69 + x))) := by rw [wm_k (by omega), hr1]; exact eN
      have e64' : ρ2 1 (64 + x) = nI p := by rw [c3.1 _ (by omega) (by omega), upd_n (by omega)]; exact ep
      have e74' : ρ2 1 (74 + x) = s (74 + x) := by rw [c3.1 _ (by omega) (by omega), upd_n (by omega)]
      have e3' : ρ2 1 (3 + p) = ic := c3.2.2.trans hice2
      rw [R_g1, R_s23, hr, q2, if_neg hnl, if_neg (show ¬ (1 : Int32) = 0 by decide), R_ck, k1, fm_b1_s, R_g1, R_ws (by omega), R_g1, L_64, R_s (by omega), e64, R_g1, L_69, R_s (by omega), e69, R_ck, c1, fm_b1_s, R_g1, R_g1, R_s (by omega), e64', L_3, R_s (by omega), e3', R_g1, L_74, R_s (by omega), e74', R_let, R_let, R_ck, R_ck, y1, fm_b1_s, fm_b1_s, R_g1, R_g1, R_ws (by omega), R_ws (by omega), R_let, R_let, nI_1]
    rw [hcls, href]
    by_cases hi : ic = s (74 + x)
    · rw [if_pos hi, if_pos hi]
      obtain ⟨b, μ', n', ρ', x1, x2, x3, x4⟩ := ih (x + 1) fuel fuel2 μ3 n1 _ (by omega) hg3 hq3 hr4
      exact ⟨b, μ', n', ρ', x1, x2, dQ_t hd3 x3, x4.1.trans hk.1, x4.2.1.trans hk.2.1, x4.2.2.1.trans hk.2.2.1, x4.2.2.2.1.trans hk.2.2.2.1, x4.2.2.2.2.trans hk.2.2.2.2⟩
    · rw [if_neg hi, if_neg hi, show fuel2 + d + 2 = fuel2 + d + 1 + 1 by omega, b_X12_areAsSeen_13]
      refine ⟨false, μ3, n1, _, rfl, ?_, hd3, hk⟩
      unfold k_X12_areAsSeen_13
      rw [R_g1, R_s23, hr4, q2, if_pos rfl, fm_z0]
      by_cases hh : nI k ≤ nI (x + 1)
      · rw [if_pos hh]
        rfl
      · rw [if_neg hh]
        rfl
end X
