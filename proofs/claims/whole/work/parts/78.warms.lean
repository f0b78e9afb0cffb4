/-! methods, both sides: warms, firm -/
theorem rI_34 {s : Nat → Int32} (hI : rI s) {j g : Nat} (hj : j < 6) (hg : g ≤ 9) : rI (upd s (34 + j) (nI g)) := by
  obtain ⟨a0, a1, a2, a3⟩ := hI
  refine ⟨by rw [upd_n (by omega)]; exact a0, by rw [upd_n (by omega)]; exact a1, by rw [upd_n (by omega)]; exact a2, fun p hp => ?_⟩
  obtain ⟨b1, b2, b3, b4, b5, b6⟩ := a3 p hp
  refine ⟨by rw [upd_n (by omega)]; exact b1, by rw [upd_n (by omega)]; exact b2, by rw [upd_n (by omega)]; exact b3, by rw [upd_n (by omega)]; exact b4, ?_, fun i hi => by rw [upd_n (by omega)]; exact b6 i hi⟩
  by_cases h : p = j
  · subst h
    rw [upd_s]
    exact nn_mk hg
  · rw [upd_n (by omega)]
    exact b5
theorem gss_15 {s : Nat → Int32} {np f t j g : Nat} {cl : List Cl} (hI : rI s) (h6 : np ≤ 6) (hj : j < np) (hg : g ≤ 9) : gss s np cl f t (15 + j) g (N (s 1)) (nI j) (nI g) (s (34 + j)) := by
  have hrow : ∀ x, (fun i => N (upd s (15 + j) (nI g) (40 + 4 * x + i))) = fun i => N (s (40 + 4 * x + i)) := by
    intro x
    funext y
    rw [upd_n (show 40 + 4 * x + y ≠ 15 + j by omega)]
  obtain ⟨e1, l1⟩ := nn_N (by omega) hI.2.1
  refine ⟨l1, Or.inr (Or.inl (by omega)), rI_w hI (fun h => absurd h (by omega)) (fun h => absurd h (by omega)) (fun p hp h => absurd h (by omega)) (fun p hp h => absurd h (by omega)) (fun p hp h => nn_mk hg) (by omega), fun x hx hn => ?_, fun x hx h => ?_⟩
  · have hxj : x ≠ j := fun h => hn (by rw [h])
    unfold pq pqc
    rw [upd_n (show 28 + x ≠ 15 + j by omega), upd_n (show 34 + x ≠ 15 + j by omega), upd_n (show 15 + x ≠ 15 + j by omega), upd_n (show 1 ≠ 15 + j by omega), hrow]
  · have hxj : x = j := (nI_eq (by omega) (by omega)).1 h
    subst hxj
    obtain ⟨e3, l3⟩ := nn_N (by omega) (hI.2.2.2 x (by omega)).2.2.2.2.1
    refine ⟨g, N (s (34 + x)), hg, l3, rfl, e3, ?_⟩
    unfold pq
    rw [upd_n (show 28 + x ≠ 15 + x by omega), upd_n (show 34 + x ≠ 15 + x by omega), upd_s, upd_n (show 1 ≠ 15 + x by omega), hrow, N_nI (by omega)]
theorem gss_34 {s : Nat → Int32} {np f t j g : Nat} {cl : List Cl} (hI : rI s) (h6 : np ≤ 6) (hj : j < np) (hg : g ≤ 9) : gss s np cl f t (34 + j) g (N (s 1)) (nI j) (s (15 + j)) (nI g) := by
  have hrow : ∀ x, (fun i => N (upd s (34 + j) (nI g) (40 + 4 * x + i))) = fun i => N (s (40 + 4 * x + i)) := by
    intro x
    funext y
    rw [upd_n (show 40 + 4 * x + y ≠ 34 + j by omega)]
  obtain ⟨e1, l1⟩ := nn_N (by omega) hI.2.1
  refine ⟨l1, Or.inr (Or.inr (by omega)), rI_34 hI (by omega) hg, fun x hx hn => ?_, fun x hx h => ?_⟩
  · have hxj : x ≠ j := fun h => hn (by rw [h])
    unfold pq pqc
    rw [upd_n (show 28 + x ≠ 34 + j by omega), upd_n (show 34 + x ≠ 34 + j by omega), upd_n (show 15 + x ≠ 34 + j by omega), upd_n (show 1 ≠ 34 + j by omega), hrow]
  · have hxj : x = j := (nI_eq (by omega) (by omega)).1 h
    subst hxj
    obtain ⟨e3, l3⟩ := nn_N (by omega) (hI.2.2.2 x (by omega)).2.2.1
    refine ⟨N (s (15 + x)), g, l3, hg, e3, rfl, ?_⟩
    unfold pq
    rw [upd_n (show 28 + x ≠ 34 + x by omega), upd_n (show 15 + x ≠ 34 + x by omega), upd_s, upd_n (show 1 ≠ 34 + x by omega), hrow, N_nI (by omega)]
section X
variable {Kd : Nat → Nat}
theorem x_warmsl {s : Nat → Int32} {np i f t k j : Nat} {cl : List Cl} (hj : j < np) (h99 : N (s 0) ≤ 9999) : ∀ (d w fuel fuel2 : Nat) (acc : Int32) (μ : Nat → Nat → Int32) (n : Nat → Nat → Option Nat) (ρ : Nat → Nat → Int32), w + d = 10 → gen Kd μ n s np i cl f t → qz μ n s np k → ρ 1 = s → ∃ r μ' n' ρ', b_X11_warms_14 (kC Kd) lC (fuel + d + 1) 0 (nI j) acc (nI w) (μ, n) = some (r, (μ', n')) ∧ b_X12_warms_14 kR lR (fuel2 + d + 1) 0 (nI j) acc (nI w) (ρ, nR) = some (r, (ρ', nR)) ∧ dQ μ n μ' n' ∧ rK ρ ρ' := by
  intro d
  induction d with
  | zero =>
    intro w fuel fuel2 acc μ n ρ hd hg hq hr
    rw [b_X11_warms_14, b_X12_warms_14]
    unfold k_X11_warms_14 k_X12_warms_14
    rw [if_pos (show (9 : Int32) < nI w from nI_lt (a := 9) (by omega) (by omega)), if_pos (show (10 : Int32) ≤ nI w from nI_le (a := 10) (by omega) (by omega))]
    exact ⟨_, μ, n, ρ, rfl, rfl, dQ_r _ _, rK_r _⟩
  | succ d ih =>
    intro w fuel fuel2 acc μ n ρ hd hg hq hr
    have h6 := hg.2.2.2.2.2.2.1
    obtain ⟨b, μ1, n1, ρ1, x1, x2, x3, x4⟩ := x_seen (gss_15 (np := np) (f := f) (t := t) (cl := cl) (j := j) (g := w) hg.2.2.2.2.1 h6 hj (by omega)) h99 hg hq hr
    have hg0 := hg
    obtain ⟨⟨⟨m0, _⟩, _⟩, g2, ⟨_, _, c8, _⟩, g4, g5, _⟩ := hg0
    obtain ⟨e1, _⟩ := nn_N (by omega) g5.2.1
    rw [show fuel + (d + 1) + 1 = fuel + d + 1 + 1 by omega, show fuel2 + (d + 1) + 1 = fuel2 + d + 1 + 1 by omega, b_X11_warms_14, b_X12_warms_14]
    unfold k_X11_warms_14 k_X12_warms_14
    rw [if_neg (show ¬ (9 : Int32) < nI w from nI_nlt (b := w) (a := 9) (by omega) (by omega)), if_neg (show ¬ (10 : Int32) ≤ nI w from nI_ge (b := 10) (by omega) (by omega)), C_g0, c8, C_r0 m0, C_lr1 (by omega) (g2 j hj).1, C_gio, (g4 j hj).2.2.1, C_c0, e1, x1, fm_bi_s, R_ck, L_15, x2, fm_bi_s]
    simp only [R_let, nI_1, Int32.or_zero]
    cases b with
    | false =>
      obtain ⟨r, μ', n', ρ', y1, y2, y3, y4⟩ := ih (w + 1) fuel fuel2 acc μ1 n1 ρ1 (by omega) (gen_d x3 hg) (qz_d x3 hq) (x4.1.trans hr)
      exact ⟨r, μ', n', ρ', y1, y2, dQ_t x3 y3, rK_t x4 y4⟩
    | true =>
      obtain ⟨r, μ', n', ρ', y1, y2, y3, y4⟩ := ih (w + 1) fuel fuel2 _ μ1 n1 ρ1 (by omega) (gen_d x3 hg) (qz_d x3 hq) (x4.1.trans hr)
      exact ⟨r, μ', n', ρ', y1, y2, dQ_t x3 y3, rK_t x4 y4⟩
theorem x_firml {s : Nat → Int32} {np i f t k j : Nat} {cl : List Cl} {a : Int32} (hj : j < np) (h99 : N (s 0) ≤ 9999) : ∀ (d cnt fuel fuel2 : Nat) (lst : Int32) (μ : Nat → Nat → Int32) (n : Nat → Nat → Option Nat) (ρ : Nat → Nat → Int32), d ≤ 10 → gen Kd μ n s np i cl f t → qz μ n s np k → ρ 1 = s → ∃ r μ' n' ρ', b_X11_firm_28 (kC Kd) lC (fuel + d + 1) 0 (nI j) a (nI cnt) lst (nI d - 1) (μ, n) = some (r, (μ', n')) ∧ b_X12_fitting_10 kR lR (fuel2 + d + 1) 0 (nI (34 + j)) a (nI cnt) lst (nI d - 1) (ρ, nR) = some (r, (ρ', nR)) ∧ dQ μ n μ' n' ∧ rK ρ ρ' := by
  intro d
  induction d with
  | zero =>
    intro cnt fuel fuel2 lst μ n ρ hd hg hq hr
    rw [b_X11_firm_28, b_X12_fitting_10]
    unfold k_X11_firm_28 k_X12_fitting_10
    rw [if_pos (show nI 0 - 1 < 0 by decide), if_pos (show nI 0 - 1 < 0 by decide)]
    by_cases h : a = 0
    · rw [if_pos h, if_pos h]
      exact ⟨_, μ, n, ρ, rfl, rfl, dQ_r _ _, rK_r _⟩
    · rw [if_neg h, if_neg h]
      exact ⟨_, μ, n, ρ, rfl, rfl, dQ_r _ _, rK_r _⟩
  | succ d ih =>
    intro cnt fuel fuel2 lst μ n ρ hd hg hq hr
    have h6 := hg.2.2.2.2.2.2.1
    obtain ⟨b, μ1, n1, ρ1, x1, x2, x3, x4⟩ := x_seen (gss_34 (np := np) (f := f) (t := t) (cl := cl) (j := j) (g := d) hg.2.2.2.2.1 h6 hj (by omega)) h99 hg hq hr
    have hg0 := hg
    obtain ⟨⟨⟨m0, _⟩, _⟩, g2, ⟨_, _, c8, _⟩, g4, g5, _⟩ := hg0
    obtain ⟨e1, _⟩ := nn_N (by omega) g5.2.1
    rw [show fuel + (d + 1) + 1 = fuel + d + 1 + 1 by omega, show fuel2 + (d + 1) + 1 = fuel2 + d + 1 + 1 by omega, b_X11_firm_28, b_X12_fitting_10, nI_s1]
    unfold k_X11_firm_28 k_X12_fitting_10
    have hn0 : ¬ nI d < 0 := nI_nlt (b := 0) (by omega) (by omega)
    rw [if_neg hn0, if_neg hn0, C_g0, c8, C_r0 m0, C_lr1 (by omega) (g2 j hj).1, C_gio, (g4 j hj).2.2.2.1, C_c0, e1, x1, fm_bi_s, R_ck, x2, fm_bi_s]
    simp only [R_let, nI_d1, nI_1, Int32.add_zero]
    cases b with
    | false =>
      obtain ⟨r, μ', n', ρ', y1, y2, y3, y4⟩ := ih cnt fuel fuel2 lst μ1 n1 ρ1 (by omega) (gen_d x3 hg) (qz_d x3 hq) (x4.1.trans hr)
      exact ⟨r, μ', n', ρ', y1, y2, dQ_t x3 y3, rK_t x4 y4⟩
    | true =>
      obtain ⟨r, μ', n', ρ', y1, y2, y3, y4⟩ := ih (cnt + 1) fuel fuel2 (nI d) μ1 n1 ρ1 (by omega) (gen_d x3 hg) (qz_d x3 hq) (x4.1.trans hr)
      exact ⟨r, μ', n', ρ', y1, y2, dQ_t x3 y3, rK_t x4 y4⟩
end X
section X
variable {Kd : Nat → Nat} {μ : Nat → Nat → Int32} {n : Nat → Nat → Option Nat} {ρ : Nat → Nat → Int32}
theorem x_warms (hR : Rep Kd μ n ρ) (a : Int32) : ∃ r μ' n' ρ', m_X11_warms (kC Kd) lC 0 a (μ, n) = some (r, (μ', n')) ∧ m_X12_warms kR lR 0 a (ρ, nR) = some (r, (ρ', nR)) ∧ Rep Kd μ' n' ρ' := by
  obtain ⟨np, i, cl, f, t, hg, h99⟩ := Rep_gen hR
  obtain ⟨k, hq⟩ := Rep_qz hR hg.2.2.2.2.2.1 hg.2.2.2.2.2.2.1
  have hg0 := hg
  obtain ⟨g1, g2, g3, g4, g5, g6, g7, g8, g9, g10⟩ := hg
  unfold m_X11_warms m_X12_warms
  simp only [R_let, C_c0, R_ck, x_pC g3 g6, x_pR g6, fm_b1_s, b2i_if]
  rcases pane_c a g7 with hc | ⟨j, hj, rfl, hc⟩
  · rw [hc]
    exact ⟨_, _, _, _, rfl, rfl, hR⟩
  rw [hc, if_pos rfl, if_pos rfl]
  obtain ⟨r, μ', n', ρ', x1, x2, x3, x4⟩ := x_warmsl (Kd := Kd) hj h99 10 0 989 989 0 μ n ρ (by omega) hg0 hq rfl
  exact ⟨r, μ', n', ρ', x1, x2, Rep_k (kQ_d x3) x4 hR⟩
theorem x_firm (hR : Rep Kd μ n ρ) (a b : Int32) : ∃ r μ' n' ρ', m_X11_firm (kC Kd) lC 0 a b (μ, n) = some (r, (μ', n')) ∧ m_X12_firm kR lR 0 a b (ρ, nR) = some (r, (ρ', nR)) ∧ Rep Kd μ' n' ρ' := by
  obtain ⟨np, i, cl, f, t, hg, h99⟩ := Rep_gen hR
  obtain ⟨k, hq⟩ := Rep_qz hR hg.2.2.2.2.2.1 hg.2.2.2.2.2.2.1
  have hg0 := hg
  obtain ⟨g1, g2, g3, g4, g5, g6, g7, g8, g9, g10⟩ := hg
  unfold m_X11_firm m_X12_firm m_X12_fitting
  simp only [R_let, C_c0, R_ck, k_isWithin, r_in0, x_pC g3 g6, x_pR g6, fm_b1_s, b2i_if]
  rcases pane_c a g7 with hc | ⟨j, hj, rfl, hc⟩
  · rw [hc]
    exact ⟨_, _, _, _, rfl, rfl, hR⟩
  rw [hc, if_pos rfl, if_pos rfl]
  by_cases hd1' : ¬ (decide (0 ≤ b) && decide (b ≤ 1)) = true
  · rw [if_neg hd1', if_neg hd1']
    exact ⟨_, _, _, _, rfl, rfl, hR⟩
  have hd1 := Decidable.of_not_not hd1'
  rw [if_pos hd1, if_pos hd1]
  obtain ⟨r, μ', n', ρ', x1, x2, x3, x4⟩ := x_firml (Kd := Kd) (a := b) hj h99 10 0 989 989 (-5) μ n ρ (by omega) hg0 hq rfl
  refine ⟨r, μ', n', ρ', x1, ?_, Rep_k (kQ_d x3) x4 hR⟩
  have x2' : b_X12_fitting_10 kR lR fm_LF 0 (34 + nI j) b 0 (-5) 9 (ρ, nR) = some (r, (ρ', nR)) := by
    rw [show (34 : Int32) + nI j = nI (34 + j) from nI_add 34 j]
    exact x2
  rw [x2', fm_bi_s]
end X
