/-! methods, both sides: colds -/
theorem nI_m1 : ∀ t, t < 6 → ¬ nI t = (-1) := by decide
theorem nI_d1 (d : Nat) : nI d + (-1) = nI d - 1 := (Int32.sub_eq_add_neg _ _).symm
theorem nI_s1 (d : Nat) : nI (d + 1) - 1 = nI d := by rw [← nI_1, Int32.add_sub_cancel]
section X
variable {Kd : Nat → Nat}
theorem x_seen {s : Nat → Int32} {np i f t k wh g c : Nat} {cl : List Cl} {a2 a3 a4 : Int32} (hG : gss s np cl f t wh g c a2 a3 a4) (h99 : N (s 0) ≤ 9999) {μ : Nat → Nat → Int32} {n : Nat → Nat → Option Nat} {ρ : Nat → Nat → Int32} (hg : gen Kd μ n s np i cl f t) (hq : qz μ n s np k) (hr : ρ 1 = s) : ∃ b μ' n' ρ', m_X11_isSeenSo (kC Kd) lC 0 (nI c) a2 a3 a4 (μ, n) = some (b2i b, (μ', n')) ∧ m_X12_areAsSeen kR lR 0 (nI wh) (nI g) (ρ, nR) = some (b2i b, (ρ', nR)) ∧ dQ μ n μ' n' ∧ rK ρ ρ' := by
  have hk := hq.1
  obtain ⟨b, μ', n', ρ', x1, x2, x3, x4⟩ := x_seenl (Kd := Kd) hG h99 k 0 (999 - k) (998 - k) μ n ρ (by omega) hg hq hr
  refine ⟨b, μ', n', ρ', ?_, ?_, x3, x4⟩
  · unfold m_X11_isSeenSo
    rw [R_let, show fm_LF = 999 - k + k + 1 by unfold fm_LF; omega]
    exact x1
  · unfold m_X12_areAsSeen
    have hwh : wh < 926 := by have := hG.2.1; omega
    rw [R_g1, R_s hwh, hr, R_let, R_let, show fm_LF = 998 - k + k + 2 by unfold fm_LF; omega]
    exact x2
theorem rK_t {ρ ρ' ρ2 : Nat → Nat → Int32} (hk : rK ρ ρ') (x4 : rK ρ' ρ2) : rK ρ ρ2 := ⟨x4.1.trans hk.1, x4.2.1.trans hk.2.1, x4.2.2.1.trans hk.2.2.1, x4.2.2.2.1.trans hk.2.2.2.1, x4.2.2.2.2.trans hk.2.2.2.2⟩
theorem rK_r (ρ : Nat → Nat → Int32) : rK ρ ρ := ⟨rfl, rfl, rfl, rfl, rfl⟩
theorem gss_1 {s : Nat → Int32} {np f t c : Nat} {cl : List Cl} {a3 a4 : Int32} (hI : rI s) (h6 : np ≤ 6) (hc : c ≤ 20) : gss s np cl f t 1 c c (-1) a3 a4 := by
  refine ⟨hc, Or.inl rfl, rI_w hI (fun h => absurd h (by omega)) (fun h => nn_mk (by omega)) (fun p hp h => absurd h (by omega)) (fun p hp h => absurd h (by omega)) (fun p hp h => absurd h (by omega)) (by omega), fun x hx _ => ?_, fun x hx h => absurd h (nI_m1 x (by omega))⟩
  unfold pq pqc
  rw [upd_n (show 28 + x ≠ 1 by omega), upd_n (show 34 + x ≠ 1 by omega), upd_n (show 15 + x ≠ 1 by omega), upd_s, N_nI (by omega)]
  have hrow : (fun i => N (upd s 1 (nI c) (40 + 4 * x + i))) = fun i => N (s (40 + 4 * x + i)) := by
    funext y
    rw [upd_n (show 40 + 4 * x + y ≠ 1 by omega)]
  rw [hrow]
theorem x_coldsl {s : Nat → Int32} {np i f t k : Nat} {cl : List Cl} {a : Int32} (h99 : N (s 0) ≤ 9999) : ∀ (d cnt fuel fuel2 : Nat) (lst : Int32) (μ : Nat → Nat → Int32) (n : Nat → Nat → Option Nat) (ρ : Nat → Nat → Int32), d ≤ 21 → gen Kd μ n s np i cl f t → qz μ n s np k → ρ 1 = s → ∃ r μ' n' ρ', b_X11_colds_19 (kC Kd) lC (fuel + d + 1) 0 a (nI cnt) lst (nI d - 1) (μ, n) = some (r, (μ', n')) ∧ b_X12_fitting_10 kR lR (fuel2 + d + 1) 0 (nI 1) a (nI cnt) lst (nI d - 1) (ρ, nR) = some (r, (ρ', nR)) ∧ dQ μ n μ' n' ∧ rK ρ ρ' := by
  intro d
  induction d with
  | zero =>
    intro cnt fuel fuel2 lst μ n ρ hd hg hq hr
    rw [b_X11_colds_19, b_X12_fitting_10]
    unfold k_X11_colds_19 k_X12_fitting_10
    rw [if_pos (show nI 0 - 1 < 0 by decide), if_pos (show nI 0 - 1 < 0 by decide)]
    by_cases h : a = 0
    · rw [if_pos h, if_pos h]
      exact ⟨_, μ, n, ρ, rfl, rfl, dQ_r _ _, rK_r _⟩
    · rw [if_neg h, if_neg h]
      exact ⟨_, μ, n, ρ, rfl, rfl, dQ_r _ _, rK_r _⟩
  | succ d ih =>
    intro cnt fuel fuel2 lst μ n ρ hd hg hq hr
    obtain ⟨b, μ1, n1, ρ1, x1, x2, x3, x4⟩ := x_seen (gss_1 (np := np) (f := f) (t := t) (cl := cl) (c := d) (a3 := 0) (a4 := 0) hg.2.2.2.2.1 hg.2.2.2.2.2.2.1 (by omega)) h99 hg hq hr
    rw [show fuel + (d + 1) + 1 = fuel + d + 1 + 1 by omega, show fuel2 + (d + 1) + 1 = fuel2 + d + 1 + 1 by omega, b_X11_colds_19, b_X12_fitting_10, nI_s1]
    unfold k_X11_colds_19 k_X12_fitting_10
    have hn0 : ¬ nI d < 0 := nI_nlt (b := 0) (by omega) (by omega)
    rw [if_neg hn0, if_neg hn0, C_c0, x1, fm_bi_s, R_ck, x2, fm_bi_s]
    simp only [R_let, nI_d1, nI_1, Int32.add_zero]
    cases b with
    | false =>
      obtain ⟨r, μ', n', ρ', y1, y2, y3, y4⟩ := ih cnt fuel fuel2 lst μ1 n1 ρ1 (by omega) (gen_d x3 hg) (qz_d x3 hq) (x4.1.trans hr)
      exact ⟨r, μ', n', ρ', y1, y2, dQ_t x3 y3, rK_t x4 y4⟩
    | true =>
      obtain ⟨r, μ', n', ρ', y1, y2, y3, y4⟩ := ih (cnt + 1) fuel fuel2 (nI d) μ1 n1 ρ1 (by omega) (gen_d x3 hg) (qz_d x3 hq) (x4.1.trans hr)
      exact ⟨r, μ', n', ρ', y1, y2, dQ_t x3 y3, rK_t x4 y4⟩
end X
section X
variable {Kd : Nat → Nat} {μ : Nat → Nat → Int32} {n : Nat → Nat → Option Nat} {ρ : Nat → Nat → Int32}
theorem Rep_qz (hR : Rep Kd μ n ρ) {np : Nat} (h : ρ 1 21 = nI np) (h6 : np ≤ 6) : ∃ k, qz μ n (ρ 1) np k := by
  obtain ⟨np2, nt, ⟨h1, _, h3, _, _, w6, h7⟩, _, ⟨_, ⟨k, t1, t2, t3, t4⟩, _, _⟩, ⟨_, m0, _⟩, _⟩ := hR
  have := np_eq (w6.symm.trans h) h7 h6
  subst this
  obtain ⟨⟨_, _, _, _, _, _, n11, _⟩, _, _, hw, _⟩ := h1
  exact ⟨k, t1, t2, t3, m0, (hw 1 (by omega)).1, n11, t4⟩
theorem x_colds (hR : Rep Kd μ n ρ) (a : Int32) : ∃ r μ' n' ρ', m_X11_colds (kC Kd) lC 0 a (μ, n) = some (r, (μ', n')) ∧ m_X12_colds kR lR 0 a (ρ, nR) = some (r, (ρ', nR)) ∧ Rep Kd μ' n' ρ' := by
  obtain ⟨np, i, cl, f, t, hg, h99⟩ := Rep_gen hR
  obtain ⟨k, hq⟩ := Rep_qz hR hg.2.2.2.2.2.1 hg.2.2.2.2.2.2.1
  obtain ⟨r, μ', n', ρ', x1, x2, x3, x4⟩ := x_coldsl (Kd := Kd) (a := a) h99 21 0 978 978 (-5) μ n ρ (by omega) hg hq rfl
  unfold m_X11_colds m_X12_colds m_X12_fitting
  simp only [R_let, R_ck, k_isWithin, r_in0, fm_b1_s, b2i_if]
  by_cases hd1' : ¬ (decide (0 ≤ a) && decide (a ≤ 1)) = true
  · rw [if_neg hd1', if_neg hd1']
    exact ⟨_, _, _, _, rfl, rfl, hR⟩
  have hd1 := Decidable.of_not_not hd1'
  rw [if_pos hd1, if_pos hd1]
  refine ⟨r, μ', n', ρ', x1, ?_, Rep_k (kQ_d x3) x4 hR⟩
  have x2' : b_X12_fitting_10 kR lR fm_LF 0 1 a 0 (-5) 20 (ρ, nR) = some (r, (ρ', nR)) := x2
  rw [x2', fm_bi_s]
end X
