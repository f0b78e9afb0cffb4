/-! methods, both sides: breaths -/
theorem pow_le : ∀ b, b ≤ 7 → ∀ n, n ≤ 3 → b ^ n ≤ 343 := by decide
section X
variable {Kd : Nat → Nat} {μ : Nat → Nat → Int32} {n : Nat → Nat → Option Nat} {ρ : Nat → Nat → Int32}
theorem x_breathsM (hR : Rep Kd μ n ρ) {N0 : Nat} (h1 : 1 ≤ N0) (h3 : N0 ≤ 3) (b : Int32) (hb : b = -1 ∨ ∃ k, k < 3 ∧ b = nI k) : ∃ R : Int32 × Nat, (∃ np, ρ 1 21 = nI np ∧ np ≤ 6 ∧ R.2 < 2 ^ 31 ∧ (∃ μ' n', (b < nI N0 → fm_b1 (m_X11_fillPays (kC Kd) lC 0 (nI N0) (μ, n)) (fun S35 => fm_b1 (m_X11_rowsOfBreaths (kC Kd) lC 0 (nI N0) S35) fun x45 => b_X11_breaths_53 (kC Kd) lC fm_LF 0 (nI N0) b 0 (-1) x45 0 S35) = some (if 0 ≤ b then nI (mp np (dg (np + 1) N0 R.2 (N b))) else R.1, (μ', n'))) ∧ Rep Kd μ' n' ρ) ∧ ∃ ρ', b_X12_breaths_25 kR lR fm_LF 0 (nI N0) b 0 (ρ, nR) = some (if b = -1 then R.1 else if nI N0 ≤ b then -5 else nI (mp np (dg (np + 1) N0 R.2 (N b))), (ρ', nR)) ∧ rK ρ ρ') := by
  obtain ⟨np, i, cl, f, t, hg, h99⟩ := Rep_gen hR
  have hg0 := hg
  obtain ⟨g1, g2, g3, g4, g5, g6, g7, g8, g9, g10⟩ := hg
  have hpow := pow_le (np + 1) (by omega) N0 h3
  have hpos : 0 < (np + 1) ^ N0 := Nat.pow_pos (by omega)
  have hle := bsR_le (vR (ρ 1) cl f t np N0) ((np + 1) ^ N0)
  refine ⟨bsR (vR (ρ 1) cl f t np N0) ((np + 1) ^ N0), np, g6, g7, by omega, ?_, ?_⟩
  · obtain ⟨μ', n', a1, a2, a3, a4⟩ := k_fillPays h99 h3 hg0
    refine ⟨μ', n', fun hlt => ?_, Rep_k (fQ_k a3) (rK_r ρ) hR⟩
    have hA : μ' 0 2 = nI np := a2.2.2.1.1.trans g6
    have h16 : n' 0 16 = some 4 := a2.1.1.2.2.2.2.2.2.2.2.2.2.2
    rw [a1, fm_b1_s, k_rows hA h3, fm_b1_s]
    have hl := k_rowl (Kd := Kd) (nn := n') hA h16 g7 h3 a4 (R := (np + 1) ^ N0) (by omega) (a2 := b) ((np + 1) ^ N0) 0 (999 - (np + 1) ^ N0) (by omega)
    rw [show 999 - (np + 1) ^ N0 + (np + 1) ^ N0 + 1 = fm_LF by unfold fm_LF; omega] at hl
    refine Eq.trans hl ?_
    unfold k_X11_breaths_53
    rw [if_pos (Int32.le_refl _)]
    rcases hb with hb | ⟨k, hk, hb⟩
    · subst hb
      rw [if_neg (by decide), if_neg (by decide)]
    · subst hb
      have hkn : k < N0 := (nI_ltI (by omega) (by omega)).1 hlt
      have h0k : (0 : Int32) ≤ nI k := nI_le (a := 0) (by omega) (by omega)
      have hdl := dg_lt (b := np + 1) N0 (bsR (vR (ρ 1) cl f t np N0) ((np + 1) ^ N0)).2 k (by omega)
      rw [if_pos h0k, if_pos h0k, C_c0, k_breathedAt hA g7 h3 hkn (by omega), fm_b1_s, C_g0, hA, N_nI (by omega)]
      unfold mp
      by_cases hd : dg (np + 1) N0 (bsR (vR (ρ 1) cl f t np N0) ((np + 1) ^ N0)).2 k = np
      · rw [if_pos (show nI np ≤ _ by rw [hd]; exact Int32.le_refl _), if_pos hd]
        rfl
      · rw [if_neg (nI_ge (show _ < np by omega) (by omega)), if_neg hd]
  · obtain ⟨ρ1, G, b1, b2, b3, b4⟩ := r_brl (s := ρ 1) (cl := cl) (f := f) (t := t) g5 g8 h99 g6 g7 (a1 := nI N0) (a2 := b) np 0 (999 - np) ρ (by omega) rfl (fun p' hp' => absurd hp' (by omega))
    rw [show 999 - np + np + 1 = fm_LF by unfold fm_LF; omega] at b1
    have hf := g9.2.2.2.2.2.1
    have ht := g9.2.2.2.2.2.2
    obtain ⟨ρ2, c1, c2, c3, c4⟩ := r_lines (s := ρ 1) (cl := cl) (f := f) (t := t) (np := np) (n := N0) g7 h3 hf ht g6 N0 (59 - N0) 0 0 (wm ρ1 0 15 (-1)) (by omega) ((wm_r (by omega)).trans b2) (fun p hp y hy z hz => by rw [wm_r (by omega)]; exact b4 p hp y hy z hz) (fun i hi => absurd hi (by omega)) ⟨by rw [Nat.zero_mul, wm_s]; rfl, fun h => absurd h (by rw [Nat.zero_mul]; omega)⟩
    rw [Nat.zero_add, Nat.one_mul] at c2
    have c1' : m_X12_linesFrom fm_RF kR lR 0 0 (nI N0) (wm ρ1 0 15 (-1), nR) = some (ρ2, nR) := by
      show grp_ln kR lR 60 0 0 (nI N0) (wm ρ1 0 15 (-1), nR) = _
      rw [show 60 = 59 - N0 + N0 + 1 by omega]
      exact c1
    have hk : rK ρ ρ2 := ⟨by rw [c3.1 1 (by omega) (by omega) (by omega), wm_r (by omega), b2], by rw [c3.1 2 (by omega) (by omega) (by omega), wm_r (by omega), b3 2 (by omega) (by omega) (by omega) (by omega) (by omega)], by rw [c3.1 9 (by omega) (by omega) (by omega), wm_r (by omega), b3 9 (by omega) (by omega) (by omega) (by omega) (by omega)], by rw [c3.2 4 (by omega), wm_k (by omega), b3 0 (by omega) (by omega) (by omega) (by omega) (by omega)], by rw [c3.2 17 (by omega), wm_k (by omega), b3 0 (by omega) (by omega) (by omega) (by omega) (by omega)]⟩
    refine ⟨ρ2, ?_, hk⟩
    refine Eq.trans b1 ?_
    unfold k_X12_breaths_25
    rw [R_g1, R_s21, b2, g6, if_pos (Int32.le_refl _), R_pi, R_ck, c1', fm_b1_s]
    rcases hb with hb | ⟨k, hk, hb⟩
    · subst hb
      rw [if_pos rfl, if_pos rfl, R_gi, c2.1]
    · subst hb
      have hne : ¬ nI k = -1 := nI_m1 k (by omega)
      rw [if_neg hne, if_neg hne]
      by_cases hkn : k < N0
      · rw [if_neg (nI_ge hkn (by omega)), if_neg (nI_ge hkn (by omega)), R_g14, R_ld (r := 8) (t := 13) rfl (show k < 3 by omega) (by decide), c2.2 hpos k hkn, N_nI (by omega)]
      · rw [if_pos (nI_le (by omega) (by omega)), if_pos (nI_le (by omega) (by omega))]
theorem x_breaths (hR : Rep Kd μ n ρ) (a b : Int32) : ∃ r μ' n' ρ', m_X11_breaths (kC Kd) lC 0 a b (μ, n) = some (r, (μ', n')) ∧ m_X12_breaths kR lR 0 a b (ρ, nR) = some (r, (ρ', nR)) ∧ Rep Kd μ' n' ρ' := by
  unfold m_X11_breaths m_X12_breaths
  simp only [r_in, fm_b1_s, b2i_if, R_let, R_ck, C_c0]
  by_cases hb0 : b < -1
  · rw [if_pos hb0, decide_eq_false (show ¬ (-1 : Int32) ≤ b from Int32.not_le.2 hb0)]
    exact ⟨_, μ, n, ρ, rfl, rfl, hR⟩
  rw [if_neg hb0, decide_eq_true (show (-1 : Int32) ≤ b from Int32.not_lt.1 hb0)]
  by_cases hb3 : b < 3
  · have hb2 : b ≤ 2 := Int32.le_iff_toInt_le.2 (by have := Int32.lt_iff_toInt_lt.1 hb3; exact Int.lt_add_one_iff.1 this)
    rw [if_pos hb3, decide_eq_true hb2, if_pos (show (true && true) = true from rfl)]
    have hbb : b = -1 ∨ ∃ k, k < 3 ∧ b = nI k := by
      by_cases h : 0 ≤ b
      · rcases in_c b (m := 2) (by omega) with hc | ⟨j, h1, h2, _⟩
        · rw [decide_eq_true h, decide_eq_true (show b ≤ nI 2 from hb2)] at hc
          cases hc
        · exact Or.inr ⟨j, by omega, h2⟩
      · left
        have h1 := Int32.le_iff_toInt_le.1 (Int32.not_lt.1 hb0)
        have h2 := Int32.lt_iff_toInt_lt.1 (Int32.not_le.1 h)
        refine Int32.toInt_inj.1 ?_
        have e1 : (-1 : Int32).toInt = -1 := by decide
        have e0 : (0 : Int32).toInt = 0 := by decide
        rw [e1] at h1
        rw [e0] at h2
        rw [e1]
        omega
    by_cases ha1 : a < 1
    · rw [if_pos ha1, decide_eq_false (show ¬ (1 : Int32) ≤ a from Int32.not_le.2 ha1)]
      exact ⟨_, μ, n, ρ, rfl, rfl, hR⟩
    · have ha0 : (0 : Int32) ≤ a := Int32.le_trans (show (0 : Int32) ≤ 1 by decide) (Int32.not_lt.1 ha1)
      rw [if_neg ha1, decide_eq_true (show (1 : Int32) ≤ a from Int32.not_lt.1 ha1)]
      rcases in_c a (m := 3) (by omega) with hc | ⟨N0, hN, rfl, hc⟩
      · rw [decide_eq_true ha0] at hc
        have h3 : ¬ a ≤ 3 := fun h => by
          rw [decide_eq_true (show a ≤ nI 3 from h)] at hc
          cases hc
        rw [if_neg h3, decide_eq_false h3]
        exact ⟨_, μ, n, ρ, rfl, rfl, hR⟩
      · have h3 : nI N0 ≤ (3 : Int32) := nI_le (b := 3) hN (by omega)
        have hN1 : 1 ≤ N0 := by
          by_cases h0 : N0 = 0
          · subst h0
            exact absurd (show nI 0 < 1 by decide) ha1
          · omega
        rw [if_pos h3, decide_eq_true h3, if_pos (show (true && true) = true from rfl)]
        obtain ⟨⟨M, B⟩, np, p1, p2, p3, ⟨μ', n', p4, p5⟩, ρ', p6, p7⟩ := x_breathsM hR hN1 hN b hbb
        by_cases hlt : b < nI N0
        · rw [if_pos hlt]
          refine ⟨_, μ', n', ρ', p4 hlt, ?_, Rep_k ⟨fun _ _ _ _ _ => rfl, fun _ _ _ _ => rfl⟩ p7 p5⟩
          rw [p6]
          rcases hbb with hb | ⟨k, hk, hb⟩
          · subst hb
            rw [if_pos rfl, if_neg (by decide)]
          · subst hb
            rw [if_neg (nI_m1 k (by omega)), if_neg (Int32.not_le.2 hlt), if_pos (show (0 : Int32) ≤ nI k from nI_le (a := 0) (by omega) (by omega))]
        · rw [if_neg hlt]
          refine ⟨-5, μ, n, ρ', rfl, ?_, Rep_k ⟨fun _ _ _ _ _ => rfl, fun _ _ _ _ => rfl⟩ p7 hR⟩
          rw [p6]
          rcases hbb with hb | ⟨k, hk, hb⟩
          · subst hb
            exact absurd (show (-1 : Int32) < nI N0 by
              have : ∀ N0, N0 ≤ 3 → (-1 : Int32) < nI N0 := by decide
              exact this N0 hN) hlt
          · subst hb
            rw [if_neg (nI_m1 k (by omega)), if_pos (Int32.not_lt.1 hlt)]
  · have hb2 : ¬ b ≤ 2 := fun h => hb3 (Int32.lt_of_le_of_lt h (by decide))
    rw [if_neg hb3, decide_eq_false hb2]
    exact ⟨_, μ, n, ρ, rfl, rfl, hR⟩
end X
