/-! methods, both sides: plan -/
section X
variable {Kd : Nat → Nat} {μ : Nat → Nat → Int32} {n : Nat → Nat → Option Nat} {ρ : Nat → Nat → Int32}
theorem Rep_plan (hR : Rep Kd μ n ρ) {μ' ρ' : Nat → Nat → Int32} (hμ : ∀ r, r ≠ 16 → r ≠ 17 → μ' r = μ r) (h04 : ∀ k, k ≠ 3 → μ' 16 k = μ 16 k) (hs : ∀ j, j ≠ 24 → (j < 79 ∨ 95 ≤ j) → ρ' 1 j = ρ 1 j) (hr : ρ' 2 = ρ 2 ∧ ρ' 9 = ρ 9 ∧ ρ' 0 4 = ρ 0 4 ∧ ρ' 0 17 = ρ 0 17) (hq : ∀ np, ρ 1 21 = nI np → np ≤ 6 → qPlan (μ' 16 3) (μ' 17) (ρ' 1) np) : Rep Kd μ' n ρ' := by
  have hR0 := hR
  obtain ⟨np2, nt2, ⟨_, _, _, _, _, w6, w7⟩, _, ⟨q1, q2, q3, q4⟩, _⟩ := hR0
  refine Rep_row hR (fun r _ _ _ _ a b _ _ => hμ r a b) (fun r hr x hx => ?_) (fun j hj => hs j (by omega) (by omega)) hr (fun np' h21 h6 => ?_)
  · by_cases h19 : r = 16
    · subst h19
      exact h04 x hx
    · rw [hμ r h19 (by omega)]
  · have hnp := np_eq (w6.symm.trans h21) w7 h6
    subst hnp
    refine ⟨?_, ?_, hq _ h21 h6, ?_⟩
    · rw [hμ 10 (by omega) (by omega), hμ 11 (by omega) (by omega)]
      obtain ⟨k2, a1, a2, a3, a4⟩ := q1
      refine ⟨k2, a1, by rw [hs 26 (by omega) (by omega)]; exact a2, a3, fun x hx => ?_⟩
      rw [hs (111 + x) (by omega) (by omega)]
      exact a4 x hx
    · rw [hμ 13 (by omega) (by omega), hμ 14 (by omega) (by omega)]
      obtain ⟨k2, a1, a2, a3, a4⟩ := q2
      refine ⟨k2, a1, by rw [hs 23 (by omega) (by omega)]; exact a2, a3, fun x hx => ?_⟩
      rw [hs (64 + x) (by omega) (by omega), hs (69 + x) (by omega) (by omega), hs (74 + x) (by omega) (by omega)]
      exact a4 x hx
    · rw [hμ 19 (by omega) (by omega), hμ 20 (by omega) (by omega)]
      obtain ⟨k2, a1, a2, a3, a4⟩ := q4
      refine ⟨k2, a1, by rw [hs 25 (by omega) (by omega)]; exact a2, a3, fun x hx => ?_⟩
      rw [hs (95 + x) (by omega) (by omega), hs (103 + x) (by omega) (by omega)]
      exact a4 x hx
theorem x_plan (hR : Rep Kd μ n ρ) (a b : Int32) : ∃ r μ' ρ', m_X11_plan (kC Kd) lC 0 a b (μ, n) = some (r, (μ', n)) ∧ m_X12_plan kR lR 0 a b (ρ, nR) = some (r, (ρ', nR)) ∧ Rep Kd μ' n ρ' := by
  have hR0 := hR
  obtain ⟨np, nt, ⟨h1, _, h3, _, _, h6, h7⟩, _, ⟨_, _, ⟨k, t1, t2, t3, t4⟩, _⟩, ⟨_, _, m0, _⟩, _⟩ := hR
  obtain ⟨⟨_, _, _, _, _, _, _, n12, _⟩, _, _, hw, _⟩ := h1
  have hw0 : n 16 1 = some 17 := (hw 2 (by omega)).1
  have zf : m_X8_isFull (kC Kd) lC 16 (μ, n) = some (b2i (decide (8 ≤ k))) := w_full (i := 2) (by omega) t3 m0 (by omega)
  have zc : m_X8_clear (kC Kd) lC 16 (μ, n) = some (0, (wm μ 16 3 0, n)) := w_clear (i := 2) (by omega)
  have c16 : ∀ {α : Type} (F : Option α), fm_ck (kC Kd 16 == 8) F = F := fun F => C_ck rfl F
  have h8 : (nI k = 8 ↔ k = 8) := nI_eq (b := 8) (by omega) (by omega)
  unfold m_X11_plan m_X12_plan
  by_cases ha : a = -1
  · rw [if_pos ha, if_pos ha, C_r0 n12, c16, zc, fm_bi_s]
    simp only [R_g1, R_w24]
    refine ⟨_, _, _, rfl, rfl, Rep_plan hR0 (fun r a b => wm_r a) (fun k hk => wm_k hk) (fun j a b => wm_k a) ⟨wm_r (by omega), wm_r (by omega), by rw [wm_r (by omega)], by rw [wm_r (by omega)]⟩ (fun np' _ _ => ⟨0, by omega, wm_s _ _ _ _, wm_s _ _ _ _, fun x hx => absurd hx (by omega)⟩)⟩
  rw [if_neg ha, if_neg ha]
  simp only [C_c0, R_ck, k_isWithin, r_in0, x_pC h3 h6, x_pR h6, fm_b1_s, b2i_if]
  rw [show (3 : Int32) = nI 3 from rfl]
  rcases in_c a (m := 3) (by omega) with hc | ⟨w, hw3, rfl, hc⟩
  · rw [hc]
    exact ⟨_, _, _, rfl, rfl, hR0⟩
  rw [hc, if_pos rfl, if_pos rfl]
  -- the rest, where the row may come
  have tail : (nI w ≠ 0 → ∃ j, j < np ∧ b = nI j) → ∃ r μ' ρ', (fm_gr (kC Kd) 11 0 12 (μ, n) fun q36 => fm_ck (kC Kd q36 == 8) (fm_b1 (m_X8_isFull (kC Kd) lC q36 (μ, n)) fun x39 => if x39 = 0 then fm_gr (kC Kd) 11 0 12 (μ, n) fun q51 => fm_ck (kC Kd q51 == 8) (fm_bi (m_X8_add (kC Kd) lC q51 (nI w) b 0 (μ, n)) fun x57 S57 => some (x57, S57)) else some ((-4), (μ, n)))) = some (r, (μ', n)) ∧ (if ρ 1 24 = 8 then some ((-4), (ρ, nR)) else some (nI (k + 1), (wm (wm (wm ρ 1 (79 + k) (nI w)) 1 (87 + k) b) 1 24 (nI (k + 1)), nR))) = some (r, (ρ', nR)) ∧ Rep Kd μ' n ρ' := by
    intro hb
    rw [C_r0 n12, c16, zf, fm_b1_s, b2i_if, t2]
    by_cases hk : k = 8
    · rw [if_pos (h8.2 hk), decide_eq_true (by omega), if_pos rfl]
      exact ⟨_, _, _, rfl, rfl, hR0⟩
    · have za : m_X8_add (kC Kd) lC 16 (nI w) b 0 (μ, n) = some (nI (k + 1), (wm (wm (wm (wm μ 17 (3 * k) (nI w)) 17 (3 * k + 1) b) 17 (3 * k + 2) 0) 16 3 (nI (k + 1)), n)) := w_add (i := 2) (by omega) (nI w) b 0 t3 m0 hw0 (show k < 8 by omega)
      rw [if_neg (fun a => hk (h8.1 a)), decide_eq_false (by omega), if_neg (by decide), C_r0 n12, c16, za, fm_bi_s]
      refine ⟨_, _, _, rfl, rfl, Rep_plan hR0 (fun r a b => ?_) (fun x hx => ?_) (fun i i25 hi => ?_) ⟨?_, ?_, ?_, ?_⟩ (fun np' h21 h6' => ⟨k + 1, by omega, wm_s _ _ _ _, wm_s _ _ _ _, fun x hx => ?_⟩)⟩
      · rw [wm_r a, wm_r b, wm_r b, wm_r b]
      · rw [wm_k hx, wm_r (by omega), wm_r (by omega), wm_r (by omega)]
      · rw [wm_k i25, wm_k (by omega), wm_k (by omega)]
      · rw [wm_r (by omega), wm_r (by omega), wm_r (by omega)]
      · rw [wm_r (by omega), wm_r (by omega), wm_r (by omega)]
      · rw [wm_r (by omega), wm_r (by omega), wm_r (by omega)]
      · rw [wm_r (by omega), wm_r (by omega), wm_r (by omega)]
      · have hnp := np_eq (h6.symm.trans h21) h7 h6'
        subst hnp
        rw [wm_r (show (17 : Nat) ≠ 16 by omega)]
        by_cases hxk : x = k
        · subst hxk
          rw [wm_k (show 3 * x ≠ 3 * x + 2 by omega), wm_k (show 3 * x ≠ 3 * x + 1 by omega), wm_s, wm_k (show 3 * x + 1 ≠ 3 * x + 2 by omega), wm_s, wm_k (show 79 + x ≠ 24 by omega), wm_k (show 79 + x ≠ 87 + x by omega), wm_s, wm_k (show 87 + x ≠ 24 by omega), wm_s]
          exact ⟨⟨rfl, rfl⟩, nn_mk hw3, hb⟩
        · rw [wm_k (show 3 * x ≠ 3 * k + 2 by omega), wm_k (show 3 * x ≠ 3 * k + 1 by omega), wm_k (show 3 * x ≠ 3 * k by omega), wm_k (show 3 * x + 1 ≠ 3 * k + 2 by omega), wm_k (show 3 * x + 1 ≠ 3 * k + 1 by omega), wm_k (show 3 * x + 1 ≠ 3 * k by omega), wm_k (show 79 + x ≠ 24 by omega), wm_k (show 79 + x ≠ 87 + k by omega), wm_k (show 79 + x ≠ 79 + k by omega), wm_k (show 87 + x ≠ 24 by omega), wm_k (show 87 + x ≠ 87 + k by omega), wm_k (show 87 + x ≠ 79 + k by omega)]
          exact t4 x (by omega)
  have href : ∀ (K : Option (Int32 × fm_M)), K = (fm_gr kR 12 0 1 (ρ, nR) fun q39 => fm_ld kR lR 13 q39 24 (ρ, nR) fun x44 => if x44 = 8 then some ((-4), (ρ, nR)) else fm_gr kR 12 0 1 (ρ, nR) fun q54 => fm_gr kR 12 0 1 (ρ, nR) fun q60 => fm_ld kR lR 13 q60 24 (ρ, nR) fun x65 => fm_st kR lR q54 (79 + x65) (nI w) (ρ, nR) fun S68 => fm_gr kR 12 0 1 S68 fun q70 => fm_gr kR 12 0 1 S68 fun q76 => fm_ld kR lR 13 q76 24 S68 fun x81 => fm_st kR lR q70 (87 + x81) b S68 fun S84 => fm_gr kR 12 0 1 S84 fun q86 => fm_ld kR lR 13 q86 24 S84 fun x92 => fm_st kR lR q86 24 (x92 + 1) S84 fun S95 => fm_gr kR 12 0 1 S95 fun q97 => fm_ld kR lR 13 q97 24 S95 fun x102 => some (x102, S95)) → K = (if ρ 1 24 = 8 then some ((-4), (ρ, nR)) else some (nI (k + 1), (wm (wm (wm ρ 1 (79 + k) (nI w)) 1 (87 + k) b) 1 24 (nI (k + 1)), nR))) := by
    intro K hK
    rw [hK]
    simp only [R_g1, R_s24]
    by_cases hk : ρ 1 24 = 8
    · rw [if_pos hk, if_pos hk]
    · rw [if_neg hk, if_neg hk, t2]
      simp (disch := omega) only [R_g1, L_79, R_ws, R_s24, R_w24]
      rw [wm_k (show (24 : Nat) ≠ 79 + k by omega), t2]
      simp (disch := omega) only [R_g1, L_87, R_ws, R_s24, R_w24]
      rw [wm_k (show (24 : Nat) ≠ 87 + k by omega), wm_k (show (24 : Nat) ≠ 79 + k by omega), t2, nI_1, wm_s]
  have hz : (nI w = 0 ↔ w = 0) := nI_eq (b := 0) (by omega) (by omega)
  have hz2 : (nI w ≤ 0 ↔ w ≤ 0) := nI_leI (b := 0) (by omega) (by omega)
  by_cases hw0 : w = 0
  · rw [if_pos (hz.2 hw0), if_pos (hz2.2 (by omega)), href _ rfl]
    exact tail (fun h => absurd (hz.2 hw0) h)
  · rw [if_neg (show ¬ nI w = 0 from fun a => hw0 (hz.1 a)), if_neg (show ¬ nI w ≤ 0 from fun a => hw0 (by have := hz2.1 a; omega))]
    rcases pane_c b h7 with hc | ⟨j, hj, rfl, hc⟩
    · rw [hc]
      exact ⟨_, _, _, rfl, rfl, hR0⟩
    · rw [hc, if_pos rfl, if_pos rfl, href _ rfl]
      exact tail (fun _ => ⟨j, hj, rfl⟩)
end X
