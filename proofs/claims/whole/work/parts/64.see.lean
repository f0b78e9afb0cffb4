/-! methods, both sides: see -/
section X
variable {Kd : Nat → Nat} {μ : Nat → Nat → Int32} {n : Nat → Nat → Option Nat} {ρ : Nat → Nat → Int32}
theorem Rep_see (hR : Rep Kd μ n ρ) {μ' ρ' : Nat → Nat → Int32} (hμ : ∀ r, r ≠ 13 → r ≠ 14 → μ' r = μ r) (h04 : ∀ k, k ≠ 3 → μ' 13 k = μ 13 k) (hs : ∀ j, j ≠ 23 → (j < 64 ∨ 79 ≤ j) → ρ' 1 j = ρ 1 j) (hr : ρ' 2 = ρ 2 ∧ ρ' 9 = ρ 9 ∧ ρ' 0 4 = ρ 0 4 ∧ ρ' 0 17 = ρ 0 17) (hq : ∀ np, ρ 1 21 = nI np → np ≤ 6 → qSeen (μ' 13 3) (μ' 14) (ρ' 1) np) : Rep Kd μ' n ρ' := by
  have hR0 := hR
  obtain ⟨np2, nt2, ⟨_, _, _, _, _, w6, w7⟩, _, ⟨q1, q2, q3, q4⟩, _⟩ := hR0
  refine Rep_row hR (fun r _ _ a b _ _ _ _ => hμ r a b) (fun r hr x hx => ?_) (fun j hj => hs j (by omega) (by omega)) hr (fun np' h21 h6 => ?_)
  · by_cases h19 : r = 13
    · subst h19
      exact h04 x hx
    · rw [hμ r h19 (by omega)]
  · have hnp := np_eq (w6.symm.trans h21) w7 h6
    subst hnp
    refine ⟨?_, hq _ h21 h6, ?_, ?_⟩
    · rw [hμ 10 (by omega) (by omega), hμ 11 (by omega) (by omega)]
      obtain ⟨k2, a1, a2, a3, a4⟩ := q1
      refine ⟨k2, a1, by rw [hs 26 (by omega) (by omega)]; exact a2, a3, fun x hx => ?_⟩
      rw [hs (111 + x) (by omega) (by omega)]
      exact a4 x hx
    · rw [hμ 16 (by omega) (by omega), hμ 17 (by omega) (by omega)]
      obtain ⟨k2, a1, a2, a3, a4⟩ := q3
      refine ⟨k2, a1, by rw [hs 24 (by omega) (by omega)]; exact a2, a3, fun x hx => ?_⟩
      rw [hs (79 + x) (by omega) (by omega), hs (87 + x) (by omega) (by omega)]
      exact a4 x hx
    · rw [hμ 19 (by omega) (by omega), hμ 20 (by omega) (by omega)]
      obtain ⟨k2, a1, a2, a3, a4⟩ := q4
      refine ⟨k2, a1, by rw [hs 25 (by omega) (by omega)]; exact a2, a3, fun x hx => ?_⟩
      rw [hs (95 + x) (by omega) (by omega), hs (103 + x) (by omega) (by omega)]
      exact a4 x hx
theorem x_see (hR : Rep Kd μ n ρ) (a b d : Int32) : ∃ r μ' ρ', m_X11_see (kC Kd) lC 0 a b d (μ, n) = some (r, (μ', n)) ∧ m_X12_see kR lR 0 a b d (ρ, nR) = some (r, (ρ', nR)) ∧ Rep Kd μ' n ρ' := by
  have hR0 := hR
  obtain ⟨np, nt, ⟨h1, _, h3, _, _, h6, h7⟩, _, ⟨_, ⟨k, t1, t2, t3, t4⟩, _, _⟩, ⟨_, m0, _⟩, _⟩ := hR
  obtain ⟨⟨_, _, _, _, _, _, n11, _⟩, _, _, hw, _⟩ := h1
  have hw0 : n 13 1 = some 14 := (hw 1 (by omega)).1
  have zf : m_X8_isFull (kC Kd) lC 13 (μ, n) = some (b2i (decide (5 ≤ k))) := w_full (i := 1) (by omega) t3 m0 (by omega)
  have zc : m_X8_clear (kC Kd) lC 13 (μ, n) = some (0, (wm μ 13 3 0, n)) := w_clear (i := 1) (by omega)
  have c13 : ∀ {α : Type} (F : Option α), fm_ck (kC Kd 13 == 8) F = F := fun F => C_ck rfl F
  unfold m_X11_see m_X12_see m_X12_isIce
  by_cases ha : a = -1
  · rw [if_pos ha, if_pos ha, C_r0 n11, c13, zc, fm_bi_s]
    simp only [R_g1, R_w23]
    refine ⟨_, _, _, rfl, rfl, Rep_see hR0 (fun r a b => wm_r a) (fun k hk => wm_k hk) (fun j a b => wm_k a) ⟨wm_r (by omega), wm_r (by omega), by rw [wm_r (by omega)], by rw [wm_r (by omega)]⟩ (fun np' _ _ => ⟨0, by omega, wm_s _ _ _ _, wm_s _ _ _ _, fun x hx => absurd hx (by omega)⟩)⟩
  rw [if_neg ha, if_neg ha]
  simp only [C_c0, R_ck, k_isWithin, r_in0, x_pC h3 h6, x_pR h6, fm_b1_s, b2i_if]
  rcases pane_c a h7 with hc | ⟨j, hj, rfl, hc⟩
  · rw [hc]
    exact ⟨_, _, _, rfl, rfl, hR0⟩
  rw [hc, if_pos rfl, if_pos rfl, show (20 : Int32) = nI 20 from rfl, show (4095 : Int32) = nI 4095 from rfl]
  rcases in_c b (m := 20) (by omega) with hc | ⟨z, hz, rfl, hc⟩
  · rw [hc]
    exact ⟨_, _, _, rfl, rfl, hR0⟩
  rw [hc, if_pos rfl, if_pos rfl]
  rcases in_c d (m := 4095) (by omega) with hc | ⟨y, hy, rfl, hc⟩
  · rw [hc, show b2i false = 0 from rfl, fm_z0, fm_b1_s, if_pos rfl]
    exact ⟨_, _, _, rfl, rfl, hR0⟩
  rw [hc, if_pos rfl, show b2i true = 1 from rfl, fm_z1, fm_b1_s, if_neg (show ¬ (1 : Int32) = 0 by decide), C_r0 n11, c13, zf, fm_b1_s, b2i_if]
  simp only [R_g1, R_s23]
  have h5 : (nI k = 5 ↔ k = 5) := nI_eq (b := 5) (by omega) (by omega)
  rw [t2]
  by_cases hk : k = 5
  · rw [if_pos (h5.2 hk), decide_eq_true (by omega), if_pos rfl]
    exact ⟨_, _, _, rfl, rfl, hR0⟩
  · have za : m_X8_add (kC Kd) lC 13 (nI j) (nI z) (nI y) (μ, n) = some (nI (k + 1), (wm (wm (wm (wm μ 14 (3 * k) (nI j)) 14 (3 * k + 1) (nI z)) 14 (3 * k + 2) (nI y)) 13 3 (nI (k + 1)), n)) := w_add (i := 1) (by omega) (nI j) (nI z) (nI y) t3 m0 hw0 (show k < 5 by omega)
    rw [if_neg (fun a => hk (h5.1 a)), decide_eq_false (by omega), if_neg (by decide), C_r0 n11, c13, za, fm_bi_s]
    simp (disch := omega) only [R_g1, L_64, R_ws, R_s23, R_w23]
    rw [wm_k (show (23 : Nat) ≠ 64 + k by omega), t2]
    simp (disch := omega) only [R_g1, L_69, R_ws, R_s23, R_w23]
    rw [wm_k (show (23 : Nat) ≠ 69 + k by omega), wm_k (show (23 : Nat) ≠ 64 + k by omega), t2]
    simp (disch := omega) only [R_g1, L_74, R_ws, R_s23, R_w23]
    rw [wm_k (show (23 : Nat) ≠ 74 + k by omega), wm_k (show (23 : Nat) ≠ 69 + k by omega), wm_k (show (23 : Nat) ≠ 64 + k by omega), t2, nI_1, wm_s]
    refine ⟨_, _, _, rfl, rfl, Rep_see hR0 (fun r a b => ?_) (fun x hx => ?_) (fun i i25 hi => ?_) ⟨?_, ?_, ?_, ?_⟩ (fun np' h21 h6' => ⟨k + 1, by omega, wm_s _ _ _ _, wm_s _ _ _ _, fun x hx => ?_⟩)⟩
    · rw [wm_r a, wm_r b, wm_r b, wm_r b]
    · rw [wm_k hx, wm_r (by omega), wm_r (by omega), wm_r (by omega)]
    · rw [wm_k i25, wm_k (by omega), wm_k (by omega), wm_k (by omega)]
    · rw [wm_r (by omega), wm_r (by omega), wm_r (by omega), wm_r (by omega)]
    · rw [wm_r (by omega), wm_r (by omega), wm_r (by omega), wm_r (by omega)]
    · rw [wm_r (by omega), wm_r (by omega), wm_r (by omega), wm_r (by omega)]
    · rw [wm_r (by omega), wm_r (by omega), wm_r (by omega), wm_r (by omega)]
    · have hnp := np_eq (h6.symm.trans h21) h7 h6'
      subst hnp
      rw [wm_r (show (14 : Nat) ≠ 13 by omega)]
      by_cases hxk : x = k
      · subst hxk
        simp (disch := omega) only [wm_s, wm_k (r := 14), wm_k (r := 1)]
        exact ⟨⟨trivial, trivial, trivial⟩, ⟨j, hj, rfl⟩, nn_mk hz, nn_mk hy⟩
      · have w14 : ∀ i, (i = 3 * x ∨ i = 3 * x + 1 ∨ i = 3 * x + 2) → wm (wm (wm μ 14 (3 * k) (nI j)) 14 (3 * k + 1) (nI z)) 14 (3 * k + 2) (nI y) 14 i = μ 14 i := fun i hi => by rw [wm_k (by omega), wm_k (by omega), wm_k (by omega)]
        have w1 : ∀ i, (i = 64 + x ∨ i = 69 + x ∨ i = 74 + x) → wm (wm (wm (wm ρ 1 (64 + k) (nI j)) 1 (69 + k) (nI z)) 1 (74 + k) (nI y)) 1 23 (nI (k + 1)) 1 i = ρ 1 i := fun i hi => by rw [wm_k (by omega), wm_k (by omega), wm_k (by omega), wm_k (by omega)]
        rw [w14 _ (Or.inl rfl), w14 _ (Or.inr (Or.inl rfl)), w14 _ (Or.inr (Or.inr rfl)), w1 _ (Or.inl rfl), w1 _ (Or.inr (Or.inl rfl)), w1 _ (Or.inr (Or.inr rfl))]
        exact t4 x (by omega)
end X
