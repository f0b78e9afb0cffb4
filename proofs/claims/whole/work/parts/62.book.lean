/-! methods, both sides: book -/
section X
variable {Kd : Nat → Nat} {μ : Nat → Nat → Int32} {n : Nat → Nat → Option Nat} {ρ : Nat → Nat → Int32}
theorem Rep_book (hR : Rep Kd μ n ρ) {μ' ρ' : Nat → Nat → Int32} (hμ : ∀ r, r ≠ 19 → r ≠ 20 → μ' r = μ r) (h04 : ∀ k, k ≠ 3 → μ' 19 k = μ 19 k) (hs : ∀ j, j ≠ 25 → (j < 95 ∨ 111 ≤ j) → ρ' 1 j = ρ 1 j) (hr : ρ' 2 = ρ 2 ∧ ρ' 9 = ρ 9 ∧ ρ' 0 4 = ρ 0 4 ∧ ρ' 0 17 = ρ 0 17) (hq : ∀ np, ρ 1 21 = nI np → np ≤ 6 → qBook (μ' 19 3) (μ' 20) (ρ' 1) np) : Rep Kd μ' n ρ' := by
  have hR0 := hR
  obtain ⟨np2, nt2, ⟨_, _, _, _, _, w6, w7⟩, _, ⟨q1, q2, q3, q4⟩, _⟩ := hR0
  refine Rep_row hR (fun r _ _ _ _ _ _ a b => hμ r a b) (fun r hr x hx => ?_) (fun j hj => hs j (by omega) (by omega)) hr (fun np' h21 h6 => ?_)
  · by_cases h19 : r = 19
    · subst h19
      exact h04 x hx
    · rw [hμ r h19 (by omega)]
  · have hnp := np_eq (w6.symm.trans h21) w7 h6
    subst hnp
    refine ⟨?_, ?_, ?_, hq _ h21 h6⟩
    · rw [hμ 10 (by omega) (by omega), hμ 11 (by omega) (by omega)]
      obtain ⟨k2, a1, a2, a3, a4⟩ := q1
      refine ⟨k2, a1, by rw [hs 26 (by omega) (by omega)]; exact a2, a3, fun x hx => ?_⟩
      rw [hs (111 + x) (by omega) (by omega)]
      exact a4 x hx
    · rw [hμ 13 (by omega) (by omega), hμ 14 (by omega) (by omega)]
      obtain ⟨k2, a1, a2, a3, a4⟩ := q2
      refine ⟨k2, a1, by rw [hs 23 (by omega) (by omega)]; exact a2, a3, fun x hx => ?_⟩
      rw [hs (64 + x) (by omega) (by omega), hs (69 + x) (by omega) (by omega), hs (74 + x) (by omega) (by omega)]
      exact a4 x hx
    · rw [hμ 16 (by omega) (by omega), hμ 17 (by omega) (by omega)]
      obtain ⟨k2, a1, a2, a3, a4⟩ := q3
      refine ⟨k2, a1, by rw [hs 24 (by omega) (by omega)]; exact a2, a3, fun x hx => ?_⟩
      rw [hs (79 + x) (by omega) (by omega), hs (87 + x) (by omega) (by omega)]
      exact a4 x hx
theorem x_book (hR : Rep Kd μ n ρ) (a b : Int32) : ∃ r μ' ρ', m_X11_book (kC Kd) lC 0 a b (μ, n) = some (r, (μ', n)) ∧ m_X12_book kR lR 0 a b (ρ, nR) = some (r, (ρ', nR)) ∧ Rep Kd μ' n ρ' := by
  have hR0 := hR
  obtain ⟨np, nt, ⟨h1, _, h3, _, _, h6, h7⟩, _, ⟨_, _, _, ⟨k, t1, t2, t3, t4⟩⟩, ⟨_, _, _, m0, _⟩, _⟩ := hR
  obtain ⟨⟨_, _, _, _, _, _, _, _, n13, _⟩, _, _, hw, _⟩ := h1
  have hw0 : n 19 1 = some 20 := (hw 3 (by omega)).1
  have zf : m_X8_isFull (kC Kd) lC 19 (μ, n) = some (b2i (decide (8 ≤ k))) := w_full (i := 3) (by omega) t3 m0 (by omega)
  have zc : m_X8_clear (kC Kd) lC 19 (μ, n) = some (0, (wm μ 19 3 0, n)) := w_clear (i := 3) (by omega)
  have c19 : ∀ {α : Type} (F : Option α), fm_ck (kC Kd 19 == 8) F = F := fun F => C_ck rfl F
  unfold m_X11_book m_X12_book m_X12_isIce
  by_cases ha : a = -1
  · rw [if_pos ha, if_pos ha, C_r0 n13, c19, zc, fm_bi_s]
    simp only [R_g1, R_w25]
    refine ⟨_, _, _, rfl, rfl, Rep_book hR0 (fun r a b => wm_r a) (fun k hk => wm_k hk) (fun j a b => wm_k a) ⟨wm_r (by omega), wm_r (by omega), by rw [wm_r (by omega)], by rw [wm_r (by omega)]⟩ (fun np' _ _ => ⟨0, by omega, wm_s _ _ _ _, wm_s _ _ _ _, fun x hx => absurd hx (by omega)⟩)⟩
  rw [if_neg ha, if_neg ha]
  simp only [C_c0, R_ck, k_isWithin, r_in0, x_pC h3 h6, x_pR h6, fm_b1_s, b2i_if]
  rcases pane_c a h7 with hc | ⟨j, hj, rfl, hc⟩
  · rw [hc]
    exact ⟨_, _, _, rfl, rfl, hR0⟩
  rw [hc, if_pos rfl, if_pos rfl, show (4095 : Int32) = nI 4095 from rfl]
  rcases in_c b (m := 4095) (by omega) with hc | ⟨y, hy, rfl, hc⟩
  · rw [hc, show b2i false = 0 from rfl, fm_z0, fm_b1_s, if_pos rfl]
    exact ⟨_, _, _, rfl, rfl, hR0⟩
  rw [hc, if_pos rfl, show b2i true = 1 from rfl, fm_z1, fm_b1_s, if_neg (show ¬ (1 : Int32) = 0 by decide), C_r0 n13, c19, zf, fm_b1_s, b2i_if]
  simp only [R_g1, R_s25]
  have h8 : (nI k = 8 ↔ k = 8) := nI_eq (b := 8) (by omega) (by omega)
  rw [t2]
  by_cases hk : k = 8
  · rw [if_pos (h8.2 hk), decide_eq_true (by omega), if_pos rfl]
    exact ⟨_, _, _, rfl, rfl, hR0⟩
  · have za : m_X8_add (kC Kd) lC 19 (nI j) (nI y) 0 (μ, n) = some (nI (k + 1), (wm (wm (wm (wm μ 20 (3 * k) (nI j)) 20 (3 * k + 1) (nI y)) 20 (3 * k + 2) 0) 19 3 (nI (k + 1)), n)) := w_add (i := 3) (by omega) (nI j) (nI y) 0 t3 m0 hw0 (show k < 8 by omega)
    rw [if_neg (fun a => hk (h8.1 a)), decide_eq_false (by omega), if_neg (by decide), C_r0 n13, c19, za, fm_bi_s]
    simp (disch := omega) only [R_g1, L_95, R_ws, R_s25, R_w25]
    rw [wm_k (show (25 : Nat) ≠ 95 + k by omega), t2]
    simp (disch := omega) only [R_g1, L_103, R_ws, R_s25, R_w25]
    rw [wm_k (show (25 : Nat) ≠ 103 + k by omega), wm_k (show (25 : Nat) ≠ 95 + k by omega), t2, nI_1, wm_s]
    refine ⟨_, _, _, rfl, rfl, Rep_book hR0 (fun r a b => ?_) (fun x hx => ?_) (fun i i25 hi => ?_) ⟨?_, ?_, ?_, ?_⟩ (fun np' h21 h6' => ⟨k + 1, by omega, wm_s _ _ _ _, wm_s _ _ _ _, fun x hx => ?_⟩)⟩
    · rw [wm_r a, wm_r b, wm_r b, wm_r b]
    · rw [wm_k hx, wm_r (by omega), wm_r (by omega), wm_r (by omega)]
    · rw [wm_k i25, wm_k (by omega), wm_k (by omega)]
    · rw [wm_r (by omega), wm_r (by omega), wm_r (by omega)]
    · rw [wm_r (by omega), wm_r (by omega), wm_r (by omega)]
    · rw [wm_r (by omega), wm_r (by omega), wm_r (by omega)]
    · rw [wm_r (by omega), wm_r (by omega), wm_r (by omega)]
    · have hnp := np_eq (h6.symm.trans h21) h7 h6'
      subst hnp
      rw [wm_r (show (20 : Nat) ≠ 19 by omega)]
      by_cases hxk : x = k
      · subst hxk
        rw [wm_k (show 3 * x ≠ 3 * x + 2 by omega), wm_k (show 3 * x ≠ 3 * x + 1 by omega), wm_s, wm_k (show 3 * x + 1 ≠ 3 * x + 2 by omega), wm_s, wm_k (show 95 + x ≠ 25 by omega), wm_k (show 95 + x ≠ 103 + x by omega), wm_s, wm_k (show 103 + x ≠ 25 by omega), wm_s]
        exact ⟨⟨rfl, rfl⟩, j, hj, rfl⟩
      · rw [wm_k (show 3 * x ≠ 3 * k + 2 by omega), wm_k (show 3 * x ≠ 3 * k + 1 by omega), wm_k (show 3 * x ≠ 3 * k by omega), wm_k (show 3 * x + 1 ≠ 3 * k + 2 by omega), wm_k (show 3 * x + 1 ≠ 3 * k + 1 by omega), wm_k (show 3 * x + 1 ≠ 3 * k by omega), wm_k (show 95 + x ≠ 25 by omega), wm_k (show 95 + x ≠ 103 + k by omega), wm_k (show 95 + x ≠ 95 + k by omega), wm_k (show 103 + x ≠ 25 by omega), wm_k (show 103 + x ≠ 103 + k by omega), wm_k (show 103 + x ≠ 95 + k by omega)]
        exact t4 x (by omega)
end X
