/-! methods, both sides: image -/
theorem r_imgl {s : Nat → Int32} : ∀ (d x fuel : Nat) (ρ : Nat → Nat → Int32), x + d = 926 → ρ 1 = s → (∀ y, y < x → ρ 2 y = s y) → ∃ ρ', b_X12_image_2 kR lR (fuel + d + 1) 0 (nI x) (ρ, nR) = some (s 21, (ρ', nR)) ∧ (∀ y, y < 926 → ρ' 2 y = s y) ∧ ρ' 0 4 = 1 ∧ (∀ r, r ≠ 2 → r ≠ 0 → ρ' r = ρ r) ∧ (∀ y, y ≠ 4 → ρ' 0 y = ρ 0 y) := by
  intro d
  induction d with
  | zero =>
    intro x fuel ρ hx hr hz
    have hx : x = 926 := hx
    subst hx
    refine ⟨wm ρ 0 4 1, ?_, fun y hy => ?_, wm_s _ _ _ _, fun r h2 h0 => wm_r h0, fun y hy => wm_k hy⟩
    · rw [b_X12_image_2]
      unfold k_X12_image_2
      rw [if_pos (show (926 : Int32) ≤ nI 926 from Int32.le_refl _), R_pz _ _ (Or.inr rfl), R_g1, R_s21, wm_r (by omega), hr]
    · rw [wm_r (by omega)]
      exact hz y hy
  | succ d ih =>
    intro x fuel ρ hx hr hz
    obtain ⟨ρ', a1, a2, a3, a4, a5⟩ := ih (x + 1) fuel (wm ρ 2 x (s x)) (by omega) ((wm_r (by omega)).trans hr) (fun y hy => by
      by_cases h : y = x
      · rw [h, wm_s]
      · rw [wm_k h]
        exact hz y (by omega))
    refine ⟨ρ', ?_, a2, a3, fun r h2 h0 => (a4 r h2 h0).trans (wm_r h2), fun y hy => (a5 y hy).trans (by rw [wm_r (by omega)])⟩
    rw [← a1, show fuel + (d + 1) + 1 = fuel + d + 1 + 1 by omega, b_X12_image_2]
    unfold k_X12_image_2
    rw [if_neg (show ¬ (926 : Int32) ≤ nI x from nI_ge (b := 926) (by omega) (by omega)), R_g2, R_g1, R_s (by omega), hr, R_st (r := 2) rfl (show x < 926 by omega) (by decide), R_let, nI_1]
theorem r_undl {z : Nat → Int32} : ∀ (d x fuel : Nat) (ρ : Nat → Nat → Int32), x + d = 926 → ρ 2 = z → (∀ y, y < x → ρ 1 y = z y) → ∃ ρ', b_X12_undo_12 kR lR (fuel + d + 1) 0 (nI x) (ρ, nR) = some (z 21, (ρ', nR)) ∧ (∀ y, y < 926 → ρ' 1 y = z y) ∧ (∀ r, r ≠ 1 → ρ' r = ρ r) := by
  intro d
  induction d with
  | zero =>
    intro x fuel ρ hx hr hz
    have hx : x = 926 := hx
    subst hx
    refine ⟨ρ, ?_, hz, fun r h2 => rfl⟩
    rw [b_X12_undo_12]
    unfold k_X12_undo_12
    rw [if_pos (show (926 : Int32) ≤ nI 926 from Int32.le_refl _), R_g1, R_s21, hz 21 (by omega)]
  | succ d ih =>
    intro x fuel ρ hx hr hz
    obtain ⟨ρ', a1, a2, a4⟩ := ih (x + 1) fuel (wm ρ 1 x (z x)) (by omega) ((wm_r (by omega)).trans hr) (fun y hy => by
      by_cases h : y = x
      · rw [h, wm_s]
      · rw [wm_k h]
        exact hz y (by omega))
    refine ⟨ρ', ?_, a2, fun r h2 => (a4 r h2).trans (wm_r h2)⟩
    rw [← a1, show fuel + (d + 1) + 1 = fuel + d + 1 + 1 by omega, b_X12_undo_12]
    unfold k_X12_undo_12
    rw [if_neg (show ¬ (926 : Int32) ≤ nI x from nI_ge (b := 926) (by omega) (by omega)), R_g1, R_g2, R_ld (r := 2) (t := 13) rfl (show x < 926 by omega) (by decide), hr, R_ws (by omega), R_let, nI_1]
theorem qTape_z {c : Int32} {a a' s z : Nat → Int32} (hz : ∀ x, x < 926 → z x = s x) (ha : ∀ x, x < 300 → a' x = a x) (h : qTape c a s) : qTape c a' z := by
  obtain ⟨k, h1, h2, h3, h4⟩ := h
  refine ⟨k, h1, (hz 26 (by omega)).trans h2, h3, fun x hx => ?_⟩
  rw [hz (111 + x) (by omega), ha (3 * x) (by omega)]
  exact h4 x hx
theorem qSeen_z {c : Int32} {a a' s z : Nat → Int32} {np : Nat} (hz : ∀ x, x < 926 → z x = s x) (ha : ∀ x, x < 15 → a' x = a x) (h : qSeen c a s np) : qSeen c a' z np := by
  obtain ⟨k, h1, h2, h3, h4⟩ := h
  refine ⟨k, h1, (hz 23 (by omega)).trans h2, h3, fun x hx => ?_⟩
  rw [hz (64 + x) (by omega), hz (69 + x) (by omega), hz (74 + x) (by omega), ha (3 * x) (by omega), ha (3 * x + 1) (by omega), ha (3 * x + 2) (by omega)]
  exact h4 x hx
theorem qPlan_z {c : Int32} {a a' s z : Nat → Int32} {np : Nat} (hz : ∀ x, x < 926 → z x = s x) (ha : ∀ x, x < 24 → a' x = a x) (h : qPlan c a s np) : qPlan c a' z np := by
  obtain ⟨k, h1, h2, h3, h4⟩ := h
  refine ⟨k, h1, (hz 24 (by omega)).trans h2, h3, fun x hx => ?_⟩
  rw [hz (79 + x) (by omega), hz (87 + x) (by omega), ha (3 * x) (by omega), ha (3 * x + 1) (by omega)]
  exact h4 x hx
theorem qBook_z {c : Int32} {a a' s z : Nat → Int32} {np : Nat} (hz : ∀ x, x < 926 → z x = s x) (ha : ∀ x, x < 24 → a' x = a x) (h : qBook c a s np) : qBook c a' z np := by
  obtain ⟨k, h1, h2, h3, h4⟩ := h
  refine ⟨k, h1, (hz 25 (by omega)).trans h2, h3, fun x hx => ?_⟩
  rw [hz (95 + x) (by omega), hz (103 + x) (by omega), ha (3 * x) (by omega), ha (3 * x + 1) (by omega)]
  exact h4 x hx
theorem holdR_z {s z : Nat → Int32} {nt : Nat} (hz : ∀ x, x < 926 → z x = s x) (h : holdR s nt) : holdR z nt := by
  unfold holdR
  rw [hz 22 (by omega), hz 27 (by omega), hz 2 (by omega), hz 0 (by omega)]
  exact h
theorem rI_z {s z : Nat → Int32} (hz : ∀ x, x < 926 → z x = s x) (h : rI s) : rI z := by
  obtain ⟨a0, a1, a2, a3⟩ := h
  refine ⟨by rw [hz _ (by omega)]; exact a0, by rw [hz _ (by omega)]; exact a1, by rw [hz _ (by omega)]; exact a2, fun p hp => ?_⟩
  obtain ⟨b1, b2, b3, b4, b5, b6⟩ := a3 p hp
  refine ⟨by rw [hz _ (by omega)]; exact b1, by rw [hz _ (by omega)]; exact b2, by rw [hz _ (by omega)]; exact b3, by rw [hz _ (by omega)]; exact b4, by rw [hz _ (by omega)]; exact b5, fun i hi => by rw [hz _ (by omega)]; exact b6 i hi⟩
