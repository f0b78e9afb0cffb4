/-! methods, both sides: breaths; the reference's pays -/
section L
variable {s : Nat → Int32} {cl : List Cl} {f t : Nat}
theorem r_lp2 (hI : rI s) (hd : hdR s cl f t) (h99 : N (s 0) ≤ 9999) {p : Nat} (hp : p < 6) : ∀ (d x fuel : Nat) (ρ : Nat → Nat → Int32), x + d = 8 → ρ 1 = s → ∃ ρ', b_X12_looksForPay_2 kR lR (fuel + 5 * d + 1) 0 (nI p) (nI x) (ρ, nR) = some (ρ', nR) ∧ ρ' 1 = s ∧ (∀ r, r ≠ 1 → r ≠ 3 → r ≠ 4 → r ≠ 5 → r ≠ 6 → ρ' r = ρ r) ∧ (∀ y, ¬ (24 * p + 3 * x ≤ y ∧ y < 24 * p + 24) → ρ' 6 y = ρ 6 y) ∧ ∀ x' k, x ≤ x' → x' < 8 → k < 3 → ρ' 6 (24 * p + 3 * x' + k) = nI (OV s cl f t p x' k) := by
  intro d
  induction d with
  | zero =>
    intro x fuel ρ hx hr
    have hx : x = 8 := hx
    subst hx
    refine ⟨ρ, ?_, hr, fun _ _ _ _ _ _ => rfl, fun _ _ => rfl, fun x' k h1 h2 => absurd h2 (by omega)⟩
    rw [lp2_s]
    unfold k_X12_looksForPay_2
    rw [if_pos (show (8 : Int32) ≤ nI 8 from Int32.le_refl _)]
  | succ d ih =>
    intro x fuel ρ hx hr
    obtain ⟨ρ1, k1, k2, k3⟩ := r_keeps ρ
    have hr1 : ρ1 1 = s := (k2 1 (by omega)).trans hr
    have hc : rC s ρ1 p (N (s 0) + 0) (Ib (pq s cl p) (shB s p) (N (s 0)) (N (s (3 + p))) x 0) := ⟨fun y _ _ => by rw [hr1], by rw [hr1]; exact (nn_N (by omega) hI.1).1, by rw [hr1]; exact (nn_N (by omega) (hI.2.2.2 p hp).1).1⟩
    obtain ⟨ρ2, a1, a2, a3, a4, a5⟩ := r_lp14 hI hd h99 hp (show x < 8 by omega) 3 0 (fuel + 5 * d + 1) ρ1 (by omega) hc (fun j hj => by rw [k3 j hj, hr])
    obtain ⟨ρ', b1, b2, b3, b4, b5⟩ := ih (x + 1) fuel ρ2 (by omega) a2
    refine ⟨ρ', ?_, b2, fun r r1 r3 r4 r5 r6 => ?_, fun y hy => ?_, fun x' k h1 h2 h3 => ?_⟩
    · rw [← b1, ← a1, show fuel + 5 * (d + 1) + 1 = (fuel + 5 * d + 1 + 3 + 1) + 1 by omega, lp2_s]
      unfold k_X12_looksForPay_2
      rw [if_neg (show ¬ (8 : Int32) ≤ nI x from nI_ge (b := 8) (by omega) (by omega)), R_ck, k1, fm_b1_s, R_let]
      rfl
    · rw [b3 r r1 r3 r4 r5 r6, a3 r r1 r4 r5 r6, k2 r r3]
    · rw [b4 y (by omega), a4 y (by omega), k2 6 (by omega)]
    · by_cases hxx : x' = x
      · subst hxx
        rw [b4 _ (by omega)]
        exact a5 k (by omega) h3
      · exact b5 x' k (by omega) h2 h3
theorem r_looks (hI : rI s) (hd : hdR s cl f t) (h99 : N (s 0) ≤ 9999) {p : Nat} (hp : p < 6) {ρ : Nat → Nat → Int32} (hr : ρ 1 = s) : ∃ ρ', m_X12_looksForPay kR lR 0 (nI p) (ρ, nR) = some (ρ', nR) ∧ ρ' 1 = s ∧ (∀ r, r ≠ 1 → r ≠ 3 → r ≠ 4 → r ≠ 5 → r ≠ 6 → ρ' r = ρ r) ∧ (∀ y, ¬ (24 * p ≤ y ∧ y < 24 * p + 24) → ρ' 6 y = ρ 6 y) ∧ ∀ x' k, x' < 8 → k < 3 → ρ' 6 (24 * p + 3 * x' + k) = nI (OV s cl f t p x' k) := by
  obtain ⟨ρ', a1, a2, a3, a4, a5⟩ := r_lp2 hI hd h99 hp 8 0 959 ρ (by omega) hr
  refine ⟨ρ', ?_, a2, a3, a4, fun x' k h1 h2 => a5 x' k (by omega) h1 h2⟩
  unfold m_X12_looksForPay
  rw [R_let]
  exact a1
/-- the reference's pays -/
def qr (s : Nat → Int32) (cl : List Cl) (f t p : Nat) (ρ : Nat → Nat → Int32) : Prop := ∀ p', p' < p → ∀ x, x < 8 → ∀ k, k < 3 → ρ 6 (24 * p' + 3 * x + k) = nI (OV s cl f t p' x k)
theorem r_brl (hI : rI s) (hd : hdR s cl f t) (h99 : N (s 0) ≤ 9999) {np : Nat} (h21 : s 21 = nI np) (h6 : np ≤ 6) {a1 a2 : Int32} : ∀ (d p fuel : Nat) (ρ : Nat → Nat → Int32), p + d = np → ρ 1 = s → qr s cl f t p ρ → ∃ ρ' G, b_X12_breaths_25 kR lR (fuel + d + 1) 0 a1 a2 (nI p) (ρ, nR) = k_X12_breaths_25 kR lR G 0 a1 a2 (nI np) (ρ', nR) ∧ ρ' 1 = s ∧ (∀ r, r ≠ 1 → r ≠ 3 → r ≠ 4 → r ≠ 5 → r ≠ 6 → ρ' r = ρ r) ∧ qr s cl f t np ρ' := by
  intro d
  induction d with
  | zero =>
    intro p fuel ρ hp hr hq
    have hp : p = np := hp
    subst hp
    exact ⟨ρ, _, rfl, hr, fun _ _ _ _ _ _ => rfl, hq⟩
  | succ d ih =>
    intro p fuel ρ hp hr hq
    have hpn : p < np := by omega
    obtain ⟨ρ1, a1', a2', a3, a4, a5⟩ := r_looks hI hd h99 (show p < 6 by omega) hr
    obtain ⟨ρ', G, b1, b2, b3, b4⟩ := ih (p + 1) fuel ρ1 (by omega) a2' (fun p' hp' x hx k hk => by
      by_cases h : p' = p
      · subst h
        exact a5 x k hx hk
      · rw [a4 _ (by omega)]
        exact hq p' (by omega) x hx k hk)
    refine ⟨ρ', G, ?_, b2, fun r r1 r3 r4 r5 r6 => (b3 r r1 r3 r4 r5 r6).trans (a3 r r1 r3 r4 r5 r6), b4⟩
    rw [← b1, show fuel + (d + 1) + 1 = fuel + d + 1 + 1 by omega, b_X12_breaths_25]
    generalize b_X12_breaths_25 kR lR (fuel + d + 1) = H
    unfold k_X12_breaths_25
    rw [R_g1, R_s21, hr, h21, if_neg (nI_ge hpn (by omega)), R_ck, a1', fm_b1_s, R_let, nI_1]
end L
