/-! methods, both sides: image -/
section W
variable {Kd : Nat → Nat} {n : Nat → Nat → Option Nat}
def pI (Kd : Nat → Nat) (k : Nat) (μ0 μ : Nat → Nat → Int32) : Prop := (∀ r, (∀ j, j < k → r ≠ 100 + 6 * j ∧ r ≠ 102 + 6 * j) → μ r = μ0 r) ∧ ∀ j, j < k → (∀ x, x ≠ 6 → x ≠ 7 → x ≠ 8 → μ (100 + 6 * j) x = μ0 (100 + 6 * j) x) ∧ μ (100 + 6 * j) 6 = μ0 (100 + 6 * j) 3 ∧ μ (100 + 6 * j) 7 = μ0 (100 + 6 * j) 4 ∧ μ (100 + 6 * j) 8 = μ0 (100 + 6 * j) 5 ∧ (Kd j = 6 → ∀ x, x < 4 → μ (102 + 6 * j) x = μ0 (101 + 6 * j) x)
theorem k_imgl {μ0 : Nat → Nat → Int32} {s : Nat → Int32} {np : Nat} (h1 : mN n) (hp : mP n np) (hA : μ0 0 2 = nI np) (hc : ∀ j, j < np → cP Kd μ0 s j) (hI : rI s) (h6 : np ≤ 6) : ∀ (d k fuel : Nat) (μ : Nat → Nat → Int32), k + d = np → pI Kd k μ0 μ → ∃ μ1 G, pI Kd np μ0 μ1 ∧ b_X11_image_2 (kC Kd) lC (fuel + d + 1) 0 (nI k) (μ, n) = k_X11_image_2 (kC Kd) lC G 0 (nI np) (μ1, n) := by
  intro d
  induction d with
  | zero =>
    intro k fuel μ hk hq
    have hk : k = np := hk
    subst hk
    exact ⟨μ, _, hq, rfl⟩
  | succ d ih =>
    intro k fuel μ hk hq
    have hkn : k < np := by omega
    obtain ⟨p1, p2, n9, n10, n11, m0, m8, m9⟩ := hp k hkn
    obtain ⟨q0, q1, q2, q3, q4, q5, q6, q7⟩ := hc k hkn
    obtain ⟨i3, i9, i15, i28, i34, i40⟩ := hI.2.2.2 k (by omega)
    have e0 : μ (100 + 6 * k) = μ0 (100 + 6 * k) := hq.1 _ (fun j hj => by omega)
    have e1 : μ (101 + 6 * k) = μ0 (101 + 6 * k) := hq.1 _ (fun j hj => by omega)
    have e00 : μ 0 = μ0 0 := hq.1 _ (fun j hj => by omega)
    have h5 : μ (100 + 6 * k) 5 = 0 ∨ μ (100 + 6 * k) 5 = 1 := by
      rw [e0, q5]
      obtain ⟨b, hb, hb2⟩ := i9
      rw [hb2]
      have : b = 0 ∨ b = 1 := by omega
      rcases this with h | h <;> subst h
      · exact Or.inl rfl
      · exact Or.inr rfl
    have l28 := (nn_N (by omega) i28).2
    obtain ⟨μ1, a1, a2, a3, a4, a5, a6, a7⟩ := p_keep (Kd := Kd) (μ := μ) (n := n) q6 l28 n10 n11 h5
    obtain ⟨μ2, G, b1, b2⟩ := ih (k + 1) fuel μ1 (by omega) ⟨fun r hr => by
      rw [a2 r (hr k (by omega)).1 (hr k (by omega)).2]
      exact hq.1 r (fun j hj => hr j (by omega)), fun j hj => by
      by_cases hjk : j = k
      · subst hjk
        rw [a4, a5, a6, ← e0, q6]
        refine ⟨a3, rfl, rfl, rfl, fun h x hx => ?_⟩
        rw [a7 h x hx, e1]
      · obtain ⟨c1, c2, c3, c4, c5⟩ := hq.2 j (by omega)
        rw [a2 (100 + 6 * j) (by omega) (by omega), a2 (102 + 6 * j) (by omega) (by omega)]
        exact ⟨c1, c2, c3, c4, c5⟩⟩
    refine ⟨μ2, G, b1, ?_⟩
    rw [← b2, show fuel + (d + 1) + 1 = fuel + d + 1 + 1 by omega, b_X11_image_2]
    unfold k_X11_image_2
    rw [C_g0, e00, hA, if_neg (nI_ge hkn (by omega)), C_r0 h1.1.1, C_lr1 (by omega) p1, a1, fm_b1_s, R_let, nI_1]
def kq (i : Nat) (μ μ' : Nat → Nat → Int32) : Prop := (∀ r, r ≠ 10 + 3 * i → r ≠ 12 + 3 * i → μ' r = μ r) ∧ (∀ x, x ≠ 4 → μ' (10 + 3 * i) x = μ (10 + 3 * i) x) ∧ μ' (10 + 3 * i) 4 = μ (10 + 3 * i) 3 ∧ ∀ x, x < 3 * mW i → μ' (12 + 3 * i) x = μ (11 + 3 * i) x
theorem w_keep2 {μ : Nat → Nat → Int32} {i : Nat} (hi : i < 6) (h1 : n (10 + 3 * i) 1 = some (11 + 3 * i) ∧ n (10 + 3 * i) 2 = some (12 + 3 * i)) : ∃ μ', m_X8_keep (kC Kd) lC (10 + 3 * i) (μ, n) = some (μ', n) ∧ kq i μ μ' := by
  refine ⟨_, w_keep hi h1.1 h1.2, fun r a b => ?_, fun x hx => ?_, wm_s _ _ _ _, fun x hx => ?_⟩
  · rw [wm_r a, wc_r b]
  · rw [wm_k hx, wc_r (by omega)]
  · rw [wm_r (by omega), wc_s hx]
/-- what IMAGE does to the class -/
def iq (μ μ' : Nat → Nat → Int32) : Prop := (∀ r, r ≠ 10 → r ≠ 12 → r ≠ 13 → r ≠ 15 → r ≠ 16 → r ≠ 18 → r ≠ 19 → r ≠ 21 → r ≠ 25 → r ≠ 26 → μ' r = μ r) ∧ ((∀ x, x ≠ 4 → μ' 10 x = μ 10 x) ∧ μ' 10 4 = μ 10 3 ∧ ∀ x, x < 300 → μ' 12 x = μ 11 x) ∧ ((∀ x, x ≠ 4 → μ' 13 x = μ 13 x) ∧ μ' 13 4 = μ 13 3 ∧ ∀ x, x < 15 → μ' 15 x = μ 14 x) ∧ ((∀ x, x ≠ 4 → μ' 16 x = μ 16 x) ∧ μ' 16 4 = μ 16 3 ∧ ∀ x, x < 24 → μ' 18 x = μ 17 x) ∧ ((∀ x, x ≠ 4 → μ' 19 x = μ 19 x) ∧ μ' 19 4 = μ 19 3 ∧ ∀ x, x < 24 → μ' 21 x = μ 20 x) ∧ (μ' 25 0 = μ 25 0 ∧ μ' 25 3 = nI 2) ∧ (μ' 26 0 = μ 0 2 ∧ μ' 26 1 = μ 0 5 ∧ μ' 26 3 = μ 0 8 ∧ μ' 26 4 = μ 0 9 ∧ μ' 26 5 = μ 0 10)
theorem k_imgf {μ : Nat → Nat → Int32} {np : Nat} (h1 : mN n) (hA : μ 0 2 = nI np) (h25 : μ 25 0 = nI 2) (G : Nat → Int32 → fm_M → Option (Int32 × fm_M)) : ∃ μ', k_X11_image_2 (kC Kd) lC G 0 (nI np) (μ, n) = some (nI np, (μ', n)) ∧ iq μ μ' := by
  obtain ⟨⟨n0, n1, n3, n4, n6, n7, n11, n12, n13, n14, n15, n16⟩, _, _, hw, _⟩ := h1
  have t0 : ∃ μ', m_X8_keep (kC Kd) lC 10 (μ, n) = some (μ', n) ∧ (∀ r, r ≠ 10 → r ≠ 12 → μ' r = μ r) ∧ (∀ x, x ≠ 4 → μ' 10 x = μ 10 x) ∧ μ' 10 4 = μ 10 3 ∧ ∀ x, x < 300 → μ' 12 x = μ 11 x := w_keep2 (i := 0) (by omega) (hw 0 (by omega))
  obtain ⟨μ1, a1, a2, a3, a4, a5⟩ := t0
  have t1 : ∃ μ', m_X8_keep (kC Kd) lC 13 (μ1, n) = some (μ', n) ∧ (∀ r, r ≠ 13 → r ≠ 15 → μ' r = μ1 r) ∧ (∀ x, x ≠ 4 → μ' 13 x = μ1 13 x) ∧ μ' 13 4 = μ1 13 3 ∧ ∀ x, x < 15 → μ' 15 x = μ1 14 x := w_keep2 (i := 1) (by omega) (hw 1 (by omega))
  obtain ⟨μ2, b1, b2, b3, b4, b5⟩ := t1
  have t2 : ∃ μ', m_X8_keep (kC Kd) lC 16 (μ2, n) = some (μ', n) ∧ (∀ r, r ≠ 16 → r ≠ 18 → μ' r = μ2 r) ∧ (∀ x, x ≠ 4 → μ' 16 x = μ2 16 x) ∧ μ' 16 4 = μ2 16 3 ∧ ∀ x, x < 24 → μ' 18 x = μ2 17 x := w_keep2 (i := 2) (by omega) (hw 2 (by omega))
  obtain ⟨μ3, c1, c2, c3, c4, c5⟩ := t2
  have t3 : ∃ μ', m_X8_keep (kC Kd) lC 19 (μ3, n) = some (μ', n) ∧ (∀ r, r ≠ 19 → r ≠ 21 → μ' r = μ3 r) ∧ (∀ x, x ≠ 4 → μ' 19 x = μ3 19 x) ∧ μ' 19 4 = μ3 19 3 ∧ ∀ x, x < 24 → μ' 21 x = μ3 20 x := w_keep2 (i := 3) (by omega) (hw 3 (by omega))
  obtain ⟨μ4, d1, d2, d3, d4, d5⟩ := t3
  have hw5 : n 25 1 = some 26 := (hw 5 (by omega)).1
  have c10 : ∀ {α : Type} (F : Option α), fm_ck (kC Kd 10 == 8) F = F := fun F => C_ck rfl F
  have c13 : ∀ {α : Type} (F : Option α), fm_ck (kC Kd 13 == 8) F = F := fun F => C_ck rfl F
  have c16 : ∀ {α : Type} (F : Option α), fm_ck (kC Kd 16 == 8) F = F := fun F => C_ck rfl F
  have c19 : ∀ {α : Type} (F : Option α), fm_ck (kC Kd 19 == 8) F = F := fun F => C_ck rfl F
  have c25 : ∀ {α : Type} (F : Option α), fm_ck (kC Kd 25 == 8) F = F := fun F => C_ck rfl F
  have e4 : ∀ r, r ≠ 10 → r ≠ 12 → r ≠ 13 → r ≠ 15 → r ≠ 16 → r ≠ 18 → r ≠ 19 → r ≠ 21 → μ4 r = μ r := fun r x0 x1 x2 x3 x4 x5 x6 x7 => by rw [d2 r x6 x7, c2 r x4 x5, b2 r x2 x3, a2 r x0 x1]
  have e40 : μ4 0 = μ 0 := e4 0 (by omega) (by omega) (by omega) (by omega) (by omega) (by omega) (by omega) (by omega)
  have e425 : μ4 25 = μ 25 := e4 25 (by omega) (by omega) (by omega) (by omega) (by omega) (by omega) (by omega) (by omega)
  have zc : m_X8_clear (kC Kd) lC 25 (μ4, n) = some (0, (wm μ4 25 3 0, n)) := w_clear (i := 5) (by omega)
  have z1 : m_X8_add (kC Kd) lC 25 (μ 0 2) (μ 0 5) 0 (wm μ4 25 3 0, n) = some (nI 1, (wm (wm (wm (wm (wm μ4 25 3 0) 26 0 (μ 0 2)) 26 1 (μ 0 5)) 26 2 0) 25 3 (nI 1), n)) := w_add (i := 5) (c := 0) (by omega) _ _ _ (wm_s _ _ _ _) ((wm_k (by omega)).trans (by rw [e425]; exact h25)) hw5 (by decide)
  have hm6 : ∃ μ6, wm (wm (wm (wm (wm μ4 25 3 0) 26 0 (μ 0 2)) 26 1 (μ 0 5)) 26 2 0) 25 3 (nI 1) = μ6 ∧ (∀ r, r ≠ 25 → r ≠ 26 → μ6 r = μ4 r) ∧ (∀ x, x ≠ 3 → μ6 25 x = μ4 25 x) ∧ μ6 25 3 = nI 1 ∧ μ6 26 0 = μ 0 2 ∧ μ6 26 1 = μ 0 5 := by
    refine ⟨_, rfl, fun r x y => ?_, fun x hx => ?_, wm_s _ _ _ _, ?_, ?_⟩
    · rw [wm_r x, wm_r y, wm_r y, wm_r y, wm_r x]
    · rw [wm_k hx, wm_r (by omega), wm_r (by omega), wm_r (by omega), wm_k hx]
    · rw [wm_r (by omega), wm_k (by omega), wm_k (by omega), wm_s]
    · rw [wm_r (by omega), wm_k (by omega), wm_s]
  obtain ⟨μ6, m6, f1, f2, f3, f4, f5⟩ := hm6
  rw [m6] at z1
  have e60 : μ6 0 = μ 0 := (f1 0 (by omega) (by omega)).trans e40
  have z2 : m_X8_add (kC Kd) lC 25 (μ 0 8) (μ 0 9) (μ 0 10) (μ6, n) = some (nI 2, (wm (wm (wm (wm μ6 26 3 (μ 0 8)) 26 4 (μ 0 9)) 26 5 (μ 0 10)) 25 3 (nI 2), n)) := w_add (i := 5) (c := 1) (by omega) _ _ _ f3 ((f2 0 (by omega)).trans (by rw [e425]; exact h25)) hw5 (by decide)
  have hm7 : ∃ μ7, wm (wm (wm (wm μ6 26 3 (μ 0 8)) 26 4 (μ 0 9)) 26 5 (μ 0 10)) 25 3 (nI 2) = μ7 ∧ (∀ r, r ≠ 25 → r ≠ 26 → μ7 r = μ4 r) ∧ (∀ x, x ≠ 3 → μ7 25 x = μ4 25 x) ∧ μ7 25 3 = nI 2 ∧ μ7 26 0 = μ 0 2 ∧ μ7 26 1 = μ 0 5 ∧ μ7 26 3 = μ 0 8 ∧ μ7 26 4 = μ 0 9 ∧ μ7 26 5 = μ 0 10 := by
    refine ⟨_, rfl, fun r x y => ?_, fun x hx => ?_, wm_s _ _ _ _, ?_, ?_, ?_, ?_, ?_⟩
    · rw [wm_r x, wm_r y, wm_r y, wm_r y, f1 r x y]
    · rw [wm_k hx, wm_r (by omega), wm_r (by omega), wm_r (by omega), f2 x hx]
    · rw [wm_r (by omega), wm_k (by omega), wm_k (by omega), wm_k (by omega), f4]
    · rw [wm_r (by omega), wm_k (by omega), wm_k (by omega), wm_k (by omega), f5]
    · rw [wm_r (by omega), wm_k (by omega), wm_k (by omega), wm_s]
    · rw [wm_r (by omega), wm_k (by omega), wm_s]
    · rw [wm_r (by omega), wm_s]
  obtain ⟨μ7, m7, g1, g2, g3, g4, g5, g6, g7, g8⟩ := hm7
  rw [m7] at z2
  have e70 : μ7 0 = μ 0 := (g1 0 (by omega) (by omega)).trans e40
  refine ⟨μ7, ?_, fun r x0 x1 x2 x3 x4 x5 x6 x7 x8 x9 => (g1 r x8 x9).trans (e4 r x0 x1 x2 x3 x4 x5 x6 x7), ⟨fun x hx => ?_, ?_, fun x hx => ?_⟩, ⟨fun x hx => ?_, ?_, fun x hx => ?_⟩, ⟨fun x hx => ?_, ?_, fun x hx => ?_⟩, ⟨fun x hx => ?_, ?_, fun x hx => ?_⟩, ⟨(g2 0 (by omega)).trans (by rw [e425]), g3⟩, g4, g5, g6, g7, g8⟩
  · unfold k_X11_image_2
    rw [C_g0, hA, if_pos (Int32.le_refl _), C_r0 n6, c10, a1, fm_b1_s, C_r0 n11, c13, b1, fm_b1_s, C_r0 n12, c16, c1, fm_b1_s, C_r0 n13, c19, d1, fm_b1_s, C_r0 n15, c25, zc, fm_bi_s, C_r0 n15, C_g0, C_g0, wm_r (by omega), e40, c25, z1, fm_bi_s, C_r0 n15, C_g0, C_g0, C_g0, e60, c25, z2, fm_bi_s, C_g0, e70, hA]
  · rw [g1 10 (by omega) (by omega), d2 10 (by omega) (by omega), c2 10 (by omega) (by omega), b2 10 (by omega) (by omega), a3 x hx]
  · rw [g1 10 (by omega) (by omega), d2 10 (by omega) (by omega), c2 10 (by omega) (by omega), b2 10 (by omega) (by omega), a4]
  · rw [g1 12 (by omega) (by omega), d2 12 (by omega) (by omega), c2 12 (by omega) (by omega), b2 12 (by omega) (by omega), a5 x hx]
  · rw [g1 13 (by omega) (by omega), d2 13 (by omega) (by omega), c2 13 (by omega) (by omega), b3 x hx, a2 13 (by omega) (by omega)]
  · rw [g1 13 (by omega) (by omega), d2 13 (by omega) (by omega), c2 13 (by omega) (by omega), b4, a2 13 (by omega) (by omega)]
  · rw [g1 15 (by omega) (by omega), d2 15 (by omega) (by omega), c2 15 (by omega) (by omega), b5 x hx, a2 14 (by omega) (by omega)]
  · rw [g1 16 (by omega) (by omega), d2 16 (by omega) (by omega), c3 x hx, b2 16 (by omega) (by omega), a2 16 (by omega) (by omega)]
  · rw [g1 16 (by omega) (by omega), d2 16 (by omega) (by omega), c4, b2 16 (by omega) (by omega), a2 16 (by omega) (by omega)]
  · rw [g1 18 (by omega) (by omega), d2 18 (by omega) (by omega), c5 x hx, b2 17 (by omega) (by omega), a2 17 (by omega) (by omega)]
  · rw [g1 19 (by omega) (by omega), d3 x hx, c2 19 (by omega) (by omega), b2 19 (by omega) (by omega), a2 19 (by omega) (by omega)]
  · rw [g1 19 (by omega) (by omega), d4, c2 19 (by omega) (by omega), b2 19 (by omega) (by omega), a2 19 (by omega) (by omega)]
  · rw [g1 21 (by omega) (by omega), d5 x hx, c2 20 (by omega) (by omega), b2 20 (by omega) (by omega), a2 20 (by omega) (by omega)]
end W
