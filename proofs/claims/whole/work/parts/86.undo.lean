/-! methods, both sides: undo -/
section W
variable {Kd : Nat → Nat} {n : Nat → Nat → Option Nat}
def pJ (Kd : Nat → Nat) (k : Nat) (μ0 μ : Nat → Nat → Int32) : Prop := (∀ r, (∀ j, j < k → r ≠ 100 + 6 * j ∧ r ≠ 101 + 6 * j) → μ r = μ0 r) ∧ ∀ j, j < k → (∀ x, x ≠ 3 → x ≠ 4 → x ≠ 5 → μ (100 + 6 * j) x = μ0 (100 + 6 * j) x) ∧ μ (100 + 6 * j) 3 = μ0 (100 + 6 * j) 6 ∧ μ (100 + 6 * j) 4 = μ0 (100 + 6 * j) 7 ∧ μ (100 + 6 * j) 5 = μ0 (100 + 6 * j) 8 ∧ (Kd j = 6 → ∀ x, x < 4 → μ (101 + 6 * j) x = μ0 (102 + 6 * j) x)
theorem k_undl {μ0 : Nat → Nat → Int32} {z : Nat → Int32} {np : Nat} (h1 : mN n) (hp : mP n np) (hA : μ0 0 2 = nI np) (hc : ∀ j, j < np → μ0 (100 + 6 * j) 8 = z (9 + j) ∧ Kd j ≤ 6) (hI : rI z) (h6 : np ≤ 6) : ∀ (d k fuel : Nat) (μ : Nat → Nat → Int32), k + d = np → pJ Kd k μ0 μ → ∃ μ1 G, pJ Kd np μ0 μ1 ∧ b_X11_undo_80 (kC Kd) lC (fuel + d + 1) 0 (nI k) (μ, n) = k_X11_undo_80 (kC Kd) lC G 0 (nI np) (μ1, n) := by
  intro d
  induction d with
  | zero =>
    intro k fuel μ hk hq
    have hk : k = np := hk
    subst hk
    exact ⟨μ, _, hq, rfl⟩
  | succ d ih =>
    intro k fuel μ hk hq
    have hkn : k < np := by omega
    obtain ⟨p1, p2, n9, n10, n11, m0, m8, m9⟩ := hp k hkn
    obtain ⟨q5, q6⟩ := hc k hkn
    obtain ⟨i3, i9, i15, i28, i34, i40⟩ := hI.2.2.2 k (by omega)
    have e0 : μ (100 + 6 * k) = μ0 (100 + 6 * k) := hq.1 _ (fun j hj => by omega)
    have e1 : μ (102 + 6 * k) = μ0 (102 + 6 * k) := hq.1 _ (fun j hj => by omega)
    have e00 : μ 0 = μ0 0 := hq.1 _ (fun j hj => by omega)
    have h5 : μ (100 + 6 * k) 8 = 0 ∨ μ (100 + 6 * k) 8 = 1 := by
      rw [e0, q5]
      obtain ⟨b, hb, hb2⟩ := i9
      rw [hb2]
      have : b = 0 ∨ b = 1 := by omega
      rcases this with h | h <;> subst h
      · exact Or.inl rfl
      · exact Or.inr rfl
    obtain ⟨μ1, a1, a2, a3, a4, a5, a6, a7⟩ := p_back (Kd := Kd) (μ := μ) (n := n) rfl q6 n10 n11 h5
    obtain ⟨μ2, G, b1, b2⟩ := ih (k + 1) fuel μ1 (by omega) ⟨fun r hr => by
      rw [a2 r (hr k (by omega)).1 (hr k (by omega)).2]
      exact hq.1 r (fun j hj => hr j (by omega)), fun j hj => by
      by_cases hjk : j = k
      · subst hjk
        rw [a4, a5, a6, ← e0]
        refine ⟨a3, rfl, rfl, rfl, fun h x hx => ?_⟩
        rw [a7 h x hx, e1]
      · obtain ⟨c1, c2, c3, c4, c5⟩ := hq.2 j (by omega)
        rw [a2 (100 + 6 * j) (by omega) (by omega), a2 (101 + 6 * j) (by omega) (by omega)]
        exact ⟨c1, c2, c3, c4, c5⟩⟩
    refine ⟨μ2, G, b1, ?_⟩
    rw [← b2, show fuel + (d + 1) + 1 = fuel + d + 1 + 1 by omega, b_X11_undo_80]
    unfold k_X11_undo_80
    rw [C_g0, e00, hA, if_neg (nI_ge hkn (by omega)), C_r0 h1.1.1, C_lr1 (by omega) p1, a1, fm_b1_s, R_let, nI_1]
def kb (i : Nat) (μ μ' : Nat → Nat → Int32) : Prop := (∀ r, r ≠ 10 + 3 * i → r ≠ 11 + 3 * i → μ' r = μ r) ∧ (∀ x, x ≠ 3 → μ' (10 + 3 * i) x = μ (10 + 3 * i) x) ∧ μ' (10 + 3 * i) 3 = μ (10 + 3 * i) 4 ∧ ∀ x, x < 3 * mW i → μ' (11 + 3 * i) x = μ (12 + 3 * i) x
theorem w_back2 {μ : Nat → Nat → Int32} {i : Nat} (hi : i < 6) (h1 : n (10 + 3 * i) 1 = some (11 + 3 * i) ∧ n (10 + 3 * i) 2 = some (12 + 3 * i)) : ∃ μ', m_X8_takeBack (kC Kd) lC (10 + 3 * i) (μ, n) = some (μ', n) ∧ kb i μ μ' := by
  refine ⟨_, w_back hi h1.1 h1.2, fun r a b => ?_, fun x hx => ?_, wm_s _ _ _ _, fun x hx => ?_⟩
  · rw [wm_r a, wc_r b]
  · rw [wm_k hx, wc_r (by omega)]
  · rw [wm_r (by omega), wc_s hx]
/-- what UNDO does to the class's rows -/
def ib (μ μ' : Nat → Nat → Int32) : Prop := (∀ r, r ≠ 10 → r ≠ 11 → r ≠ 13 → r ≠ 14 → r ≠ 16 → r ≠ 17 → r ≠ 19 → r ≠ 20 → μ' r = μ r) ∧ ((∀ x, x ≠ 3 → μ' 10 x = μ 10 x) ∧ μ' 10 3 = μ 10 4 ∧ ∀ x, x < 300 → μ' 11 x = μ 12 x) ∧ ((∀ x, x ≠ 3 → μ' 13 x = μ 13 x) ∧ μ' 13 3 = μ 13 4 ∧ ∀ x, x < 15 → μ' 14 x = μ 15 x) ∧ ((∀ x, x ≠ 3 → μ' 16 x = μ 16 x) ∧ μ' 16 3 = μ 16 4 ∧ ∀ x, x < 24 → μ' 17 x = μ 18 x) ∧ ((∀ x, x ≠ 3 → μ' 19 x = μ 19 x) ∧ μ' 19 3 = μ 19 4 ∧ ∀ x, x < 24 → μ' 20 x = μ 21 x)
theorem k_undf {μ : Nat → Nat → Int32} {np : Nat} (h1 : mN n) (hA : μ 0 2 = nI np) (G : Nat → Int32 → fm_M → Option (Int32 × fm_M)) : ∃ μ', k_X11_undo_80 (kC Kd) lC G 0 (nI np) (μ, n) = some (nI np, (μ', n)) ∧ ib μ μ' := by
  obtain ⟨⟨n0, n1, n3, n4, n6, n7, n11, n12, n13, n14, n15, n16⟩, _, _, hw, _⟩ := h1
  have t0 : ∃ μ', m_X8_takeBack (kC Kd) lC 10 (μ, n) = some (μ', n) ∧ (∀ r, r ≠ 10 → r ≠ 11 → μ' r = μ r) ∧ (∀ x, x ≠ 3 → μ' 10 x = μ 10 x) ∧ μ' 10 3 = μ 10 4 ∧ ∀ x, x < 300 → μ' 11 x = μ 12 x := w_back2 (i := 0) (by omega) (hw 0 (by omega))
  obtain ⟨μ1, a1, a2, a3, a4, a5⟩ := t0
  have t1 : ∃ μ', m_X8_takeBack (kC Kd) lC 13 (μ1, n) = some (μ', n) ∧ (∀ r, r ≠ 13 → r ≠ 14 → μ' r = μ1 r) ∧ (∀ x, x ≠ 3 → μ' 13 x = μ1 13 x) ∧ μ' 13 3 = μ1 13 4 ∧ ∀ x, x < 15 → μ' 14 x = μ1 15 x := w_back2 (i := 1) (by omega) (hw 1 (by omega))
  obtain ⟨μ2, b1, b2, b3, b4, b5⟩ := t1
  have t2 : ∃ μ', m_X8_takeBack (kC Kd) lC 16 (μ2, n) = some (μ', n) ∧ (∀ r, r ≠ 16 → r ≠ 17 → μ' r = μ2 r) ∧ (∀ x, x ≠ 3 → μ' 16 x = μ2 16 x) ∧ μ' 16 3 = μ2 16 4 ∧ ∀ x, x < 24 → μ' 17 x = μ2 18 x := w_back2 (i := 2) (by omega) (hw 2 (by omega))
  obtain ⟨μ3, c1, c2, c3, c4, c5⟩ := t2
  have t3 : ∃ μ', m_X8_takeBack (kC Kd) lC 19 (μ3, n) = some (μ', n) ∧ (∀ r, r ≠ 19 → r ≠ 20 → μ' r = μ3 r) ∧ (∀ x, x ≠ 3 → μ' 19 x = μ3 19 x) ∧ μ' 19 3 = μ3 19 4 ∧ ∀ x, x < 24 → μ' 20 x = μ3 21 x := w_back2 (i := 3) (by omega) (hw 3 (by omega))
  obtain ⟨μ4, d1, d2, d3, d4, d5⟩ := t3
  have c10 : ∀ {α : Type} (F : Option α), fm_ck (kC Kd 10 == 8) F = F := fun F => C_ck rfl F
  have c13 : ∀ {α : Type} (F : Option α), fm_ck (kC Kd 13 == 8) F = F := fun F => C_ck rfl F
  have c16 : ∀ {α : Type} (F : Option α), fm_ck (kC Kd 16 == 8) F = F := fun F => C_ck rfl F
  have c19 : ∀ {α : Type} (F : Option α), fm_ck (kC Kd 19 == 8) F = F := fun F => C_ck rfl F
  have e4 : ∀ r, r ≠ 10 → r ≠ 11 → r ≠ 13 → r ≠ 14 → r ≠ 16 → r ≠ 17 → r ≠ 19 → r ≠ 20 → μ4 r = μ r := fun r x0 x1 x2 x3 x4 x5 x6 x7 => by rw [d2 r x6 x7, c2 r x4 x5, b2 r x2 x3, a2 r x0 x1]
  have e40 : μ4 0 = μ 0 := e4 0 (by omega) (by omega) (by omega) (by omega) (by omega) (by omega) (by omega) (by omega)
  refine ⟨μ4, ?_, e4, ⟨fun x hx => ?_, ?_, fun x hx => ?_⟩, ⟨fun x hx => ?_, ?_, fun x hx => ?_⟩, ⟨fun x hx => ?_, ?_, fun x hx => ?_⟩, ⟨fun x hx => ?_, ?_, fun x hx => ?_⟩⟩
  · unfold k_X11_undo_80
    rw [C_g0, hA, if_pos (Int32.le_refl _), C_r0 n6, c10, a1, fm_b1_s, C_r0 n11, c13, b1, fm_b1_s, C_r0 n12, c16, c1, fm_b1_s, C_r0 n13, c19, d1, fm_b1_s, C_g0, e40, hA]
  · rw [d2 10 (by omega) (by omega), c2 10 (by omega) (by omega), b2 10 (by omega) (by omega), a3 x hx]
  · rw [d2 10 (by omega) (by omega), c2 10 (by omega) (by omega), b2 10 (by omega) (by omega), a4]
  · rw [d2 11 (by omega) (by omega), c2 11 (by omega) (by omega), b2 11 (by omega) (by omega), a5 x hx]
  · rw [d2 13 (by omega) (by omega), c2 13 (by omega) (by omega), b3 x hx, a2 13 (by omega) (by omega)]
  · rw [d2 13 (by omega) (by omega), c2 13 (by omega) (by omega), b4, a2 13 (by omega) (by omega)]
  · rw [d2 14 (by omega) (by omega), c2 14 (by omega) (by omega), b5 x hx, a2 15 (by omega) (by omega)]
  · rw [d2 16 (by omega) (by omega), c3 x hx, b2 16 (by omega) (by omega), a2 16 (by omega) (by omega)]
  · rw [d2 16 (by omega) (by omega), c4, b2 16 (by omega) (by omega), a2 16 (by omega) (by omega)]
  · rw [d2 17 (by omega) (by omega), c5 x hx, b2 18 (by omega) (by omega), a2 18 (by omega) (by omega)]
  · rw [d3 x hx, c2 19 (by omega) (by omega), b2 19 (by omega) (by omega), a2 19 (by omega) (by omega)]
  · rw [d4, c2 19 (by omega) (by omega), b2 19 (by omega) (by omega), a2 19 (by omega) (by omega)]
  · rw [d5 x hx, c2 21 (by omega) (by omega), b2 21 (by omega) (by omega), a2 21 (by omega) (by omega)]
end W
