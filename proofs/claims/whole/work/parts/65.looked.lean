/-! methods, both sides: looked -/
section X
variable {Kd : Nat → Nat} {μ : Nat → Nat → Int32} {n : Nat → Nat → Option Nat} {ρ : Nat → Nat → Int32}
theorem x_looked (hR : Rep Kd μ n ρ) : ∃ r, m_X11_looked (kC Kd) lC 0 (μ, n) = some r ∧ m_X12_looked kR lR 0 (ρ, nR) = some r := by
  obtain ⟨np, nt, ⟨h1, h2, h3, h4, _, h6, h7⟩, _, ⟨_, _, _, ⟨k, t1, t2, t3, t4⟩⟩, ⟨_, _, _, m0, _⟩, _⟩ := hR
  obtain ⟨⟨n0, _, _, _, _, _, _, _, n13, _⟩, _, _, hw, _⟩ := h1
  have hw0 : n 19 1 = some 20 := (hw 3 (by omega)).1
  have c19 : ∀ {α : Type} (F : Option α), fm_ck (kC Kd 19 == 8) F = F := fun F => C_ck rfl F
  have zs : m_X8_size (kC Kd) lC 19 (μ, n) = some (nI k) := by
    have := w_size (Kd := Kd) (n := n) (i := 3) (by omega) t3 m0 (by omega)
    rw [Nat.min_eq_left (show k ≤ mW 3 from t1)] at this
    exact this
  have za : ∀ x y, x < k → y < 3 → m_X8_at (kC Kd) lC 19 (nI x) (nI y) (μ, n) = some (μ 20 (3 * x + y)) := fun x y hx hy => w_at (i := 3) (by omega) t3 m0 hw0 t1 hx hy
  have main : ∀ (d x fuel : Nat), x + d = k → ∃ r, b_X11_looked_2 (kC Kd) lC (μ, n) (fuel + d + 1) 0 (nI x) = some r ∧ b_X12_looked_2 kR lR (ρ, nR) (fuel + d + 1) 0 (nI x) = some r := by
    intro d
    induction d with
    | zero =>
      intro x fuel hx
      have hx : x = k := hx
      subst hx
      rw [b_X11_looked_2, b_X12_looked_2]
      unfold k_X11_looked_2 k_X12_looked_2
      rw [C_r0 n13, c19, zs, fm_b1_s, if_pos (Int32.le_refl _)]
      simp only [R_g1, R_s25]
      rw [t2, if_pos (Int32.le_refl _)]
      exact ⟨_, rfl, rfl⟩
    | succ d ih =>
      intro x fuel hx
      obtain ⟨r, r1, r2⟩ := ih (x + 1) fuel (by omega)
      obtain ⟨⟨a1, a2⟩, j, hj, a3⟩ := t4 x (by omega)
      obtain ⟨p1, _⟩ := h2 j hj
      have q4 := (h4 j hj).2.2.2.2.1
      have z0 : m_X8_at (kC Kd) lC 19 (nI x) 0 (μ, n) = some (nI j) := (za x 0 (by omega) (by omega)).trans (by rw [Nat.add_zero, a1, a3])
      have z1 : m_X8_at (kC Kd) lC 19 (nI x) 1 (μ, n) = some (ρ 1 (103 + x)) := (za x 1 (by omega) (by omega)).trans (by rw [a2])
      have hpc : (decide (0 ≤ nI j) && decide (nI j ≤ nI np - 1)) = true := by
        obtain ⟨m, rfl⟩ : ∃ m, np = m + 1 := ⟨np - 1, by omega⟩
        rw [nI_pred]
        exact wi_T (by omega) (by omega)
      rw [show fuel + (d + 1) + 1 = fuel + d + 1 + 1 by omega, b_X11_looked_2, b_X12_looked_2]
      unfold k_X11_looked_2 k_X12_looked_2
      rw [C_r0 n13, c19, zs, fm_b1_s, if_neg (nI_ge (by omega) (by omega)), C_r0 n13, c19, z0, fm_b1_s, C_c0, x_pC h3 h6, fm_b1_s, hpc, b2i_if, if_pos rfl, C_r0 n0, C_lr1 (by omega) p1, C_gio, q4, C_r0 n13, c19, z1, fm_b1_s]
      simp (disch := omega) only [R_g1, R_s25, L_95, L_103, R_s]
      rw [t2, if_neg (nI_ge (by omega) (by omega)), a3]
      simp (disch := omega) only [L_3, R_s, R_let]
      rw [nI_1]
      by_cases hx : ρ 1 (3 + j) = ρ 1 (103 + x)
      · rw [if_pos hx, if_pos hx]
        exact ⟨r, r1, r2⟩
      · rw [if_neg hx, if_neg hx]
        exact ⟨_, rfl, rfl⟩
  obtain ⟨r, r1, r2⟩ := main k 0 (999 - k) (by omega)
  refine ⟨r, ?_, ?_⟩
  · unfold m_X11_looked
    rw [R_let, show fm_LF = 999 - k + k + 1 by unfold fm_LF; omega]
    exact r1
  · unfold m_X12_looked
    rw [R_let, show fm_LF = 999 - k + k + 1 by unfold fm_LF; omega]
    exact r2
end X
