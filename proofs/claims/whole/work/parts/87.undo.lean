/-! methods, both sides: undo -/
section X
variable {Kd : Nat → Nat} {μ : Nat → Nat → Int32} {n : Nat → Nat → Option Nat} {ρ : Nat → Nat → Int32}
theorem x_undo (hR : Rep Kd μ n ρ) : ∃ r μ' ρ', m_X11_undo (kC Kd) lC 0 (μ, n) = some (r, (μ', n)) ∧ m_X12_undo kR lR 0 (ρ, nR) = some (r, (ρ', nR)) ∧ Rep Kd μ' n ρ' := by
  have hR0 := hR
  obtain ⟨np, nt, ⟨h1, h2, h3, h4, h5, h6, h7⟩, ⟨h8, h9, h10⟩, _, ⟨m0, m1, m2, m3, m4, m5⟩, ⟨r, p1, p2, p3, p4⟩, h14⟩ := hR
  have h1' := h1
  obtain ⟨⟨n0, n1, n3, n4, n6, n7, n11, n12, n13, n14, n15, n16⟩, _, _, hw, _⟩ := h1'
  have c25 : ∀ {α : Type} (F : Option α), fm_ck (kC Kd 25 == 8) F = F := fun F => C_ck rfl F
  unfold m_X11_undo m_X12_undo
  rw [C_r0 n15, c25, R_gi]
  rcases h14 with ⟨i1, i2⟩ | ⟨i1, i2, np', nt', ⟨j1, j2, j3, j4, j5⟩, ⟨k0, k1, k3, k4, k5⟩, hP, hT, q1, q2, q3, q4⟩
  · have hz : m_X8_size (kC Kd) lC 25 (μ, n) = some (nI (min 0 2)) := w_size (i := 5) (by omega) i2 m5 (by omega)
    rw [hz, fm_b1_s, if_pos (show nI (min 0 2) = 0 from rfl), i1, if_pos rfl]
    exact ⟨_, _, _, rfl, rfl, hR0⟩
  have hz : m_X8_size (kC Kd) lC 25 (μ, n) = some (nI (min 2 2)) := w_size (i := 5) (by omega) i2 m5 (by omega)
  have za : ∀ {μ' : Nat → Nat → Int32}, (∀ r, r ≠ 0 → μ' r = μ r) → (m_X8_at (kC Kd) lC 25 0 0 (μ', n) = some (ρ 2 21) ∧ m_X8_at (kC Kd) lC 25 0 1 (μ', n) = some (ρ 2 22) ∧ m_X8_at (kC Kd) lC 25 1 0 (μ', n) = some (ρ 2 1) ∧ m_X8_at (kC Kd) lC 25 1 1 (μ', n) = some (ρ 2 2) ∧ m_X8_at (kC Kd) lC 25 1 2 (μ', n) = some (ρ 2 0)) := by
    intro μ' he
    have a3 : μ' 25 3 = nI 2 := by rw [he 25 (by omega)]; exact i2
    have a0 : μ' 25 0 = nI 2 := by rw [he 25 (by omega)]; exact m5
    have ha : ∀ x y, x < 2 → y < 3 → m_X8_at (kC Kd) lC 25 (nI x) (nI y) (μ', n) = some (μ 26 (3 * x + y)) := fun x y hx hy => by
      have := w_at (Kd := Kd) (i := 5) (by omega) a3 a0 (hw 5 (by omega)).1 (show 2 ≤ mW 5 by decide) hx hy
      rw [he (11 + 3 * 5) (by omega)] at this
      exact this
    refine ⟨(ha 0 0 (by omega) (by omega)).trans (by rw [k0]), (ha 0 1 (by omega) (by omega)).trans (by rw [k1]), (ha 1 0 (by omega) (by omega)).trans (by rw [k3]), (ha 1 1 (by omega) (by omega)).trans (by rw [k4]), (ha 1 2 (by omega) (by omega)).trans (by rw [k5])⟩
  have hma : ∃ μa, wm (wm (wm (wm (wm μ 0 2 (ρ 2 21)) 0 5 (ρ 2 22)) 0 8 (ρ 2 1)) 0 9 (ρ 2 2)) 0 10 (ρ 2 0) = μa ∧ (∀ r, r ≠ 0 → μa r = μ r) ∧ μa 0 2 = ρ 2 21 ∧ μa 0 5 = ρ 2 22 ∧ μa 0 8 = ρ 2 1 ∧ μa 0 9 = ρ 2 2 ∧ μa 0 10 = ρ 2 0 := by
    refine ⟨_, rfl, fun r hr => by rw [wm_r hr, wm_r hr, wm_r hr, wm_r hr, wm_r hr], ?_, ?_, ?_, ?_, wm_s _ _ _ _⟩
    · rw [wm_k (by omega), wm_k (by omega), wm_k (by omega), wm_k (by omega), wm_s]
    · rw [wm_k (by omega), wm_k (by omega), wm_k (by omega), wm_s]
    · rw [wm_k (by omega), wm_k (by omega), wm_s]
    · rw [wm_k (by omega), wm_s]
  obtain ⟨μa, ma, e0, f2, f5, f8, f9, f10⟩ := hma
  have z0 := za (μ' := μ) (fun r hr => rfl)
  have z1 := za (μ' := wm μ 0 2 (ρ 2 21)) (fun r hr => wm_r hr)
  have z2 := za (μ' := wm (wm μ 0 2 (ρ 2 21)) 0 5 (ρ 2 22)) (fun r hr => by rw [wm_r hr, wm_r hr])
  have z3 := za (μ' := wm (wm (wm μ 0 2 (ρ 2 21)) 0 5 (ρ 2 22)) 0 8 (ρ 2 1)) (fun r hr => by rw [wm_r hr, wm_r hr, wm_r hr])
  have z4 := za (μ' := wm (wm (wm (wm μ 0 2 (ρ 2 21)) 0 5 (ρ 2 22)) 0 8 (ρ 2 1)) 0 9 (ρ 2 2)) (fun r hr => by rw [wm_r hr, wm_r hr, wm_r hr, wm_r hr])
  have h2' : mP n np' := fun j hj => h2 j (by omega)
  have hP8 : ∀ j, j < np' → μa (100 + 6 * j) 8 = ρ 2 (9 + j) ∧ Kd j ≤ 6 := fun j hj => by
    refine ⟨by rw [e0 _ (by omega)]; exact (hP j hj).2.2.1, ?_⟩
    rw [(h4 j (by omega)).2.2.2.2.2.2.1]
    exact (nn_N (by omega) (h5.2.2.2 j (by omega)).2.2.2.1).2
  obtain ⟨μ1, G, ⟨a1, a2⟩, a3⟩ := k_undl (Kd := Kd) (n := n) h1 h2' (f2.trans j3) hP8 j5 (by omega) np' 0 (999 - np') μa (by omega) ⟨fun _ _ => rfl, fun j hj => absurd hj (by omega)⟩
  have e100 : ∀ r, r < 100 → μ1 r = μa r := fun r hr => a1 r (fun j hj => by omega)
  obtain ⟨μ', b1, b2, b3, b4, b5, b6⟩ := k_undf (Kd := Kd) (n := n) (μ := μ1) h1 (by rw [e100 0 (by omega)]; exact f2.trans j3) G
  obtain ⟨ρ', c1, c2, c4⟩ := r_undl (z := ρ 2) 926 0 73 ρ (by omega) rfl (fun y hy => absurd hy (by omega))
  have g100 : ∀ r, r < 100 → r ≠ 0 → μ1 r = μ r := fun r h0 h1 => (e100 r h0).trans (e0 r h1)
  rw [g100 10 (by omega) (by omega), g100 12 (by omega) (by omega)] at b3
  rw [g100 13 (by omega) (by omega), g100 15 (by omega) (by omega)] at b4
  rw [g100 16 (by omega) (by omega), g100 18 (by omega) (by omega)] at b5
  rw [g100 19 (by omega) (by omega), g100 21 (by omega) (by omega)] at b6
  have eb : ∀ r, (0 < r ∧ r < 10 ∨ r = 12 ∨ r = 15 ∨ r = 18 ∨ (21 ≤ r ∧ r < 100)) → μ' r = μ r := fun r hr => (b2 r (by omega) (by omega) (by omega) (by omega) (by omega) (by omega) (by omega) (by omega)).trans (g100 r (by omega) (by omega))
  have eb0 : μ' 0 = μa 0 := (b2 0 (by omega) (by omega) (by omega) (by omega) (by omega) (by omega) (by omega) (by omega)).trans (e100 0 (by omega))
  have ep : ∀ r, 100 ≤ r → μ' r = μ1 r := fun r hr => b2 r (by omega) (by omega) (by omega) (by omega) (by omega) (by omega) (by omega) (by omega)
  have r2 : ρ' 2 = ρ 2 := c4 2 (by omega)
  have r9 : ρ' 9 = ρ 9 := c4 9 (by omega)
  have r0 : ρ' 0 = ρ 0 := c4 0 (by omega)
  have eT : ∀ m cl f t, m < 6 → tC μ m cl f t → tC μ' m cl f t := fun m cl f t hm ht => tC_c (fun r x y => eb r (by omega)) hm ht
  refine ⟨nI np', μ', ρ', ?_, ?_, ?_⟩
  · rw [hz, fm_b1_s, if_neg (show ¬ nI (min 2 2) = 0 by decide), C_r0 n15, c25, z0.1, fm_b1_s, C_p0, C_r0 n15, c25, z1.2.1, fm_b1_s, C_p0, C_r0 n15, c25, z2.2.2.1, fm_b1_s, C_p0, C_r0 n15, c25, z3.2.2.2.1, fm_b1_s, C_p0, C_r0 n15, c25, z4.2.2.2.2, fm_b1_s, C_p0, ma, R_let, show fm_LF = 999 - np' + np' + 1 by unfold fm_LF; omega]
    exact a3.trans b1
  · rw [i1, if_neg (by decide), R_let, show fm_LF = 73 + 926 + 1 from rfl]
    rw [j3] at c1
    exact c1
  · refine ⟨np', nt', ⟨h1, h2', ?_, fun j hj => ?_, rI_z c2 j5, (c2 21 (by omega)).trans j3, by omega⟩, ⟨holdR_z c2 j4, fun m hm => ?_, eT 5 _ _ _ (by omega) h10⟩, ?_, ⟨?_, ?_, ?_, ?_, ?_, ?_⟩, ⟨r, p1, by rw [r0]; exact p2, ?_, ?_⟩, Or.inr ⟨by rw [r0]; exact i1, by rw [eb 25 (by omega)]; exact i2, np', nt', ⟨Nat.le_refl _, Nat.le_refl _, by rw [r2]; exact j3, by rw [r2]; exact j4, by rw [r2]; exact j5⟩, ?_, fun j hj => ?_, fun m hm => ?_, ?_⟩⟩
    · unfold cA
      rw [eb0, c2 21 (by omega), c2 22 (by omega), c2 1 (by omega), c2 2 (by omega), c2 0 (by omega)]
      exact ⟨f2, f5, f8, f9, f10⟩
    · obtain ⟨d0, d1, d2, d3, d4, d5, d6, d7⟩ := h4 j (by omega)
      obtain ⟨g0, g1, g2, g3, g4⟩ := a2 j hj
      obtain ⟨w6, w7, w8, w28, w34, wT⟩ := hP j hj
      unfold cP
      rw [ep (100 + 6 * j) (by omega), ep (101 + 6 * j) (by omega), g0 0 (by omega) (by omega) (by omega), g0 1 (by omega) (by omega) (by omega), g0 2 (by omega) (by omega) (by omega), g1, g2, g3, e0 (100 + 6 * j) (by omega), d0, d1, d2, w6, w7, w8, c2 (28 + j) (by omega), c2 (34 + j) (by omega), c2 (15 + j) (by omega), c2 (3 + j) (by omega), c2 (9 + j) (by omega), w28, w34]
      refine ⟨rfl, rfl, rfl, rfl, rfl, rfl, d6, fun h x hx => ?_⟩
      rw [g4 (d6.trans h) x hx, e0 (102 + 6 * j) (by omega), wT h x hx, c2 _ (by omega)]
    · obtain ⟨cl, f, t, t1, e, t2, t3, t4, t5, t6, t7⟩ := h9 m (by omega)
      have hm5 : m < 5 := by have := h8.2.1; omega
      obtain ⟨u1, u2, u3, u4⟩ := hT m hm
      refine ⟨cl, f, t, eT m _ _ _ (by omega) t1, e, ?_, t3, clR_c _ _ _ (fun j a b => ?_) t4, ?_, ?_, t7⟩
      · rw [c2 _ (by omega), u3]; exact t2
      · obtain ⟨x, hx, rfl⟩ : ∃ x, x < 140 ∧ j = 226 + 140 * m + x := ⟨j - (226 + 140 * m), by omega, by omega⟩
        rw [c2 _ (by omega)]
        exact u4 x hx
      · rw [c2 _ (by omega), u1]; exact t5
      · rw [c2 _ (by omega), u2]; exact t6
    · rw [b3.2.1, b4.2.1, b5.2.1, b6.2.1]
      exact ⟨qTape_z c2 b3.2.2 q1, qSeen_z c2 b4.2.2 q2, qPlan_z c2 b5.2.2 q3, qBook_z c2 b6.2.2 q4⟩
    · rw [b3.1 0 (by omega)]; exact m0
    · rw [b4.1 0 (by omega)]; exact m1
    · rw [b5.1 0 (by omega)]; exact m2
    · rw [b6.1 0 (by omega)]; exact m3
    · rw [eb 22 (by omega)]; exact m4
    · rw [eb 25 (by omega)]; exact m5
    · rw [eb 22 (by omega)]; exact p3
    · rw [eb 23 (by omega), r9]; exact p4
    · rw [eb 26 (by omega), r2]
      exact ⟨k0, k1, k3, k4, k5⟩
    · obtain ⟨g0, g1, g2, g3, g4⟩ := a2 j hj
      obtain ⟨w6, w7, w8, w28, w34, wT⟩ := hP j hj
      rw [r2, ep (100 + 6 * j) (by omega), ep (102 + 6 * j) (by omega), g0 6 (by omega) (by omega) (by omega), g0 7 (by omega) (by omega) (by omega), g0 8 (by omega) (by omega) (by omega), e0 (100 + 6 * j) (by omega), a1 (102 + 6 * j) (fun i hi => by omega), e0 (102 + 6 * j) (by omega), c2 (28 + j) (by omega), c2 (34 + j) (by omega)]
      refine ⟨w6, w7, w8, rfl, rfl, fun h x hx => ?_⟩
      rw [w28] at h
      exact wT h x hx
    · rw [r2]
      have hm5 : m < 5 := by have := h8.2.1; omega
      exact ⟨(c2 _ (by omega)).symm, (c2 _ (by omega)).symm, (c2 _ (by omega)).symm, fun x hx => (c2 _ (by omega)).symm⟩
    · rw [r2, b3.1 4 (by omega), b4.1 4 (by omega), b5.1 4 (by omega), b6.1 4 (by omega), eb 12 (by omega), eb 15 (by omega), eb 18 (by omega), eb 21 (by omega)]
      exact ⟨q1, q2, q3, q4⟩
end X
