/-! methods, both sides: image -/
section X
variable {Kd : Nat → Nat} {μ : Nat → Nat → Int32} {n : Nat → Nat → Option Nat} {ρ : Nat → Nat → Int32}
theorem x_image (hR : Rep Kd μ n ρ) : ∃ r μ' ρ', m_X11_image (kC Kd) lC 0 (μ, n) = some (r, (μ', n)) ∧ m_X12_image kR lR 0 (ρ, nR) = some (r, (ρ', nR)) ∧ Rep Kd μ' n ρ' := by
  obtain ⟨np, nt, ⟨h1, h2, h3, h4, h5, h6, h7⟩, ⟨h8, h9, h10⟩, ⟨q1, q2, q3, q4⟩, ⟨m0, m1, m2, m3, m4, m5⟩, ⟨r, p1, p2, p3, p4⟩, h14⟩ := hR
  have hA : μ 0 2 = nI np := h3.1.trans h6
  obtain ⟨μ1, G, ⟨a1, a2⟩, a3⟩ := k_imgl (Kd := Kd) (n := n) h1 h2 hA h4 h5 h7 np 0 (999 - np) μ (by omega) ⟨fun _ _ => rfl, fun j hj => absurd hj (by omega)⟩
  have e100 : ∀ r, r < 100 → μ1 r = μ r := fun r hr => a1 r (fun j hj => by omega)
  obtain ⟨μ', b1, b2, b3, b4, b5, b6, b7, b8⟩ := k_imgf (Kd := Kd) (n := n) (μ := μ1) h1 (by rw [e100 0 (by omega)]; exact hA) (by rw [e100 25 (by omega)]; exact m5) G
  obtain ⟨ρ', c1, c2, c3, c4, c5⟩ := r_imgl (s := ρ 1) 926 0 73 ρ (by omega) rfl (fun y hy => absurd hy (by omega))
  rw [e100 0 (by omega)] at b8
  rw [e100 10 (by omega), e100 11 (by omega)] at b3
  rw [e100 13 (by omega), e100 14 (by omega)] at b4
  rw [e100 16 (by omega), e100 17 (by omega)] at b5
  rw [e100 19 (by omega), e100 20 (by omega)] at b6
  rw [e100 25 (by omega)] at b7
  have eb : ∀ r, (r < 10 ∨ r = 11 ∨ r = 14 ∨ r = 17 ∨ r = 20 ∨ (22 ≤ r ∧ r < 25) ∨ (27 ≤ r ∧ r < 100)) → μ' r = μ r := fun r hr => (b2 r (by omega) (by omega) (by omega) (by omega) (by omega) (by omega) (by omega) (by omega) (by omega) (by omega)).trans (e100 r (by omega))
  have ep : ∀ r, 100 ≤ r → μ' r = μ1 r := fun r hr => b2 r (by omega) (by omega) (by omega) (by omega) (by omega) (by omega) (by omega) (by omega) (by omega) (by omega)
  have r1 : ρ' 1 = ρ 1 := c4 1 (by omega) (by omega)
  have r9 : ρ' 9 = ρ 9 := c4 9 (by omega) (by omega)
  have r17 : ρ' 0 17 = ρ 0 17 := c5 17 (by omega)
  have eT : ∀ m cl f t, m < 6 → tC μ m cl f t → tC μ' m cl f t := fun m cl f t hm ht => tC_c (fun r x y => eb r (by omega)) hm ht
  obtain ⟨n21, n22, n1, n2, n0⟩ := h3
  refine ⟨nI np, μ', ρ', ?_, ?_, ?_⟩
  · unfold m_X11_image
    rw [R_let, show fm_LF = 999 - np + np + 1 by unfold fm_LF; omega]
    exact a3.trans b1
  · unfold m_X12_image
    rw [R_let, show fm_LF = 73 + 926 + 1 from rfl]
    rw [h6] at c1
    exact c1
  · refine ⟨np, nt, ⟨h1, h2, ?_, fun j hj => ?_, ?_, ?_, h7⟩, ⟨?_, fun m hm => ?_, eT 5 _ _ _ (by omega) h10⟩, ?_, ⟨?_, ?_, ?_, ?_, ?_, ?_⟩, ⟨r, p1, r17.trans p2, ?_, ?_⟩, Or.inr ⟨c3, b7.2, np, nt, ⟨Nat.le_refl _, Nat.le_refl _, (c2 21 (by omega)).trans h6, holdR_z c2 h8, rI_z c2 h5⟩, ?_, fun j hj => ?_, fun m hm => ?_, ?_⟩⟩
    · unfold cA
      rw [r1, eb 0 (by omega)]
      exact ⟨n21, n22, n1, n2, n0⟩
    · obtain ⟨d0, d1, d2, d3, d4, d5, d6, d7⟩ := h4 j hj
      obtain ⟨f0, f1, f2, f3, f4⟩ := a2 j hj
      unfold cP
      rw [r1, ep (100 + 6 * j) (by omega), ep (101 + 6 * j) (by omega), f0 0 (by omega) (by omega) (by omega), f0 1 (by omega) (by omega) (by omega), f0 2 (by omega) (by omega) (by omega), f0 3 (by omega) (by omega) (by omega), f0 4 (by omega) (by omega) (by omega), f0 5 (by omega) (by omega) (by omega), a1 (101 + 6 * j) (fun i hi => by omega)]
      exact ⟨d0, d1, d2, d3, d4, d5, d6, d7⟩
    · rw [r1]; exact h5
    · rw [r1]; exact h6
    · rw [r1]; exact h8
    · obtain ⟨cl, f, t, t1, t2⟩ := h9 m hm
      exact ⟨cl, f, t, eT m _ _ _ (by have := h8.2.1; omega) t1, by rw [r1]; exact t2⟩
    · rw [r1, b3.1 3 (by omega), b4.1 3 (by omega), b5.1 3 (by omega), b6.1 3 (by omega), eb 11 (by omega), eb 14 (by omega), eb 17 (by omega), eb 20 (by omega)]
      exact ⟨q1, q2, q3, q4⟩
    · rw [b3.1 0 (by omega)]; exact m0
    · rw [b4.1 0 (by omega)]; exact m1
    · rw [b5.1 0 (by omega)]; exact m2
    · rw [b6.1 0 (by omega)]; exact m3
    · rw [eb 22 (by omega)]; exact m4
    · rw [b7.1]; exact m5
    · rw [eb 22 (by omega)]; exact p3
    · rw [eb 23 (by omega), r9]; exact p4
    · obtain ⟨f0, f1, f2, f3, f4⟩ := b8
      rw [f0, f1, f2, f3, f4, c2 21 (by omega), c2 22 (by omega), c2 1 (by omega), c2 2 (by omega), c2 0 (by omega)]
      exact ⟨n21, n22, n1, n2, n0⟩
    · obtain ⟨d0, d1, d2, d3, d4, d5, d6, d7⟩ := h4 j hj
      obtain ⟨f0, f1, f2, f3, f4⟩ := a2 j hj
      rw [r1, ep (100 + 6 * j) (by omega), ep (102 + 6 * j) (by omega), f1, f2, f3, d3, d4, d5, c2 _ (by omega), c2 _ (by omega), c2 _ (by omega), c2 _ (by omega), c2 _ (by omega)]
      refine ⟨rfl, rfl, rfl, rfl, rfl, fun h x hx => ?_⟩
      rw [f4 (d6.trans h) x hx, d7 h x hx, c2 _ (by omega)]
    · have hm5 : m < 5 := by have := h8.2.1; omega
      rw [r1]
      exact ⟨c2 _ (by omega), c2 _ (by omega), c2 _ (by omega), fun x hx => c2 _ (by omega)⟩
    · rw [b3.2.1, b4.2.1, b5.2.1, b6.2.1]
      exact ⟨qTape_z c2 b3.2.2 q1, qSeen_z c2 b4.2.2 q2, qPlan_z c2 b5.2.2 q3, qBook_z c2 b6.2.2 q4⟩
end X
