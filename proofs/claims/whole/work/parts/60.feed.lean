/-! methods, both sides: feed; how Rep stays when rows of numbers change -/
section X
variable {Kd : Nat → Nat} {μ μ' : Nat → Nat → Int32} {n : Nat → Nat → Option Nat} {ρ ρ' : Nat → Nat → Int32}
theorem Rep_row (hR : Rep Kd μ n ρ) (hμ : ∀ r, r ≠ 10 → r ≠ 11 → r ≠ 13 → r ≠ 14 → r ≠ 16 → r ≠ 17 → r ≠ 19 → r ≠ 20 → μ' r = μ r) (h04 : ∀ r, (r = 10 ∨ r = 13 ∨ r = 16 ∨ r = 19) → ∀ k, k ≠ 3 → μ' r k = μ r k) (hs : ∀ j, (j < 23 ∨ (27 ≤ j ∧ j < 64) ∨ 211 ≤ j) → ρ' 1 j = ρ 1 j) (hr : ρ' 2 = ρ 2 ∧ ρ' 9 = ρ 9 ∧ ρ' 0 4 = ρ 0 4 ∧ ρ' 0 17 = ρ 0 17) (hq : ∀ np, ρ 1 21 = nI np → np ≤ 6 → qTape (μ' 10 3) (μ' 11) (ρ' 1) ∧ qSeen (μ' 13 3) (μ' 14) (ρ' 1) np ∧ qPlan (μ' 16 3) (μ' 17) (ρ' 1) np ∧ qBook (μ' 19 3) (μ' 20) (ρ' 1) np) : Rep Kd μ' n ρ' := by
  obtain ⟨np, nt, ⟨h1, h2', h3, h4, h5, h6, h7⟩, ⟨⟨k1, k2, k3, k4, k5⟩, h9, h10⟩, _, ⟨m0, m1, m2, m3, m4, m5⟩, ⟨r, h13⟩, h14⟩ := hR
  obtain ⟨r2, r9, r4, r17⟩ := hr
  have e : ∀ r, (r < 10 ∨ 21 ≤ r ∨ r = 12 ∨ r = 15 ∨ r = 18) → μ' r = μ r := fun r h => hμ r (by omega) (by omega) (by omega) (by omega) (by omega) (by omega) (by omega) (by omega)
  have eT : ∀ m cl f t, m < 6 → tC μ m cl f t → tC μ' m cl f t := fun m cl f t hm ht => tC_c (fun r x y => e r (by omega)) hm ht
  have z : ∀ r, (r = 10 ∨ r = 13 ∨ r = 16 ∨ r = 19) → μ' r 0 = μ r 0 ∧ μ' r 4 = μ r 4 := fun r h => ⟨h04 r h 0 (by omega), h04 r h 4 (by omega)⟩
  refine ⟨np, nt, ⟨h1, h2', ?_, fun j hj => ?_, ?_, by rw [hs 21 (by omega)]; exact h6, h7⟩, ⟨⟨by rw [hs 22 (by omega)]; exact k1, k2, by rw [hs 27 (by omega)]; exact k3, by rw [hs 2 (by omega)]; exact k4, by rw [hs 0 (by omega)]; exact k5⟩, fun m hm => ?_, eT 5 _ _ _ (by omega) h10⟩, hq np h6 h7, ⟨by rw [(z 10 (by omega)).1]; exact m0, by rw [(z 13 (by omega)).1]; exact m1, by rw [(z 16 (by omega)).1]; exact m2, by rw [(z 19 (by omega)).1]; exact m3, by rw [e 22 (by omega)]; exact m4, by rw [e 25 (by omega)]; exact m5⟩, ⟨r, ?_⟩, ?_⟩
  · unfold cA
    rw [e 0 (by omega), hs 21 (by omega), hs 22 (by omega), hs 1 (by omega), hs 2 (by omega), hs 0 (by omega)]
    exact h3
  · obtain ⟨q0, q1, q2, q3, q4, q5, q6, q7⟩ := h4 j hj
    unfold cP
    rw [e (100 + 6 * j) (by omega), e (101 + 6 * j) (by omega), hs (28 + j) (by omega), hs (34 + j) (by omega), hs (15 + j) (by omega), hs (3 + j) (by omega), hs (9 + j) (by omega)]
    refine ⟨q0, q1, q2, q3, q4, q5, q6, fun h x hx => ?_⟩
    rw [hs (40 + 4 * j + x) (by omega)]
    exact q7 h x hx
  · obtain ⟨a0, a1, a21, aP⟩ := h5
    refine ⟨by rw [hs 0 (by omega)]; exact a0, by rw [hs 1 (by omega)]; exact a1, by rw [hs 21 (by omega)]; exact a21, fun p hp => ?_⟩
    obtain ⟨b3, b9, b15, b28, b34, b40⟩ := aP p hp
    rw [hs (3 + p) (by omega), hs (9 + p) (by omega), hs (15 + p) (by omega), hs (28 + p) (by omega), hs (34 + p) (by omega)]
    exact ⟨b3, b9, b15, b28, b34, fun i hi => by rw [hs (40 + 4 * p + i) (by omega)]; exact b40 i hi⟩
  · obtain ⟨cl, f, t, t1, e0, t2, t3, t4, t5, t6, t7⟩ := h9 m hm
    refine ⟨cl, f, t, eT m _ _ _ (by omega) t1, e0, ?_, t3, clR_c _ _ _ (fun j a b => hs j (by omega)) t4, ?_, ?_, t7⟩
    · rw [hs _ (by omega)]; exact t2
    · rw [hs _ (by omega)]; exact t5
    · rw [hs _ (by omega)]; exact t6
  · rw [r17, r9, e 22 (by omega), e 23 (by omega)]
    exact h13
  · rw [r4, r2, e 25 (by omega)]
    rcases h14 with h14 | ⟨i1, i2, np', nt', i3, i4, i5, i6, i7⟩
    · exact Or.inl h14
    · refine Or.inr ⟨i1, i2, np', nt', i3, ?_, fun j hj => ?_, fun m hm => ?_, ?_⟩
      · rw [e 26 (by omega)]; exact i4
      · rw [e (100 + 6 * j) (by omega), e (102 + 6 * j) (by omega), hs (28 + j) (by omega), hs (34 + j) (by omega)]
        exact i5 j hj
      · obtain ⟨j1, j2, j3, j4⟩ := i6 m hm
        refine ⟨?_, ?_, ?_, fun x hx => ?_⟩
        · rw [hs _ (by omega)]; exact j1
        · rw [hs _ (by omega)]; exact j2
        · rw [hs _ (by omega)]; exact j3
        · rw [hs _ (by omega)]; exact j4 x hx
      · rw [(z 10 (by omega)).2, (z 13 (by omega)).2, (z 16 (by omega)).2, (z 19 (by omega)).2, e 12 (by omega), e 15 (by omega), e 18 (by omega), e 21 (by omega)]
        exact i7
end X
