/-! methods, both sides: row -/
section X
variable {Kd : Nat → Nat} {μ : Nat → Nat → Int32} {n : Nat → Nat → Option Nat} {ρ : Nat → Nat → Int32}
theorem Rep_place (hR : Rep Kd μ n ρ) {np j k : Nat} {x : Int32} (h21 : ρ 1 21 = nI np) (h6' : np ≤ 6) (hj : j < np) (hk : k < 4) (hx : nn x 9) : Rep Kd (wm μ (101 + 6 * j) k x) n (wm ρ 1 (40 + 4 * j + k) x) := by
  obtain ⟨np2, nt, ⟨h1, h2', h3, h4, h5, h6, h7⟩, ⟨⟨k1, k2, k3, k4, k5⟩, h9, h10⟩, ⟨t1, t2, t3, t4⟩, h12, ⟨r, h13⟩, h14⟩ := hR
  have hnp := np_eq (h6.symm.trans h21) h7 h6'
  subst hnp
  have hs : ∀ i, (i < 40 ∨ 64 ≤ i) → wm ρ 1 (40 + 4 * j + k) x 1 i = ρ 1 i := fun i hi => wm_k (by omega)
  have e : ∀ r, (∀ j, r ≠ 101 + 6 * j) → wm μ (101 + 6 * j) k x r = μ r := fun r hr => wm_r (hr j)
  have e1 : ∀ r, r < 100 → wm μ (101 + 6 * j) k x r = μ r := fun r hr => wm_r (by omega)
  have eT : ∀ m cl f t, m < 6 → tC μ m cl f t → tC (wm μ (101 + 6 * j) k x) m cl f t := fun m cl f t hm ht => tC_c (fun r x y => e1 r y) hm ht
  have er : ∀ r, r ≠ 1 → wm ρ 1 (40 + 4 * j + k) x r = ρ r := fun r hr => wm_r hr
  refine ⟨np2, nt, ⟨h1, h2', ?_, fun i hi => ?_, ?_, by rw [hs 21 (by omega)]; exact h6, h7⟩, ⟨⟨by rw [hs 22 (by omega)]; exact k1, k2, by rw [hs 27 (by omega)]; exact k3, by rw [hs 2 (by omega)]; exact k4, by rw [hs 0 (by omega)]; exact k5⟩, fun m hm => ?_, eT 5 _ _ _ (by omega) h10⟩, ⟨?_, ?_, ?_, ?_⟩, ?_, ⟨r, ?_⟩, ?_⟩
  · unfold cA
    rw [e1 0 (by omega), hs 21 (by omega), hs 22 (by omega), hs 1 (by omega), hs 2 (by omega), hs 0 (by omega)]
    exact h3
  · obtain ⟨q0, q1, q2, q3, q4, q5, q6, q7⟩ := h4 i hi
    unfold cP
    rw [e (100 + 6 * i) (fun j => by omega), hs (28 + i) (by omega), hs (34 + i) (by omega), hs (15 + i) (by omega), hs (3 + i) (by omega), hs (9 + i) (by omega)]
    refine ⟨q0, q1, q2, q3, q4, q5, q6, fun h y hy => ?_⟩
    by_cases hij : i = j ∧ y = k
    · obtain ⟨rfl, rfl⟩ := hij
      rw [wm_s, wm_s]
    · rw [wm_k (r := 1) (show 40 + 4 * i + y ≠ 40 + 4 * j + k by omega)]
      by_cases hij2 : i = j
      · subst hij2
        rw [wm_k (fun h => hij ⟨rfl, h⟩)]
        exact q7 h y hy
      · rw [wm_r (show 101 + 6 * i ≠ 101 + 6 * j by omega)]
        exact q7 h y hy
  · obtain ⟨a0, a1, a21, aP⟩ := h5
    refine ⟨by rw [hs 0 (by omega)]; exact a0, by rw [hs 1 (by omega)]; exact a1, by rw [hs 21 (by omega)]; exact a21, fun p hp => ?_⟩
    obtain ⟨b3, b9, b15, b28, b34, b40⟩ := aP p hp
    rw [hs (3 + p) (by omega), hs (9 + p) (by omega), hs (15 + p) (by omega), hs (28 + p) (by omega), hs (34 + p) (by omega)]
    refine ⟨b3, b9, b15, b28, b34, fun i hi => ?_⟩
    by_cases hij : 40 + 4 * p + i = 40 + 4 * j + k
    · rw [hij, wm_s]
      exact hx
    · rw [wm_k hij]
      exact b40 i hi
  · obtain ⟨cl, f, t, t1, e0, t2, t3, t4, t5, t6, t7⟩ := h9 m hm
    refine ⟨cl, f, t, eT m _ _ _ (by omega) t1, e0, ?_, t3, clR_c _ _ _ (fun j a b => hs j (by omega)) t4, ?_, ?_, t7⟩
    · rw [hs _ (by omega)]; exact t2
    · rw [hs _ (by omega)]; exact t5
    · rw [hs _ (by omega)]; exact t6
  · obtain ⟨k, a1, a2, a3, a4⟩ := t1
    refine ⟨k, a1, by rw [hs _ (by omega)]; exact a2, by rw [e1 10 (by omega)]; exact a3, fun x hx => ?_⟩
    rw [e1 11 (by omega), hs _ (by omega)]
    exact a4 x hx
  · obtain ⟨k, a1, a2, a3, a4⟩ := t2
    refine ⟨k, a1, by rw [hs _ (by omega)]; exact a2, by rw [e1 13 (by omega)]; exact a3, fun x hx => ?_⟩
    rw [e1 14 (by omega), hs (64 + x) (by omega), hs (69 + x) (by omega), hs (74 + x) (by omega)]
    exact a4 x hx
  · obtain ⟨k, a1, a2, a3, a4⟩ := t3
    refine ⟨k, a1, by rw [hs _ (by omega)]; exact a2, by rw [e1 16 (by omega)]; exact a3, fun x hx => ?_⟩
    rw [e1 17 (by omega), hs (79 + x) (by omega), hs (87 + x) (by omega)]
    exact a4 x hx
  · obtain ⟨k, a1, a2, a3, a4⟩ := t4
    refine ⟨k, a1, by rw [hs _ (by omega)]; exact a2, by rw [e1 19 (by omega)]; exact a3, fun x hx => ?_⟩
    rw [e1 20 (by omega), hs (95 + x) (by omega), hs (103 + x) (by omega)]
    exact a4 x hx
  · rw [e1 10 (by omega), e1 13 (by omega), e1 16 (by omega), e1 19 (by omega), e1 22 (by omega), e1 25 (by omega)]
    exact h12
  · rw [er 0 (by omega), er 9 (by omega), e1 22 (by omega), e1 23 (by omega)]
    exact h13
  · rw [er 0 (by omega), er 2 (by omega), e1 25 (by omega)]
    rcases h14 with h14 | ⟨i1, i2, np', nt', i3, i4, i5, i6, i7⟩
    · exact Or.inl h14
    · refine Or.inr ⟨i1, i2, np', nt', i3, ?_, fun i hi => ?_, fun m hm => ?_, ?_⟩
      · rw [e1 26 (by omega)]; exact i4
      · rw [e (100 + 6 * i) (fun j => by omega), e (102 + 6 * i) (fun j => by omega), hs (28 + i) (by omega), hs (34 + i) (by omega)]
        exact i5 i hi
      · obtain ⟨j1, j2, j3, j4⟩ := i6 m hm
        refine ⟨?_, ?_, ?_, fun x hx => ?_⟩
        · rw [hs _ (by omega)]; exact j1
        · rw [hs _ (by omega)]; exact j2
        · rw [hs _ (by omega)]; exact j3
        · rw [hs _ (by omega)]; exact j4 x hx
      · rw [e1 10 (by omega), e1 12 (by omega), e1 13 (by omega), e1 15 (by omega), e1 16 (by omega), e1 18 (by omega), e1 19 (by omega), e1 21 (by omega)]
        exact i7
end X
