/-! PANE: Rep after it -/
section NEWR
variable {Kd Kd' : Nat → Nat} {μ μ' : Nat → Nat → Int32} {n n' : Nat → Nat → Option Nat} {ρ ρ' : Nat → Nat → Int32} {np k v w : Nat}
theorem pw_T (s : Nat → Int32) (hp : np < 6) {c : Int32} {a : Nat → Int32} (h : qTape c a s) : qTape c a (paneW np k v w s) := by
  obtain ⟨q, h1, h2, h3, h4⟩ := h
  refine ⟨q, h1, ?_, h3, fun x hx => ?_⟩
  · rw [pw_lo s (by omega) (by omega) (by omega) (by omega) (by omega) (by omega) (by omega)]; exact h2
  · rw [pw_hi s hp (by omega)]; exact h4 x hx
theorem pw_S (s : Nat → Int32) (hp : np < 6) {c : Int32} {a : Nat → Int32} (h : qSeen c a s np) : qSeen c a (paneW np k v w s) (np + 1) := by
  obtain ⟨q, h1, h2, h3, h4⟩ := h
  refine ⟨q, h1, ?_, h3, fun x hx => ?_⟩
  · rw [pw_lo s (by omega) (by omega) (by omega) (by omega) (by omega) (by omega) (by omega)]; exact h2
  · obtain ⟨b1, ⟨j, b2, b3⟩, b4⟩ := h4 x hx
    rw [pw_hi s hp (by omega), pw_hi s hp (by omega), pw_hi s hp (by omega)]
    exact ⟨b1, ⟨j, by omega, b3⟩, b4⟩
theorem pw_P (s : Nat → Int32) (hp : np < 6) {c : Int32} {a : Nat → Int32} (h : qPlan c a s np) : qPlan c a (paneW np k v w s) (np + 1) := by
  obtain ⟨q, h1, h2, h3, h4⟩ := h
  refine ⟨q, h1, ?_, h3, fun x hx => ?_⟩
  · rw [pw_lo s (by omega) (by omega) (by omega) (by omega) (by omega) (by omega) (by omega)]; exact h2
  · obtain ⟨b1, b2, b3⟩ := h4 x hx
    rw [pw_hi s hp (by omega), pw_hi s hp (by omega)]
    refine ⟨b1, b2, fun h => ?_⟩
    obtain ⟨j, c1, c2⟩ := b3 h
    exact ⟨j, by omega, c2⟩
theorem pw_B (s : Nat → Int32) (hp : np < 6) {c : Int32} {a : Nat → Int32} (h : qBook c a s np) : qBook c a (paneW np k v w s) (np + 1) := by
  obtain ⟨q, h1, h2, h3, h4⟩ := h
  refine ⟨q, h1, ?_, h3, fun x hx => ?_⟩
  · rw [pw_lo s (by omega) (by omega) (by omega) (by omega) (by omega) (by omega) (by omega)]; exact h2
  · obtain ⟨b1, j, c1, c2⟩ := h4 x hx
    rw [pw_hi s hp (by omega), pw_hi s hp (by omega)]
    exact ⟨b1, j, by omega, c2⟩
theorem pw_t (s : Nat → Int32) (hp : np < 6) {m : Nat} {cl : List Cl} {f t : Nat} (h : refT s m cl f t) : refT (paneW np k v w s) m cl f t := by
  obtain ⟨e, h1, h2, h3, h4, h5, h6⟩ := h
  refine ⟨e, ?_, h2, clR_c _ _ _ (fun j hj _ => pw_hi s hp (by omega)) h3, ?_, ?_, h6⟩
  · rw [pw_hi s hp (by omega)]; exact h1
  · rw [pw_hi s hp (by omega)]; exact h4
  · rw [pw_hi s hp (by omega)]; exact h5
theorem Rep_new (hR : Rep Kd μ n ρ) (h21 : ρ 1 21 = nI np) (hp : np < 6) (hk : k ≤ 6) (hv : v ≤ 9) (hw : w ≤ 9) (hK : ∀ j, j < np → Kd' j = Kd j) (hKn : Kd' np = k)
    (hμ : ∀ r, r ≠ 0 → (r < 100 ∨ (r - 100) / 6 < np) → μ' r = μ r) (hμ0 : ∀ i, i ≠ 2 → μ' 0 i = μ 0 i) (hμ2 : μ' 0 2 = nI (np + 1))
    (ho : μ' (100 + 6 * np) 0 = nI k ∧ μ' (100 + 6 * np) 1 = nI np ∧ μ' (100 + 6 * np) 2 = nI v ∧ μ' (100 + 6 * np) 3 = nI w ∧ μ' (100 + 6 * np) 4 = 0 ∧ μ' (100 + 6 * np) 5 = 0) (hq : ∀ x, x < 4 → μ' (101 + 6 * np) x = 0)
    (hn : ∀ r i q, (r ≠ 1 ∨ i ≠ np) → (r ≠ 2 ∨ i ≠ np) → (r < 100 ∨ (r - 100) / 6 < np) → n r i = some q → (q < 100 ∨ (q - 100) / 6 < np) → n' r i = some q) (hn1 : n' 1 np = some (100 + 6 * np)) (hn2 : n' 2 np = some (103 + 6 * np)) (hnP : nP n' np)
    (hρ : ∀ r, r ≠ 1 → ρ' r = ρ r) (hρ1 : ρ' 1 = paneW np k v w (ρ 1)) : Rep Kd' μ' n' ρ' := by
  obtain ⟨np2, nt, ⟨a1, a2, a3, a4, a5, a6, a7⟩, ⟨b1, b2, b3⟩, ⟨c1, c2, c3, c4⟩, ⟨d1, d2, d3, d4, d5, d6⟩, ⟨r, e1, e2, e3, e4⟩, hI⟩ := hR
  have hnp := np_eq (a6.symm.trans h21) a7 (by omega)
  subst hnp
  have m0 : ∀ r, r ≠ 0 → r < 100 → μ' r = μ r := fun r h h2 => hμ r h (Or.inl h2)
  have mj : ∀ j x, j < np2 → x < 6 → μ' (100 + x + 6 * j) = μ (100 + x + 6 * j) := fun j x h hx => hμ _ (by omega) (Or.inr (by omega))
  have n0 : ∀ r i q, r ≠ 1 → r ≠ 2 → r < 100 → n r i = some q → q < 100 → n' r i = some q := fun r i q h1 h2 h3 h4 h5 => hn r i q (Or.inl h1) (Or.inl h2) (Or.inl h3) h4 (Or.inl h5)
  refine ⟨np2 + 1, nt, ⟨?_, ?_, ?_, ?_, ?_, ?_, by omega⟩, ⟨?_, ?_, ?_⟩, ⟨?_, ?_, ?_, ?_⟩, ?_, ⟨r, e1, ?_, ?_, ?_⟩, ?_⟩
  · obtain ⟨⟨f1, f2, f3, f4, f5, f6, f7, f8, f9, f10, f11, f12⟩, g1, g2, g3, g4⟩ := a1
    refine ⟨⟨?_, ?_, ?_, ?_, ?_, ?_, ?_, ?_, ?_, ?_, ?_, ?_⟩, fun t ht => ?_, fun t ht => ?_, fun i hi => ?_, ?_⟩
    all_goals first
      | (exact n0 _ _ _ (by omega) (by omega) (by omega) (by assumption) (by omega))
      | skip
    · exact n0 _ _ _ (by omega) (by omega) (by omega) (g1 t ht) (by omega)
    · obtain ⟨c1, c2, c3, c4⟩ := g2 t ht
      exact ⟨n0 _ _ _ (by omega) (by omega) (by omega) c1 (by omega), n0 _ _ _ (by omega) (by omega) (by omega) c2 (by omega), n0 _ _ _ (by omega) (by omega) (by omega) c3 (by omega), n0 _ _ _ (by omega) (by omega) (by omega) c4 (by omega)⟩
    · obtain ⟨c1, c2⟩ := g3 i hi
      exact ⟨n0 _ _ _ (by omega) (by omega) (by omega) c1 (by omega), n0 _ _ _ (by omega) (by omega) (by omega) c2 (by omega)⟩
  · intro j hj
    by_cases e : j = np2
    · subst e
      exact ⟨hn1, hn2, hnP⟩
    · obtain ⟨f1, f2, g1, g2, g3, g4, g5, g6⟩ := a2 j (by omega)
      refine ⟨hn _ _ _ (Or.inr e) (Or.inl (by omega)) (Or.inl (by omega)) f1 (Or.inr (by omega)), hn _ _ _ (Or.inl (by omega)) (Or.inr e) (Or.inl (by omega)) f2 (Or.inr (by omega)), ?_, ?_, ?_, ?_, ?_, ?_⟩
      · exact hn _ _ _ (Or.inl (by omega)) (Or.inl (by omega)) (Or.inr (by omega)) g1 (Or.inl (by omega))
      · exact hn _ _ _ (Or.inl (by omega)) (Or.inl (by omega)) (Or.inr (by omega)) g2 (Or.inr (by omega))
      · exact hn _ _ _ (Or.inl (by omega)) (Or.inl (by omega)) (Or.inr (by omega)) g3 (Or.inr (by omega))
      · exact hn _ _ _ (Or.inl (by omega)) (Or.inl (by omega)) (Or.inr (by omega)) g4 (Or.inr (by omega))
      · exact hn _ _ _ (Or.inl (by omega)) (Or.inl (by omega)) (Or.inr (by omega)) g5 (Or.inr (by omega))
      · exact hn _ _ _ (Or.inl (by omega)) (Or.inl (by omega)) (Or.inr (by omega)) g6 (Or.inr (by omega))
  · obtain ⟨f1, f2, f3, f4, f5⟩ := a3
    unfold cA
    rw [hρ1, pw_21, hμ2, hμ0 5 (by omega), hμ0 8 (by omega), hμ0 9 (by omega), hμ0 10 (by omega), pw_lo (i := 22) _ (by omega) (by omega) (by omega) (by omega) (by omega) (by omega) (by omega), pw_lo (i := 1) _ (by omega) (by omega) (by omega) (by omega) (by omega) (by omega) (by omega), pw_lo (i := 2) _ (by omega) (by omega) (by omega) (by omega) (by omega) (by omega) (by omega), pw_lo (i := 0) _ (by omega) (by omega) (by omega) (by omega) (by omega) (by omega) (by omega)]
    exact ⟨rfl, f2, f3, f4, f5⟩
  · intro j hj
    rw [hρ1]
    by_cases e : j = np2
    · subst e
      obtain ⟨o0, o1, o2, o3, o4, o5⟩ := ho
      refine ⟨?_, o1, ?_, ?_, ?_, ?_, ?_, fun _ x hx => ?_⟩
      · rw [o0, pw_28 _ hp]
      · rw [o2, pw_34 _ hp]
      · rw [o3, pw_15 _ hp]
      · rw [o4, pw_z _ hp (by omega)]
      · rw [o5, pw_z _ hp (by omega)]
      · rw [hKn, pw_28 _ hp]; exact (N_nI (by omega)).symm
      · rw [hq x hx, pw_z _ hp (by omega)]
    · obtain ⟨o0, o1, o2, o3, o4, o5, o6, o7⟩ := a4 j (by omega)
      have ej := mj j 0 (by omega) (by omega)
      have ej1 := mj j 1 (by omega) (by omega)
      unfold cP
      rw [show μ' (100 + 6 * j) = μ (100 + 6 * j) from ej, show μ' (101 + 6 * j) = μ (101 + 6 * j) from ej1, hK j (by omega), pw_o (x := 0) _ hp e (by omega) (by omega), pw_o (x := 0) _ hp e (by omega) (by omega), pw_o (x := 0) _ hp e (by omega) (by omega), pw_o (x := 0) _ hp e (by omega) (by omega), pw_o (x := 0) _ hp e (by omega) (by omega)]
      refine ⟨o0, o1, o2, o3, o4, o5, o6, fun h x hx => ?_⟩
      rw [pw_q _ hp e (by omega) hx]
      exact o7 h x hx
  · rw [hρ1]; exact pw_I a5 hp hk hv hw
  · rw [hρ1]; exact pw_21 _
  · obtain ⟨f1, f2, f3, f4, f5⟩ := b1
    unfold holdR
    rw [hρ1, pw_lo (i := 22) _ (by omega) (by omega) (by omega) (by omega) (by omega) (by omega) (by omega), pw_lo (i := 27) _ (by omega) (by omega) (by omega) (by omega) (by omega) (by omega) (by omega), pw_lo (i := 2) _ (by omega) (by omega) (by omega) (by omega) (by omega) (by omega) (by omega), pw_lo (i := 0) _ (by omega) (by omega) (by omega) (by omega) (by omega) (by omega) (by omega)]
    exact ⟨f1, f2, f3, f4, f5⟩
  · intro m hm
    obtain ⟨cl, f, t, g1, g2⟩ := b2 m hm
    have hm5 : m < 5 := by have := b1.2.1; omega
    refine ⟨cl, f, t, ?_, by rw [hρ1]; exact pw_t _ hp g2⟩
    unfold tC
    rw [m0 _ (by omega) (by omega), m0 (43 + 5 * m) (by omega) (by omega), m0 (44 + 5 * m) (by omega) (by omega), m0 (42 + 5 * m) (by omega) (by omega), m0 (41 + 5 * m) (by omega) (by omega)]
    exact g1
  · unfold tC
    rw [m0 _ (by omega) (by omega), m0 (43 + 5 * 5) (by omega) (by omega), m0 (44 + 5 * 5) (by omega) (by omega), m0 (42 + 5 * 5) (by omega) (by omega), m0 (41 + 5 * 5) (by omega) (by omega)]
    exact b3
  · rw [m0 10 (by omega) (by omega), m0 11 (by omega) (by omega), hρ1]; exact pw_T _ hp c1
  · rw [m0 13 (by omega) (by omega), m0 14 (by omega) (by omega), hρ1]; exact pw_S _ hp c2
  · rw [m0 16 (by omega) (by omega), m0 17 (by omega) (by omega), hρ1]; exact pw_P _ hp c3
  · rw [m0 19 (by omega) (by omega), m0 20 (by omega) (by omega), hρ1]; exact pw_B _ hp c4
  · rw [m0 10 (by omega) (by omega), m0 13 (by omega) (by omega), m0 16 (by omega) (by omega), m0 19 (by omega) (by omega), m0 22 (by omega) (by omega), m0 25 (by omega) (by omega)]
    exact ⟨d1, d2, d3, d4, d5, d6⟩
  · rw [hρ 0 (by omega)]; exact e2
  · rw [m0 22 (by omega) (by omega)]; exact e3
  · rw [m0 23 (by omega) (by omega), hρ 9 (by omega)]; exact e4
  · rw [hρ 0 (by omega), hρ 2 (by omega), m0 25 (by omega) (by omega)]
    rcases hI with hI | ⟨i1, i2, np', nt', ⟨j1, j2, j3, j4, j5⟩, j6, j7, j8, j9⟩
    · exact Or.inl hI
    · refine Or.inr ⟨i1, i2, np', nt', ⟨by omega, j2, j3, j4, j5⟩, ?_, fun j hj => ?_, fun m hm => ?_, ?_⟩
      · rw [m0 26 (by omega) (by omega)]; exact j6
      · have e : j ≠ np2 := by omega
        have ej := mj j 0 (by omega) (by omega)
        have ej2 := mj j 2 (by omega) (by omega)
        rw [show μ' (100 + 6 * j) = μ (100 + 6 * j) from ej, show μ' (102 + 6 * j) = μ (102 + 6 * j) from ej2, hρ1, pw_o (x := 0) _ hp e (by omega) (by omega), pw_o (x := 0) _ hp e (by omega) (by omega)]
        exact j7 j hj
      · obtain ⟨f1, f2, f3, f4⟩ := j8 m hm
        rw [hρ1, pw_hi _ hp (by omega), pw_hi _ hp (by omega), pw_hi _ hp (by omega)]
        refine ⟨f1, f2, f3, fun x hx => ?_⟩
        rw [pw_hi _ hp (by omega)]
        exact f4 x hx
      · rw [m0 10 (by omega) (by omega), m0 12 (by omega) (by omega), m0 13 (by omega) (by omega), m0 15 (by omega) (by omega), m0 16 (by omega) (by omega), m0 18 (by omega) (by omega), m0 19 (by omega) (by omega), m0 21 (by omega) (by omega)]
        exact j9
end NEWR
