/-! CLASS AND REFERENCE say the same -/
def refT (s : Nat → Int32) (m : Nat) (cl : List Cl) (f t : Nat) : Prop := ∃ e, s (221 + m) = nI e ∧ e ≤ 140 ∧ clR s (226 + 140 * m) cl (226 + 140 * m + e) ∧ s (211 + m) = nI f ∧ s (216 + m) = nI t ∧ f < 100 ∧ t < 100
def qTape (c : Int32) (a s : Nat → Int32) : Prop := ∃ k, k ≤ 100 ∧ s 26 = nI k ∧ c = nI k ∧ ∀ x, x < k → a (3 * x) = s (111 + x) ∧ nn (s (111 + x)) 127
def qSeen (c : Int32) (a s : Nat → Int32) (np : Nat) : Prop := ∃ k, k ≤ 5 ∧ s 23 = nI k ∧ c = nI k ∧ ∀ x, x < k → (a (3 * x) = s (64 + x) ∧ a (3 * x + 1) = s (69 + x) ∧ a (3 * x + 2) = s (74 + x)) ∧ (∃ j, j < np ∧ s (64 + x) = nI j) ∧ nn (s (69 + x)) 20 ∧ nn (s (74 + x)) 4095
def qPlan (c : Int32) (a s : Nat → Int32) (np : Nat) : Prop := ∃ k, k ≤ 8 ∧ s 24 = nI k ∧ c = nI k ∧ ∀ x, x < k → (a (3 * x) = s (79 + x) ∧ a (3 * x + 1) = s (87 + x)) ∧ nn (s (79 + x)) 3 ∧ (s (79 + x) ≠ 0 → ∃ j, j < np ∧ s (87 + x) = nI j)
def qBook (c : Int32) (a s : Nat → Int32) (np : Nat) : Prop := ∃ k, k ≤ 8 ∧ s 25 = nI k ∧ c = nI k ∧ ∀ x, x < k → (a (3 * x) = s (95 + x) ∧ a (3 * x + 1) = s (103 + x)) ∧ (∃ j, j < np ∧ s (95 + x) = nI j)
def holdR (s : Nat → Int32) (nt : Nat) : Prop := s 22 = nI nt ∧ nt ≤ 5 ∧ s 27 = (if nt = 0 then (-1) else nI (nt - 1)) ∧ nn (s 2) 999999 ∧ N (s 0) ≤ 9999
/-- the IMAGE: z is the reference's row of it -/
def imgR (μ : Nat → Nat → Int32) (s z : Nat → Int32) (np nt : Nat) : Prop := ∃ np' nt', (np' ≤ np ∧ nt' ≤ nt ∧ z 21 = nI np' ∧ holdR z nt' ∧ rI z) ∧ (μ 26 0 = z 21 ∧ μ 26 1 = z 22 ∧ μ 26 3 = z 1 ∧ μ 26 4 = z 2 ∧ μ 26 5 = z 0) ∧ (∀ j, j < np' → μ (100 + 6 * j) 6 = z (15 + j) ∧ μ (100 + 6 * j) 7 = z (3 + j) ∧ μ (100 + 6 * j) 8 = z (9 + j) ∧ z (28 + j) = s (28 + j) ∧ z (34 + j) = s (34 + j) ∧ (N (s (28 + j)) = 6 → ∀ x, x < 4 → μ (102 + 6 * j) x = z (40 + 4 * j + x))) ∧ (∀ m, m < nt' → z (211 + m) = s (211 + m) ∧ z (216 + m) = s (216 + m) ∧ z (221 + m) = s (221 + m) ∧ ∀ x, x < 140 → z (226 + 140 * m + x) = s (226 + 140 * m + x)) ∧ (qTape (μ 10 4) (μ 12) z ∧ qSeen (μ 13 4) (μ 15) z np' ∧ qPlan (μ 16 4) (μ 18) z np' ∧ qBook (μ 19 4) (μ 21) z np')
def Rep (Kd : Nat → Nat) (μ : Nat → Nat → Int32) (n : Nat → Nat → Option Nat) (ρ : Nat → Nat → Int32) : Prop := ∃ np nt, (mN n ∧ mP n np ∧ cA μ (ρ 1) ∧ (∀ j, j < np → cP Kd μ (ρ 1) j) ∧ rI (ρ 1) ∧ ρ 1 21 = nI np ∧ np ≤ 6) ∧ (holdR (ρ 1) nt ∧ (∀ m, m < nt → ∃ cl f t, tC μ m cl f t ∧ refT (ρ 1) m cl f t) ∧ tC μ 5 [] 3 2) ∧ (qTape (μ 10 3) (μ 11) (ρ 1) ∧ qSeen (μ 13 3) (μ 14) (ρ 1) np ∧ qPlan (μ 16 3) (μ 17) (ρ 1) np ∧ qBook (μ 19 3) (μ 20) (ρ 1) np) ∧ (μ 10 0 = nI 100 ∧ μ 13 0 = nI 5 ∧ μ 16 0 = nI 8 ∧ μ 19 0 = nI 8 ∧ μ 22 0 = nI 20 ∧ μ 25 0 = nI 2) ∧ (∃ r, r < 1000 ∧ ρ 0 17 = nI r ∧ μ 22 3 = nI r ∧ ∀ x, x < r → x < 20 → μ 23 (3 * x) = ρ 9 x) ∧ ((ρ 0 4 = 0 ∧ μ 25 3 = nI 0) ∨ (ρ 0 4 = 1 ∧ μ 25 3 = nI 2 ∧ imgR μ (ρ 1) (ρ 2) np nt))
/-- what stays: the class but its courses, its reader, its pays; the reference but its rows in use -/
def kQ (μ : Nat → Nat → Int32) (n : Nat → Nat → Option Nat) (μ' : Nat → Nat → Int32) (n' : Nat → Nat → Option Nat) : Prop := (∀ r, (r < 100 ∨ (r - 100) % 6 < 3) → r ≠ 4 → r ≠ 30 → r ≠ 31 → μ' r = μ r) ∧ (∀ r k, (r < 100 ∨ (r - 100) % 6 < 3 ∨ k ≠ 1) → (r ≠ 30 ∨ k = 0) → n' r k = n r k)
theorem kQ_d {μ : Nat → Nat → Int32} {n : Nat → Nat → Option Nat} {μ' : Nat → Nat → Int32} {n' : Nat → Nat → Option Nat} (h : dQ μ n μ' n') : kQ μ n μ' n' := ⟨fun r hr _ _ _ => h.1 r hr, fun r k hr _ => h.2 r k hr⟩
def rK (ρ ρ' : Nat → Nat → Int32) : Prop := ρ' 1 = ρ 1 ∧ ρ' 2 = ρ 2 ∧ ρ' 9 = ρ 9 ∧ ρ' 0 4 = ρ 0 4 ∧ ρ' 0 17 = ρ 0 17
theorem rK_B {ρ ρ' : Nat → Nat → Int32} (h : rB ρ ρ') : rK ρ ρ' := ⟨h 1 (by omega) (by omega), h 2 (by omega) (by omega), h 9 (by omega) (by omega), by rw [h 0 (by omega) (by omega)], by rw [h 0 (by omega) (by omega)]⟩
theorem kQ_N {μ : Nat → Nat → Int32} {n : Nat → Nat → Option Nat} {μ' : Nat → Nat → Int32} {n' : Nat → Nat → Option Nat} (h : kQ μ n μ' n') (hn : mN n) : mN n' := by
  obtain ⟨⟨a1, a2, a3, a4, a5, a6, a7, a8, a9, a10, a11, a12⟩, b1, b2, b3, b4⟩ := hn
  have e : ∀ r k, r < 100 → r ≠ 30 → n' r k = n r k := fun r k hr h3 => h.2 r k (Or.inl hr) (Or.inl h3)
  refine ⟨⟨?_, ?_, ?_, ?_, ?_, ?_, ?_, ?_, ?_, ?_, ?_, ?_⟩, fun t ht => ?_, fun t ht => ?_, fun i hi => ?_, ?_⟩
  all_goals first
    | (rw [e _ _ (by omega) (by omega)]; assumption)
    | skip
  · rw [e _ _ (by omega) (by omega)]; exact b1 t ht
  · obtain ⟨c1, c2, c3, c4⟩ := b2 t ht
    unfold nT
    rw [e _ _ (by omega) (by omega), e _ _ (by omega) (by omega), e _ _ (by omega) (by omega), e _ _ (by omega) (by omega)]
    exact ⟨c1, c2, c3, c4⟩
  · rw [e _ _ (by omega) (by omega), e _ _ (by omega) (by omega)]; exact b3 i hi
  · rw [h.2 30 0 (Or.inl (by omega)) (Or.inr rfl)]; exact b4
theorem kQ_P {μ : Nat → Nat → Int32} {n : Nat → Nat → Option Nat} {μ' : Nat → Nat → Int32} {n' : Nat → Nat → Option Nat} {np : Nat} (h : kQ μ n μ' n') (hn : mP n np) : mP n' np := by
  intro j hj
  obtain ⟨a1, a2, c1, c2, c3, c4, c5, c6⟩ := hn j hj
  unfold nP
  rw [h.2 1 j (by omega) (by omega), h.2 2 j (by omega) (by omega), h.2 (100 + 6 * j) 9 (by omega) (by omega), h.2 (100 + 6 * j) 10 (by omega) (by omega), h.2 (100 + 6 * j) 11 (by omega) (by omega), h.2 (103 + 6 * j) 0 (by omega) (by omega), h.2 (103 + 6 * j) 8 (by omega) (by omega), h.2 (103 + 6 * j) 9 (by omega) (by omega)]
  exact ⟨a1, a2, c1, c2, c3, c4, c5, c6⟩
theorem Rep_k {Kd : Nat → Nat} {μ : Nat → Nat → Int32} {n : Nat → Nat → Option Nat} {μ' : Nat → Nat → Int32} {n' : Nat → Nat → Option Nat} {ρ ρ' : Nat → Nat → Int32} (h : kQ μ n μ' n') (hr : rK ρ ρ') (hR : Rep Kd μ n ρ) : Rep Kd μ' n' ρ' := by
  obtain ⟨np, nt, ⟨h1, h2, h3, h4, h5, h6, h7⟩, ⟨h8, h9, h10⟩, h11, h12, ⟨r, h13⟩, h14⟩ := hR
  obtain ⟨r1, r2, r9, r4, r17⟩ := hr
  have e : ∀ r, r < 100 → r ≠ 4 → r ≠ 30 → r ≠ 31 → μ' r = μ r := fun r a b c d => h.1 r (Or.inl a) b c d
  have eo : ∀ j, μ' (100 + 6 * j) = μ (100 + 6 * j) := fun j => h.1 _ (by omega) (by omega) (by omega) (by omega)
  have e1 : ∀ j, μ' (101 + 6 * j) = μ (101 + 6 * j) := fun j => h.1 _ (by omega) (by omega) (by omega) (by omega)
  have e2 : ∀ j, μ' (102 + 6 * j) = μ (102 + 6 * j) := fun j => h.1 _ (by omega) (by omega) (by omega) (by omega)
  have eT : ∀ m cl f t, m < 6 → tC μ m cl f t → tC μ' m cl f t := fun m cl f t hm ht => tC_c (fun r x y => e r y (by omega) (by omega) (by omega)) hm ht
  refine ⟨np, nt, ⟨kQ_N h h1, kQ_P h h2, ?_, fun j hj => ?_, ?_, ?_, h7⟩, ⟨?_, fun m hm => ?_, eT 5 _ _ _ (by omega) h10⟩, ?_, ?_, ⟨r, ?_⟩, ?_⟩
  · unfold cA
    rw [r1, e 0 (by omega) (by omega) (by omega) (by omega)]
    exact h3
  · unfold cP
    rw [r1, eo, e1]
    exact h4 j hj
  · rw [r1]; exact h5
  · rw [r1]; exact h6
  · rw [r1]; exact h8
  · obtain ⟨cl, f, t, t1, t2⟩ := h9 m hm
    exact ⟨cl, f, t, eT m _ _ _ (by have := h8.2.1; omega) t1, by rw [r1]; exact t2⟩
  · rw [r1, e 10 (by omega) (by omega) (by omega) (by omega), e 11 (by omega) (by omega) (by omega) (by omega), e 13 (by omega) (by omega) (by omega) (by omega), e 14 (by omega) (by omega) (by omega) (by omega), e 16 (by omega) (by omega) (by omega) (by omega), e 17 (by omega) (by omega) (by omega) (by omega), e 19 (by omega) (by omega) (by omega) (by omega), e 20 (by omega) (by omega) (by omega) (by omega)]
    exact h11
  · rw [e 10 (by omega) (by omega) (by omega) (by omega), e 13 (by omega) (by omega) (by omega) (by omega), e 16 (by omega) (by omega) (by omega) (by omega), e 19 (by omega) (by omega) (by omega) (by omega), e 22 (by omega) (by omega) (by omega) (by omega), e 25 (by omega) (by omega) (by omega) (by omega)]
    exact h12
  · rw [r17, r9, e 22 (by omega) (by omega) (by omega) (by omega), e 23 (by omega) (by omega) (by omega) (by omega)]
    exact h13
  · rw [r4, r2, r1, e 25 (by omega) (by omega) (by omega) (by omega)]
    unfold imgR
    simp only [eo, e2]
    rw [e 26 (by omega) (by omega) (by omega) (by omega), e 10 (by omega) (by omega) (by omega) (by omega), e 12 (by omega) (by omega) (by omega) (by omega), e 13 (by omega) (by omega) (by omega) (by omega), e 15 (by omega) (by omega) (by omega) (by omega), e 16 (by omega) (by omega) (by omega) (by omega), e 18 (by omega) (by omega) (by omega) (by omega), e 19 (by omega) (by omega) (by omega) (by omega), e 21 (by omega) (by omega) (by omega) (by omega)]
    exact h14
/-- the newest TOWN -/
theorem Rep_gen {Kd : Nat → Nat} {μ : Nat → Nat → Int32} {n : Nat → Nat → Option Nat} {ρ : Nat → Nat → Int32} (hR : Rep Kd μ n ρ) : ∃ np i cl f t, gen Kd μ n (ρ 1) np i cl f t ∧ N (ρ 1 0) ≤ 9999 := by
  obtain ⟨np, nt, ⟨h1, h2, h3, h4, h5, h6, h7⟩, ⟨⟨h8, h80, h81, h82, h83⟩, h9, h10⟩, _⟩ := hR
  by_cases h0 : nt = 0
  · subst h0
    exact ⟨np, 5, [], 3, 2, ⟨h1, h2, h3, h4, h5, h6, h7, Or.inl ⟨h81, rfl, rfl, rfl⟩, h10, Or.inl ⟨h8, rfl⟩⟩, h83⟩
  · obtain ⟨m, rfl⟩ : ∃ m, nt = m + 1 := ⟨nt - 1, by omega⟩
    obtain ⟨cl, f, t, t1, e, t2⟩ := h9 m (by omega)
    rw [if_neg h0] at h81
    exact ⟨np, m, cl, f, t, ⟨h1, h2, h3, h4, h5, h6, h7, Or.inr ⟨m, e, by omega, h81, t2⟩, t1, Or.inr ⟨by omega, h8⟩⟩, h83⟩
theorem in_c (x : Int32) {m : Nat} (hm : m < 2 ^ 31) : (decide (0 ≤ x) && decide (x ≤ nI m)) = false ∨ ∃ j, j ≤ m ∧ x = nI j ∧ (decide (0 ≤ x) && decide (x ≤ nI m)) = true := by
  by_cases h1 : x < 0
  · left
    rw [decide_eq_false (by simpa using h1)]
    rfl
  · obtain ⟨j, hj, rfl⟩ := nI_of h1
    by_cases h2 : j ≤ m
    · exact Or.inr ⟨j, h2, rfl, wi_T h2 hm⟩
    · left
      rw [decide_eq_false (show ¬ nI j ≤ nI m from nI_ge (by omega) hj), Bool.and_false]
theorem pane_c (x : Int32) {np : Nat} (hn : np ≤ 6) : (decide (0 ≤ x) && decide (x ≤ nI np - 1)) = false ∨ ∃ j, j < np ∧ x = nI j ∧ (decide (0 ≤ x) && decide (x ≤ nI np - 1)) = true := by
  by_cases h0 : np = 0
  · subst h0
    left
    by_cases h1 : 0 ≤ x
    · rw [decide_eq_false (show ¬ x ≤ nI 0 - 1 from fun h => absurd (Int32.le_trans h1 h) (by decide)), Bool.and_false]
    · rw [decide_eq_false h1]
      rfl
  · obtain ⟨m, rfl⟩ : ∃ m, np = m + 1 := ⟨np - 1, by omega⟩
    rw [nI_pred]
    rcases in_c x (m := m) (by omega) with h | ⟨j, h1, h2, h3⟩
    · exact Or.inl h
    · exact Or.inr ⟨j, by omega, h2, h3⟩
