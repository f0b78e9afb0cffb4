/-! methods, both sides: of, grows, told, on -/
theorem Rep_lo {Kd : Nat → Nat} {μ μ' : Nat → Nat → Int32} {n : Nat → Nat → Option Nat} {ρ ρ' : Nat → Nat → Int32} (hR : Rep Kd μ n ρ) (hμ : ∀ r, r ≠ 0 → (∀ j, r ≠ 100 + 6 * j) → μ' r = μ r) (hp : ∀ j k, 6 ≤ k → μ' (100 + 6 * j) k = μ (100 + 6 * j) k) (hs : ∀ j, 21 ≤ j → ρ' 1 j = ρ 1 j) (hr : ρ' 2 = ρ 2 ∧ ρ' 9 = ρ 9 ∧ ρ' 0 4 = ρ 0 4 ∧ ρ' 0 17 = ρ 0 17) (hI : rI (ρ' 1)) (hA : cA μ' (ρ' 1)) (hP : ∀ np, ρ 1 21 = nI np → np ≤ 6 → ∀ j, j < np → cP Kd μ' (ρ' 1) j) (h2 : nn (ρ' 1 2) 999999) (h0 : N (ρ' 1 0) ≤ 9999) : Rep Kd μ' n ρ' := by
  obtain ⟨np, nt, ⟨h1, h2', h3, h4, h5, h6, h7⟩, ⟨⟨k1, k2, k3, k4, k5⟩, h9, h10⟩, ⟨t1, t2, t3, t4⟩, h12, ⟨r, h13⟩, h14⟩ := hR
  obtain ⟨r2, r9, r4, r17⟩ := hr
  have e : ∀ r, r < 100 → r ≠ 0 → μ' r = μ r := fun r a b => hμ r b (fun j => by omega)
  have e2 : ∀ j, μ' (102 + 6 * j) = μ (102 + 6 * j) := fun j => hμ _ (by omega) (fun j => by omega)
  have eT : ∀ m cl f t, m < 6 → tC μ m cl f t → tC μ' m cl f t := fun m cl f t hm ht => tC_c (fun r x y => e r y (by omega)) hm ht
  refine ⟨np, nt, ⟨h1, h2', hA, hP np h6 h7, hI, by rw [hs 21 (by omega)]; exact h6, h7⟩, ⟨⟨by rw [hs 22 (by omega)]; exact k1, k2, by rw [hs 27 (by omega)]; exact k3, h2, h0⟩, fun m hm => ?_, eT 5 _ _ _ (by omega) h10⟩, ⟨?_, ?_, ?_, ?_⟩, ?_, ⟨r, ?_⟩, ?_⟩
  · obtain ⟨cl, f, t, t1, e0, t2, t3, t4, t5, t6, t7⟩ := h9 m hm
    refine ⟨cl, f, t, eT m _ _ _ (by omega) t1, e0, ?_, t3, clR_c _ _ _ (fun j a b => hs j (by omega)) t4, ?_, ?_, t7⟩
    · rw [hs _ (by omega)]; exact t2
    · rw [hs _ (by omega)]; exact t5
    · rw [hs _ (by omega)]; exact t6
  · obtain ⟨k, a1, a2, a3, a4⟩ := t1
    refine ⟨k, a1, by rw [hs _ (by omega)]; exact a2, by rw [e 10 (by omega) (by omega)]; exact a3, fun x hx => ?_⟩
    rw [e 11 (by omega) (by omega), hs _ (by omega)]
    exact a4 x hx
  · obtain ⟨k, a1, a2, a3, a4⟩ := t2
    refine ⟨k, a1, by rw [hs _ (by omega)]; exact a2, by rw [e 13 (by omega) (by omega)]; exact a3, fun x hx => ?_⟩
    rw [e 14 (by omega) (by omega), hs (64 + x) (by omega), hs (69 + x) (by omega), hs (74 + x) (by omega)]
    exact a4 x hx
  · obtain ⟨k, a1, a2, a3, a4⟩ := t3
    refine ⟨k, a1, by rw [hs _ (by omega)]; exact a2, by rw [e 16 (by omega) (by omega)]; exact a3, fun x hx => ?_⟩
    rw [e 17 (by omega) (by omega), hs (79 + x) (by omega), hs (87 + x) (by omega)]
    exact a4 x hx
  · obtain ⟨k, a1, a2, a3, a4⟩ := t4
    refine ⟨k, a1, by rw [hs _ (by omega)]; exact a2, by rw [e 19 (by omega) (by omega)]; exact a3, fun x hx => ?_⟩
    rw [e 20 (by omega) (by omega), hs (95 + x) (by omega), hs (103 + x) (by omega)]
    exact a4 x hx
  · rw [e 10 (by omega) (by omega), e 13 (by omega) (by omega), e 16 (by omega) (by omega), e 19 (by omega) (by omega), e 22 (by omega) (by omega), e 25 (by omega) (by omega)]
    exact h12
  · rw [r17, r9, e 22 (by omega) (by omega), e 23 (by omega) (by omega)]
    exact h13
  · rw [r4, r2, e 25 (by omega) (by omega)]
    rcases h14 with h14 | ⟨i1, i2, np', nt', i3, i4, i5, i6, i7⟩
    · exact Or.inl h14
    · refine Or.inr ⟨i1, i2, np', nt', i3, ?_, fun j hj => ?_, fun m hm => ?_, ?_⟩
      · rw [e 26 (by omega) (by omega)]; exact i4
      · rw [hp j 6 (by omega), hp j 7 (by omega), hp j 8 (by omega), e2, hs (28 + j) (by omega), hs (34 + j) (by omega)]
        exact i5 j hj
      · obtain ⟨j1, j2, j3, j4⟩ := i6 m hm
        refine ⟨?_, ?_, ?_, fun x hx => ?_⟩
        · rw [hs _ (by omega)]; exact j1
        · rw [hs _ (by omega)]; exact j2
        · rw [hs _ (by omega)]; exact j3
        · rw [hs _ (by omega)]; exact j4 x hx
      · rw [e 10 (by omega) (by omega), e 12 (by omega) (by omega), e 13 (by omega) (by omega), e 15 (by omega) (by omega), e 16 (by omega) (by omega), e 18 (by omega) (by omega), e 19 (by omega) (by omega), e 21 (by omega) (by omega)]
        exact i7
section X
variable {Kd : Nat → Nat} {μ : Nat → Nat → Int32} {n : Nat → Nat → Option Nat} {ρ : Nat → Nat → Int32}
theorem x_pC {np : Nat} (h : cA μ (ρ 1)) (h21 : ρ 1 21 = nI np) (x : Int32) : m_X11_isPane (kC Kd) lC 0 x (μ, n) = some (b2i (decide (0 ≤ x) && decide (x ≤ nI np - 1))) := by
  unfold m_X11_isPane
  rw [C_g0, k_isWithin, fm_b1_s, h.1, h21]
  exact fm_zb _ _
theorem x_pR {np : Nat} (h21 : ρ 1 21 = nI np) (x : Int32) : m_X12_isPane kR lR 0 x (ρ, nR) = some (b2i (decide (0 ≤ x) && decide (x ≤ nI np - 1))) := by
  rw [r_isPane, h21]
theorem r_in0 (x m : Int32) (S : fm_M) : m_X12_in kR lR x 0 m S = some (b2i (decide (0 ≤ x) && decide (x ≤ m))) := r_in x 0 m S
theorem x_of (hR : Rep Kd μ n ρ) (a b : Int32) : ∃ r, m_X11_of (kC Kd) lC 0 a b (μ, n) = some r ∧ m_X12_of kR lR 0 a b (ρ, nR) = some r := by
  obtain ⟨np, i, cl, f, t, hg, _⟩ := Rep_gen hR
  have hh := k_held hg
  obtain ⟨g1, g2, g3, g4, g5, g6, g7, g8, g9, g10⟩ := hg
  have hi6 : i < 6 := by rcases g10 with ⟨_, h⟩ | ⟨h, _⟩ <;> omega
  unfold m_X11_of m_X12_of
  simp only [C_c0, R_ck, x_pC g3 g6, x_pR g6, fm_b1_s, b2i_if]
  rcases pane_c a g7 with hc | ⟨j, hj, rfl, hc⟩
  · rw [hc]
    exact ⟨-1, rfl, rfl⟩
  · rw [hc, if_pos rfl, if_pos rfl]
    obtain ⟨p1, _⟩ := g2 j hj
    obtain ⟨q0, q1, q2, q3, q4, q5, q6, q7⟩ := g4 j hj
    obtain ⟨e3, l3⟩ := nn_N (by omega) (g5.2.2.2 j (by omega)).1
    have e9 := shB_e g5 (show j < 6 by omega)
    have ho := r_offer g5 g8 (show j < 6 by omega)
    have hk := k_off (Kd := Kd) (n := n) hi6 g9.1 g9.2.1 (show N (ρ 1 (3 + j)) < 4096 by omega)
    rw [← e3] at hk
    simp (disch := omega) only [C_r0 g1.1.1, C_lr1 (show j < 6 by omega) p1, C_gio, q0, q2, q3, q4, q5, hh, fm_b1_s, C_ckt hi6, hk, R_g1, L_28, L_34, L_15, L_3, L_9, R_s, ho]
    by_cases b0 : b = 0
    · exact ⟨_, if_pos b0, if_pos b0⟩
    rw [if_neg b0, if_neg b0]
    by_cases b1 : b = 1
    · exact ⟨_, if_pos b1, if_pos b1⟩
    rw [if_neg b1, if_neg b1]
    by_cases b2 : b = 2
    · exact ⟨_, if_pos b2, if_pos b2⟩
    rw [if_neg b2, if_neg b2]
    by_cases b3 : b = 3
    · exact ⟨_, if_pos b3, if_pos b3⟩
    rw [if_neg b3, if_neg b3]
    by_cases b4 : b = 4
    · rw [if_pos b4, if_pos b4, e9]
      refine ⟨b2i (shB (ρ 1) j), ?_, rfl⟩
      cases shB (ρ 1) j
      · exact if_pos rfl
      · exact if_neg (by decide)
    rw [if_neg b4, if_neg b4]
    by_cases b5 : b = 5
    · exact ⟨_, if_pos b5, if_pos b5⟩
    · exact ⟨_, if_neg b5, if_neg b5⟩
theorem x_grows (hR : Rep Kd μ n ρ) (a b : Int32) : ∃ r μ' n' ρ', m_X11_grows (kC Kd) lC 0 a b (μ, n) = some (r, (μ', n')) ∧ m_X12_grows kR lR 0 a b (ρ, nR) = some (r, (ρ', nR)) ∧ Rep Kd μ' n' ρ' := by
  obtain ⟨np, i, cl, f, t, hg, _⟩ := Rep_gen hR
  have hg0 := hg
  obtain ⟨g1, g2, g3, g4, g5, g6, g7, g8, g9, g10⟩ := hg
  unfold m_X11_grows m_X12_grows
  simp only [C_c0, R_ck, x_pC g3 g6, x_pR g6, fm_b1_s, b2i_if]
  rcases pane_c a g7 with hc | ⟨j, hj, rfl, hc⟩
  · rw [hc]
    exact ⟨_, _, _, _, rfl, rfl, hR⟩
  · rw [hc, if_pos rfl, if_pos rfl]
    simp only [k_isWithin, r_in0, fm_b1_s, b2i_if]
    rw [show (11 : Int32) = nI 11 from rfl]
    rcases in_c b (m := 11) (by omega) with hc | ⟨c, hc11, rfl, hc⟩
    · rw [hc]
      exact ⟨_, _, _, _, rfl, rfl, hR⟩
    · rw [hc, if_pos rfl, if_pos rfl]
      obtain ⟨e1, l1⟩ := nn_N (by omega) g5.2.1
      obtain ⟨μ1, n1, a1, a2, a3⟩ := k_from hg0 hj l1
      have hg1 := gen_d a2 hg0
      obtain ⟨μ2, d1, d2, d3⟩ := k_fill a3 hg1.2.2.2.2.2.2.2.2.1
      have hgr := k_growth (cI_c a3 d2) (show c < 12 by omega) (d3 c (by omega))
      obtain ⟨ρ', r1, r2⟩ := r_grow g5 g8 (show j < 6 by omega) (show c < 12 by omega)
      have h4 := a3.1.1.2.2.2.1
      refine ⟨_, μ2, n1, ρ', ?_, by rw [r1, fm_bi_s], Rep_k (kQ_d (dQ_t a2 (dQ_3 (fun r x y z => d2 r y z)))) (rK_B r2) hR⟩
      rw [C_g0, g3.2.2.1, e1, a1, fm_bi_s, C_ckc]
      unfold m_X1_growthAt
      rw [C_ckc, d1, fm_b1_s, C_grc h4, hgr, fm_b1_s, fm_bi_s]
      rfl
end X
