/-! methods, both sides: best, comes -/
/-- the reference where one pane alone has gone on -/
def rC (s : Nat → Int32) (ρ : Nat → Nat → Int32) (j h ice : Nat) : Prop := (∀ x, x ≠ 0 → x ≠ 3 + j → ρ 1 x = s x) ∧ ρ 1 0 = nI h ∧ ρ 1 (3 + j) = nI ice
theorem rC_I {s : Nat → Int32} {ρ : Nat → Nat → Int32} {j h ice : Nat} (hI : rI s) (hc : rC s ρ j h ice) (hj : j < 6) (hh : h ≤ 20000) (hi : ice < 4096) : rI (ρ 1) := rI_c hI (nn_of hc.2.1 hh) (fun p hp => by
  by_cases hpj : p = j
  · subst hpj
    exact nn_of hc.2.2 (by omega)
  · rw [hc.1 _ (by omega) (by omega)]
    exact (hI.2.2.2 p hp).1) (fun x h0 h3 => hc.1 x h0 (by omega))
theorem rC_d {s : Nat → Int32} {ρ : Nat → Nat → Int32} {j h ice : Nat} {cl : List Cl} {f t : Nat} (hd : hdR s cl f t) (hc : rC s ρ j h ice) (hj : j < 6) : hdR (ρ 1) cl f t := hdR_c (fun x hx => hc.1 x (by omega) (by omega)) hd
theorem rC_n {s : Nat → Int32} {ρ : Nat → Nat → Int32} {j h ice n : Nat} {cl : List Cl} {f t : Nat} (hI : rI s) (hd : hdR s cl f t) (hc : rC s ρ j h ice) (hj : j < 6) (hh : h ≤ 15000) (hi : ice < 4096) (hn : n < 200) : ∃ ρ', m_X12_freezesOn kR lR 0 (nI j) (nI n) (ρ, nR) = some (ρ', nR) ∧ rS ρ ρ' ∧ rC s ρ' j (h + n) (goS (pq s cl j) (shB s j) n h ice) := by
  obtain ⟨ρ', a1, a2, a3, a4, a5⟩ := r_freezesOn (n := n) (p := j) (rC_I hI hc hj (by omega) hi) (rC_d hd hc hj) hj hn (by rw [hc.2.1, N_nI (by omega)]; exact hh)
  refine ⟨ρ', a1, a2, fun x h0 h3 => (a5 x h0 h3).trans (hc.1 x h0 h3), ?_, ?_⟩
  · rw [a3, hc.2.1, N_nI (by omega)]
  · rw [a4, hc.2.1, hc.2.2, N_nI (by omega), N_nI (by omega), pq_c cl j (fun x hx => hc.1 x (by omega) (by omega)), shB_c (hc.1 (9 + j) (by omega) (by omega))]
theorem rC_o {s : Nat → Int32} {ρ : Nat → Nat → Int32} {j h ice : Nat} {cl : List Cl} {f t : Nat} (hI : rI s) (hd : hdR s cl f t) (hc : rC s ρ j h ice) (hj : j < 6) (hh : h ≤ 20000) (hi : ice < 4096) : m_X12_offerOf kR lR 0 (nI j) (ρ, nR) = some (nI (offN f t ice)) := by
  have := r_offer (rC_I hI hc hj hh hi) (rC_d hd hc hj) hj
  rw [hc.2.2, N_nI (by omega)] at this
  exact this
theorem rC_0 {ρ ρ1 : Nat → Nat → Int32} {j : Nat} (hI : rI (ρ 1)) (hj : j < 6) (h1 : ρ1 1 = ρ 1) : rC (ρ 1) ρ1 j (N (ρ 1 0)) (N (ρ 1 (3 + j))) := by
  refine ⟨fun x _ _ => by rw [h1], ?_, ?_⟩
  · rw [h1]; exact (nn_N (by omega) hI.1).1
  · rw [h1]; exact (nn_N (by omega) (hI.2.2.2 j hj).1).1
section X
variable {Kd : Nat → Nat} {μ : Nat → Nat → Int32} {n : Nat → Nat → Option Nat} {ρ : Nat → Nat → Int32}
theorem x_bestl {s : Nat → Int32} {i j f t N0 : Nat} {q : Pn} {sh : Bool} {w : Int32} (hj : j < 6) (hI : rI s) (hq : q = pq s (Pn.cl q) j) (hsh : sh = shB s j) (hd : hdR s (Pn.cl q) f t) (hN : N0 ≤ 20) : ∀ (d k h ice bst mst fuel fuel2 : Nat) (μ : Nat → Nat → Int32) (ρ2 : Nat → Nat → Int32), k + d = N0 + 1 → cI Kd μ n j i q h ice sh → tC μ i (Pn.cl q) f t → rC s ρ2 j h ice → h + d ≤ 15000 → bst < 100 → mst ≤ 2400 → (∀ ρ4, rS ρ2 ρ4 → (∀ x, 21 ≤ x → ρ4 1 x = ρ2 1 x) → ∃ ρ3, m_X12_goesBack kR lR 0 (ρ4, nR) = some (ρ3, nR) ∧ rK ρ ρ3) → ∃ r μ' ρ', b_X11_best_54 (kC Kd) lC (fuel + d + 1) (nI N0) w (103 + 6 * j) (nI bst) (nI mst) (nI k) (μ, n) = some (r, (μ', n)) ∧ b_X12_best_49 kR lR (fuel2 + d + 1) 0 (nI j) (nI N0) w (nI bst) (nI mst) (nI k) (ρ2, nR) = some (r, (ρ', nR)) ∧ rK ρ ρ' ∧ (∀ r, r ≠ 103 + 6 * j → r ≠ 104 + 6 * j → r ≠ 105 + 6 * j → μ' r = μ r) := by
  intro d
  induction d with
  | zero =>
    intro k h ice bst mst fuel fuel2 μ ρ2 hk hc ht hr hh hb hm hbk
    obtain ⟨ρ3, b1, b2⟩ := hbk ρ2 (rS_r _) (fun _ _ => rfl)
    have hlt : nI N0 < nI k := nI_lt (by omega) (by omega)
    rw [b_X11_best_54, b_X12_best_49]
    unfold k_X11_best_54 k_X12_best_49
    rw [if_pos hlt, if_pos hlt, R_ck, b1, fm_b1_s]
    by_cases hw : w = 0
    · rw [if_pos hw, if_pos hw]
      exact ⟨_, _, _, rfl, rfl, b2, fun _ _ _ _ => rfl⟩
    · rw [if_neg hw, if_neg hw]
      exact ⟨_, _, _, rfl, rfl, b2, fun _ _ _ _ => rfl⟩
  | succ d ih =>
    intro k h ice bst mst fuel fuel2 μ ρ2 hk hc ht hr hh hb hm hbk
    have hi6 : i < 6 := hc.2.2.2.2.2.2.2.2.2.2
    have hice : ice < 4096 := hc.2.2.2.2.2.2.2.1
    obtain ⟨μ1, a1, a2, a3⟩ := k_goHour hc ht (by omega)
    have ht1 : tC μ1 i (Pn.cl q) f t := tC_c (fun r x y => a3 r (by omega) (by omega) (by omega)) hi6 ht
    have ho := k_offer a2 ht1
    obtain ⟨ρ3, b1, b2, b3⟩ := rC_n (n := 1) hI hd hr hj (by omega) hice (by omega)
    rw [← hq, ← hsh] at b3
    have hlt2 : goS q sh 1 h ice < 4096 := goS_lt _ _ _ _ _ hice
    have hro := rC_o hI hd b3 hj (by omega) hlt2
    have hole := of_le f t (goS q sh 1 h ice) ht.2.2.2.2.2.1 ht.2.2.2.2.2.2
    have hbk3 : ∀ ρ4, rS ρ3 ρ4 → (∀ x, 21 ≤ x → ρ4 1 x = ρ3 1 x) → ∃ ρ5, m_X12_goesBack kR lR 0 (ρ4, nR) = some (ρ5, nR) ∧ rK ρ ρ5 := fun ρ4 h1 h2 => hbk ρ4 (rS_t b2 h1) (fun x hx => by rw [h2 x hx, b3.1 x (by omega) (by omega), hr.1 x (by omega) (by omega)])
    have hnlt : ¬ nI N0 < nI k := nI_nlt (by omega) (by omega)
    have hle : (nI (offN f t (goS q sh 1 h ice)) ≤ nI mst ↔ offN f t (goS q sh 1 h ice) ≤ mst) := nI_leI (by omega) (by omega)
    rw [show fuel + (d + 1) + 1 = fuel + d + 1 + 1 by omega, show fuel2 + (d + 1) + 1 = fuel2 + d + 1 + 1 by omega, b_X11_best_54, b_X12_best_49]
    unfold k_X11_best_54 k_X12_best_49
    rw [if_neg hnlt, if_neg hnlt, C_ckc, a1, fm_b1_s, C_ckc, ho, fm_b1_s, show m_X12_freezesOn kR lR 0 (nI j) 1 (ρ2, nR) = _ from b1]
    simp only [R_let, R_ck, C_ckc, ho, hro, fm_b1_s, nI_1]
    by_cases hx : offN f t (goS q sh 1 h ice) ≤ mst
    · rw [if_pos (hle.2 hx), if_pos (hle.2 hx), if_pos (hle.2 hx)]
      obtain ⟨r, μ', ρ', x1, x2, x3, x4⟩ := ih (k + 1) (h + 1) _ bst mst fuel fuel2 μ1 ρ3 (by omega) a2 ht1 b3 (by omega) hb hm hbk3
      exact ⟨r, μ', ρ', x1, x2, x3, fun r a b c => (x4 r a b c).trans (a3 r a b c)⟩
    · have hx2 := fun a => hx (hle.1 a)
      rw [if_neg hx2, if_neg hx2, if_neg hx2]
      obtain ⟨r, μ', ρ', x1, x2, x3, x4⟩ := ih (k + 1) (h + 1) _ k _ fuel fuel2 μ1 ρ3 (by omega) a2 ht1 b3 (by omega) (by omega) hole hbk3
      exact ⟨r, μ', ρ', x1, x2, x3, fun r a b c => (x4 r a b c).trans (a3 r a b c)⟩
theorem x_best (hR : Rep Kd μ n ρ) (a b c : Int32) : ∃ r μ' n' ρ', m_X11_best (kC Kd) lC 0 a b c (μ, n) = some (r, (μ', n')) ∧ m_X12_best kR lR 0 a b c (ρ, nR) = some (r, (ρ', nR)) ∧ Rep Kd μ' n' ρ' := by
  obtain ⟨np, i, cl, f, t, hg, h99⟩ := Rep_gen hR
  have hg0 := hg
  obtain ⟨g1, g2, g3, g4, g5, g6, g7, g8, g9, g10⟩ := hg
  unfold m_X11_best m_X12_best
  simp only [R_let, C_c0, R_ck, k_isWithin, r_in0, x_pC g3 g6, x_pR g6, fm_b1_s, b2i_if]
  rcases pane_c a g7 with hc | ⟨j, hj, rfl, hc⟩
  · rw [hc]
    exact ⟨_, _, _, _, rfl, rfl, hR⟩
  rw [hc, if_pos rfl, if_pos rfl]
  by_cases hc1' : ¬ (decide (0 ≤ c) && decide (c ≤ 1)) = true
  · rw [if_neg hc1', if_neg hc1']
    exact ⟨_, _, _, _, rfl, rfl, hR⟩
  have hc1 := Decidable.of_not_not hc1'
  rw [if_pos hc1, if_pos hc1, show (20 : Int32) = nI 20 from rfl]
  rcases in_c b (m := 20) (by omega) with hc | ⟨N0, hN, rfl, hc⟩
  · rw [hc]
    exact ⟨_, _, _, _, rfl, rfl, hR⟩
  rw [hc, if_pos rfl, if_pos rfl]
  obtain ⟨e1, l1⟩ := nn_N (by omega) g5.2.1
  obtain ⟨μ1, n1, a1, a2, a3⟩ := k_from hg0 hj l1
  rw [pqc_pq] at a3
  have ht1 := (gen_d a2 hg0).2.2.2.2.2.2.2.2.1
  have ho := k_offer a3 ht1
  obtain ⟨ρ1, k1, k2, k3⟩ := r_keeps ρ
  have hr1 : ρ1 1 = ρ 1 := k2 1 (by omega)
  have hrc := rC_0 g5 (show j < 6 by omega) hr1
  have hro := rC_o g5 g8 hrc (show j < 6 by omega) (by omega) (N_lt g5 (by omega))
  have hole := of_le f t (N (ρ 1 (3 + j))) g9.2.2.2.2.2.1 g9.2.2.2.2.2.2
  obtain ⟨r, μ', ρ', x1, x2, x3, x4⟩ := x_bestl (Kd := Kd) (n := n1) (ρ := ρ) (w := c) (q := pq (ρ 1) cl j) (show j < 6 by omega) g5 rfl rfl g8 hN N0 1 _ _ 0 _ (999 - N0) (999 - N0) μ1 ρ1 (by omega) a3 ht1 hrc (by omega) (by omega) hole (fun ρ4 h1 h2 => by
    obtain ⟨ρ5, y1, y2, y3⟩ := r_back k2 k3 h1 h2
    exact ⟨ρ5, y1, rK_b y2 y3⟩)
  refine ⟨r, μ', n1, ρ', ?_, ?_, Rep_k (kQ_d (dQ_t a2 (dQ_3 x4))) x3 hR⟩
  · rw [C_g0, g3.2.2.1, e1, a1, fm_bi_s, C_ckc, ho, fm_b1_s, show fm_LF = 999 - N0 + N0 + 1 by unfold fm_LF; omega]
    exact x1
  · rw [k1, fm_b1_s, hro, fm_b1_s, show fm_LF = 999 - N0 + N0 + 1 by unfold fm_LF; omega]
    exact x2
end X
