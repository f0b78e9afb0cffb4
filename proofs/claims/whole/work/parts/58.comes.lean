/-! methods, both sides: comes -/
section X
variable {Kd : Nat → Nat} {μ : Nat → Nat → Int32} {n : Nat → Nat → Option Nat} {ρ : Nat → Nat → Int32}
theorem ne_m5 {k : Nat} (hk : k ≤ 60) : ¬ nI k = (-5) := by
  have : ∀ k, k < 61 → ¬ nI k = (-5) := by decide
  exact this k (by omega)
theorem x_comesl {s : Nat → Int32} {i j f t y : Nat} {q : Pn} {sh : Bool} (hj : j < 6) (hI : rI s) (hq : q = pq s (Pn.cl q) j) (hsh : sh = shB s j) (hd : hdR s (Pn.cl q) f t) (hy : y < 4096) : ∀ (d k h ice fuel fuel2 : Nat) (μ : Nat → Nat → Int32) (ρ2 : Nat → Nat → Int32), k + d = 61 → cI Kd μ n j i q h ice sh → tC μ i (Pn.cl q) f t → rC s ρ2 j h ice → h + d ≤ 15000 → (∀ ρ4, rS ρ2 ρ4 → (∀ x, 21 ≤ x → ρ4 1 x = ρ2 1 x) → ∃ ρ3, m_X12_goesBack kR lR 0 (ρ4, nR) = some (ρ3, nR) ∧ rK ρ ρ3) → ∃ r μ' ρ', b_X11_comes_36 (kC Kd) lC (fuel + d + 1) (nI y) (103 + 6 * j) (nI k) (μ, n) = some (r, (μ', n)) ∧ b_X12_comes_30 kR lR (fuel2 + d + 1) 0 (nI j) (nI y) (-5) (nI k) (ρ2, nR) = some (r, (ρ', nR)) ∧ rK ρ ρ' ∧ (∀ r, r ≠ 103 + 6 * j → r ≠ 104 + 6 * j → r ≠ 105 + 6 * j → μ' r = μ r) := by
  intro d
  induction d with
  | zero =>
    intro k h ice fuel fuel2 μ ρ2 hk hc ht hr hh hbk
    obtain ⟨ρ3, b1, b2⟩ := hbk ρ2 (rS_r _) (fun _ _ => rfl)
    have hlt : (60 : Int32) < nI k := nI_lt (a := 60) (by omega) (by omega)
    rw [b_X11_comes_36, b_X12_comes_30]
    unfold k_X11_comes_36 k_X12_comes_30
    rw [if_pos hlt, if_pos hlt, R_ck, b1, fm_b1_s]
    exact ⟨_, _, _, rfl, rfl, b2, fun _ _ _ _ => rfl⟩
  | succ d ih =>
    intro k h ice fuel fuel2 μ ρ2 hk hc ht hr hh hbk
    have hi6 : i < 6 := hc.2.2.2.2.2.2.2.2.2.2
    have hice : ice < 4096 := hc.2.2.2.2.2.2.2.1
    have hnlt : ¬ (60 : Int32) < nI k := nI_nlt (a := 60) (by omega) (by omega)
    obtain ⟨ρ3, b1, b2, b3⟩ := rC_n (n := 1) hI hd hr hj (by omega) hice (by omega)
    have hbk3 : ∀ ρ4, rS ρ3 ρ4 → (∀ x, 21 ≤ x → ρ4 1 x = ρ3 1 x) → ∃ ρ5, m_X12_goesBack kR lR 0 (ρ4, nR) = some (ρ5, nR) ∧ rK ρ ρ5 := fun ρ4 h1 h2 => hbk ρ4 (rS_t b2 h1) (fun x hx => by rw [h2 x hx, b3.1 x (by omega) (by omega), hr.1 x (by omega) (by omega)])
    have hxy : (nI ice = nI y ↔ ice = y) := nI_eq (by omega) (by omega)
    rw [show fuel + (d + 1) + 1 = fuel + d + 1 + 1 by omega, show fuel2 + (d + 1) + 1 = fuel2 + d + 1 + 1 by omega, b_X11_comes_36, b_X12_comes_30]
    unfold k_X11_comes_36 k_X12_comes_30
    rw [if_neg hnlt, if_neg hnlt, if_pos rfl, C_gic, hc.2.1.2.2.2.2.1]
    simp (disch := omega) only [R_g1, L_3, R_s]
    rw [hr.2.2, show m_X12_freezesOn kR lR 0 (nI j) 1 (ρ2, nR) = _ from b1]
    simp only [R_let, R_ck, C_ckc, fm_b1_s, nI_1]
    by_cases hx : ice = y
    · rw [if_pos (hxy.2 hx), if_pos (hxy.2 hx)]
      obtain ⟨ρ5, y1, y2⟩ := hbk3 ρ3 (rS_r _) (fun _ _ => rfl)
      refine ⟨nI k, μ, ρ5, rfl, ?_, y2, fun _ _ _ _ => rfl⟩
      rw [b_X12_comes_30]
      unfold k_X12_comes_30
      rw [R_ck, y1, fm_b1_s, if_neg (ne_m5 (by omega))]
      by_cases h60 : (60 : Int32) < nI (k + 1)
      · rw [if_pos h60]
      · rw [if_neg h60]
    · have hx2 := fun a => hx (hxy.1 a)
      rw [if_neg hx2, if_neg hx2]
      obtain ⟨μ1, a1, a2, a3⟩ := k_goHour hc ht (by omega)
      have ht1 : tC μ1 i (Pn.cl q) f t := tC_c (fun r x y => a3 r (by omega) (by omega) (by omega)) hi6 ht
      rw [← hq, ← hsh] at b3
      obtain ⟨r, μ', ρ', x1, x2, x3, x4⟩ := ih (k + 1) (h + 1) _ fuel fuel2 μ1 ρ3 (by omega) a2 ht1 b3 (by omega) hbk3
      refine ⟨r, μ', ρ', ?_, x2, x3, fun r a b c => (x4 r a b c).trans (a3 r a b c)⟩
      rw [a1, fm_b1_s]
      exact x1
theorem x_comes (hR : Rep Kd μ n ρ) (a b : Int32) : ∃ r μ' n' ρ', m_X11_comes (kC Kd) lC 0 a b (μ, n) = some (r, (μ', n')) ∧ m_X12_comes kR lR 0 a b (ρ, nR) = some (r, (ρ', nR)) ∧ Rep Kd μ' n' ρ' := by
  obtain ⟨np, i, cl, f, t, hg, h99⟩ := Rep_gen hR
  have hg0 := hg
  obtain ⟨g1, g2, g3, g4, g5, g6, g7, g8, g9, g10⟩ := hg
  unfold m_X11_comes m_X12_comes m_X12_isIce
  simp only [R_let, C_c0, R_ck, k_isWithin, r_in0, x_pC g3 g6, x_pR g6, fm_b1_s, b2i_if]
  rcases pane_c a g7 with hc | ⟨j, hj, rfl, hc⟩
  · rw [hc]
    exact ⟨_, _, _, _, rfl, rfl, hR⟩
  rw [hc, if_pos rfl, if_pos rfl, show (4095 : Int32) = nI 4095 from rfl]
  rcases in_c b (m := 4095) (by omega) with hc | ⟨y, hy, rfl, hc⟩
  · rw [hc, show b2i false = 0 from rfl, fm_z0, fm_b1_s, if_pos rfl]
    exact ⟨_, _, _, _, rfl, rfl, hR⟩
  rw [hc, if_pos rfl, show b2i true = 1 from rfl, fm_z1, fm_b1_s, if_neg (show ¬ (1 : Int32) = 0 by decide)]
  obtain ⟨e1, l1⟩ := nn_N (by omega) g5.2.1
  obtain ⟨μ1, n1, a1, a2, a3⟩ := k_from hg0 hj l1
  rw [pqc_pq] at a3
  have ht1 := (gen_d a2 hg0).2.2.2.2.2.2.2.2.1
  obtain ⟨ρ1, k1, k2, k3⟩ := r_keeps ρ
  have hr1 : ρ1 1 = ρ 1 := k2 1 (by omega)
  have hrc := rC_0 g5 (show j < 6 by omega) hr1
  obtain ⟨r, μ', ρ', x1, x2, x3, x4⟩ := x_comesl (Kd := Kd) (n := n1) (ρ := ρ) (q := pq (ρ 1) cl j) (show j < 6 by omega) g5 rfl rfl g8 (show y < 4096 by omega) 61 0 _ _ 938 938 μ1 ρ1 (by omega) a3 ht1 hrc (by omega) (fun ρ4 h1 h2 => by
    obtain ⟨ρ5, y1, y2, y3⟩ := r_back k2 k3 h1 h2
    exact ⟨ρ5, y1, rK_b y2 y3⟩)
  refine ⟨r, μ', n1, ρ', ?_, ?_, Rep_k (kQ_d (dQ_t a2 (dQ_3 x4))) x3 hR⟩
  · rw [C_g0, g3.2.2.1, e1, a1, fm_bi_s]
    exact x1
  · rw [k1, fm_b1_s]
    exact x2
end X
