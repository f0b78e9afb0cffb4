/-! the class: a course goes hours -/
theorem cI_h {Kd : Nat → Nat} {μ μ' : Nat → Nat → Int32} {n : Nat → Nat → Option Nat} {j i h ice h' ice' : Nat} {q : Pn} {sh : Bool} (hc : cI Kd μ n j i q h ice sh) (hm : ∀ r, r ≠ 103 + 6 * j → r ≠ 104 + 6 * j → r ≠ 105 + 6 * j → μ' r = μ r) (h3 : ∀ k, k ≠ 5 → k ≠ 6 → μ' (103 + 6 * j) k = μ (103 + 6 * j) k) (h5 : μ' (103 + 6 * j) 5 = nI h') (h6 : μ' (103 + 6 * j) 6 = nI ice') (hh : h' ≤ 20000) (hi : ice' < 4096) : cI Kd μ' n j i q h' ice' sh := by
  obtain ⟨hn, ⟨f2, f3, f4, f5, f6, f7⟩, ⟨g0, g1, g2, g3⟩, b1, b2, b3, b4, b5, b6, b7, b8⟩ := hc
  refine ⟨hn, ⟨(h3 2 (by omega) (by omega)).trans f2, (h3 3 (by omega) (by omega)).trans f3, (h3 4 (by omega) (by omega)).trans f4, h5, h6, (h3 7 (by omega) (by omega)).trans f7⟩, ⟨?_, ?_, g2, fun hk x hx => ?_⟩, b1, b2, b3, hh, hi, b6, b7, b8⟩
  · rw [hm _ (by omega) (by omega) (by omega)]; exact g0
  · rw [hm _ (by omega) (by omega) (by omega)]; exact g1
  · rw [hm _ (by omega) (by omega) (by omega)]; exact g3 hk x hx
theorem tC_c {μ μ' : Nat → Nat → Int32} {i f t : Nat} {cl : List Cl} (h : ∀ r, 40 ≤ r → r < 100 → μ' r = μ r) (hi : i < 6) (ht : tC μ i cl f t) : tC μ' i cl f t := by
  unfold tC
  rw [h (40 + 5 * i) (by omega) (by omega), h (41 + 5 * i) (by omega) (by omega), h (42 + 5 * i) (by omega) (by omega), h (43 + 5 * i) (by omega) (by omega), h (44 + 5 * i) (by omega) (by omega)]
  exact ht
theorem k_goHour {Kd : Nat → Nat} {n : Nat → Nat → Option Nat} {μ : Nat → Nat → Int32} {j i h ice f t : Nat} {q : Pn} {sh : Bool} (hI : cI Kd μ n j i q h ice sh) (ht : tC μ i (Pn.cl q) f t) (hh : h + 1 ≤ 20000) : ∃ μ', m_X1_goHour (kC Kd) lC (103 + 6 * j) (μ, n) = some (μ', n) ∧ cI Kd μ' n j i q (h + 1) (goS q sh 1 h ice) sh ∧ ∀ r, r ≠ 103 + 6 * j → r ≠ 104 + 6 * j → r ≠ 105 + 6 * j → μ' r = μ r := by
  have f7 := hI.2.1.2.2.2.2.2
  have f5 := hI.2.1.2.2.2.1
  cases sh
  · obtain ⟨μ1, a1, a2, a3⟩ := k_fill hI ht
    have hI1 := cI_c hI a2
    have h1 := k_gh hI1 a3 12 0 975 (by omega)
    rw [mix_0 _ _ hI.2.2.2.2.2.2.2.1] at h1
    refine ⟨_, ?_, cI_h hI1 (μ' := wm (wm μ1 (103 + 6 * j) 6 (nI (nxt q h ice))) (103 + 6 * j) 5 (nI (h + 1))) (fun r x y z => by rw [wm_r x, wm_r x]) (fun k x y => by rw [wm_k x, wm_k y]) (wm_s _ _ _ _) (by rw [wm_k (by omega), wm_s]; rfl) hh (nxt_lt q h ice), fun r x y z => by rw [wm_r x, wm_r x, a2 r y z]⟩
    unfold m_X1_goHour
    simp only [C_gic, C_ckc]
    rw [f7, if_pos (show b2i false = 0 from rfl), a1, fm_b1_s, C_gic, hI1.2.1.2.2.2.2.1, R_let]
    exact h1
  · refine ⟨_, ?_, cI_h hI (μ' := wm μ (103 + 6 * j) 5 (nI (h + 1))) (fun r x y z => wm_r x) (fun k x y => wm_k x) (wm_s _ _ _ _) (by rw [wm_k (by omega)]; exact hI.2.1.2.2.2.2.1) hh hI.2.2.2.2.2.2.2.1, fun r x y z => wm_r x⟩
    unfold m_X1_goHour
    simp only [C_gic, C_pic]
    rw [f7, if_neg (show ¬ b2i true = 0 by decide), f5, nI_1]
theorem k_ghl {Kd : Nat → Nat} {n : Nat → Nat → Option Nat} {j i f t : Nat} {q : Pn} {sh : Bool} : ∀ (d N k fuel h ice : Nat) (μ : Nat → Nat → Int32), cI Kd μ n j i q h ice sh → tC μ i (Pn.cl q) f t → k + d = N → N < 1000 → h + d ≤ 20000 → ∃ μ', b_X1_goHours_2 (kC Kd) lC (fuel + d + 1) (103 + 6 * j) (nI N) (nI k) (μ, n) = some (μ', n) ∧ cI Kd μ' n j i q (h + d) (goS q sh d h ice) sh ∧ ∀ r, r ≠ 103 + 6 * j → r ≠ 104 + 6 * j → r ≠ 105 + 6 * j → μ' r = μ r := by
  intro d
  induction d with
  | zero =>
    intro N k fuel h ice μ hI ht hk hN hh
    refine ⟨μ, ?_, by rw [goS_z]; exact hI, fun _ _ _ _ => rfl⟩
    rw [b_X1_goHours_2]
    unfold k_X1_goHours_2
    rw [if_pos (nI_le (by omega) (by omega))]
  | succ d ih =>
    intro N k fuel h ice μ hI ht hk hN hh
    obtain ⟨μ1, a1, a2, a3⟩ := k_goHour hI ht (by omega)
    obtain ⟨μ2, d1, d2, d3⟩ := ih N (k + 1) fuel (h + 1) (goS q sh 1 h ice) μ1 a2 (tC_c (fun r x y => a3 r (by omega) (by omega) (by omega)) hI.2.2.2.2.2.2.2.2.2.2 ht) (by omega) hN (by omega)
    refine ⟨μ2, ?_, by rw [← goS_add, show h + (d + 1) = h + 1 + d by omega]; exact d2, fun r x y z => (d3 r x y z).trans (a3 r x y z)⟩
    rw [show fuel + (d + 1) + 1 = fuel + d + 1 + 1 by omega, b_X1_goHours_2]
    unfold k_X1_goHours_2
    rw [if_neg (nI_ge (by omega) (by omega)), C_ckc, a1, fm_b1_s, R_let, nI_1]
    exact d1
theorem k_goHours {Kd : Nat → Nat} {n : Nat → Nat → Option Nat} {μ : Nat → Nat → Int32} {j i h ice f t N : Nat} {q : Pn} {sh : Bool} (hI : cI Kd μ n j i q h ice sh) (ht : tC μ i (Pn.cl q) f t) (hN : N < 200) (hh : h + N ≤ 20000) : ∃ μ', m_X1_goHours (kC Kd) lC (103 + 6 * j) (nI N) (μ, n) = some (μ', n) ∧ cI Kd μ' n j i q (h + N) (goS q sh N h ice) sh ∧ ∀ r, r ≠ 103 + 6 * j → r ≠ 104 + 6 * j → r ≠ 105 + 6 * j → μ' r = μ r := by
  obtain ⟨μ', h1, h2⟩ := k_ghl N N 0 (999 - N) h ice μ hI ht (by omega) (by omega) hh
  refine ⟨μ', ?_, h2⟩
  unfold m_X1_goHours
  rw [R_let, show fm_LF = 999 - N + N + 1 by unfold fm_LF; omega]
  exact h1
