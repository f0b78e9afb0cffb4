/-! methods, both sides: shut, set, breathe -/
theorem cP_w {Kd : Nat → Nat} {μ : Nat → Nat → Int32} {s : Nat → Int32} {j p fld k : Nat} {x : Int32} (hc : cP Kd μ s p) (hj : j < 6) (hp : p < 6) (hk : (fld = 3 ∧ k = 15 + j) ∨ (fld = 4 ∧ k = 3 + j) ∨ (fld = 5 ∧ k = 9 + j)) : cP Kd (wm μ (100 + 6 * j) fld x) (upd s k x) p := by
  obtain ⟨q0, q1, q2, q3, q4, q5, q6, q7⟩ := hc
  have u28 : upd s k x (28 + p) = s (28 + p) := upd_n (by omega)
  have u34 : upd s k x (34 + p) = s (34 + p) := upd_n (by omega)
  unfold cP
  rw [u28, u34, wm_r (show 101 + 6 * p ≠ 100 + 6 * j by omega)]
  by_cases hpj : p = j
  · subst hpj
    refine ⟨?_, ?_, ?_, ?_, ?_, ?_, q6, fun h x hx => ?_⟩
    · rw [wm_k (by omega)]; exact q0
    · rw [wm_k (by omega)]; exact q1
    · rw [wm_k (by omega)]; exact q2
    · by_cases h3 : fld = 3
      · rw [h3, wm_s, show k = 15 + p by omega, upd_s]
      · rw [wm_k (by omega), upd_n (by omega)]; exact q3
    · by_cases h4 : fld = 4
      · rw [h4, wm_s, show k = 3 + p by omega, upd_s]
      · rw [wm_k (by omega), upd_n (by omega)]; exact q4
    · by_cases h5 : fld = 5
      · rw [h5, wm_s, show k = 9 + p by omega, upd_s]
      · rw [wm_k (by omega), upd_n (by omega)]; exact q5
    · rw [upd_n (by omega)]; exact q7 h x hx
  · rw [wm_r (show 100 + 6 * p ≠ 100 + 6 * j by omega)]
    refine ⟨q0, q1, q2, ?_, ?_, ?_, q6, fun h x hx => ?_⟩
    · rw [upd_n (by omega)]; exact q3
    · rw [upd_n (by omega)]; exact q4
    · rw [upd_n (by omega)]; exact q5
    · rw [upd_n (by omega)]; exact q7 h x hx
section X
variable {Kd : Nat → Nat} {μ : Nat → Nat → Int32} {n : Nat → Nat → Option Nat} {ρ : Nat → Nat → Int32}
theorem Rep_pane (hR : Rep Kd μ n ρ) {np j fld k : Nat} {x : Int32} (h21 : ρ 1 21 = nI np) (h6 : np ≤ 6) (hj : j < np) (hk : (fld = 3 ∧ k = 15 + j ∧ nn x 9) ∨ (fld = 4 ∧ k = 3 + j ∧ nn x 4095) ∨ (fld = 5 ∧ k = 9 + j ∧ nn x 1)) : Rep Kd (wm μ (100 + 6 * j) fld x) n (wm ρ 1 k x) := by
  obtain ⟨np2, i, cl, f, t, ⟨g1, g2, g3, g4, g5, g6, g7, g8, g9, g10⟩, h99⟩ := Rep_gen hR
  have hnp := np_eq (g6.symm.trans h21) g7 h6
  subst hnp
  refine Rep_lo hR (fun r _ hr => wm_r (hr j)) (fun p f hf => ?_) (fun j hj => wm_k (by omega)) ⟨wm_r (by omega), wm_r (by omega), by rw [wm_r (by omega)], by rw [wm_r (by omega)]⟩ ?_ ?_ (fun np' h21' h6' p hp => ?_) ?_ ?_
  · by_cases hpj : p = j
    · subst hpj
      exact wm_k (by omega)
    · rw [wm_r (by omega)]
  · rw [wm_u]
    exact rI_w g5 (fun h => absurd h (by omega)) (fun h => absurd h (by omega)) (fun p hp h => by rcases hk with ⟨_, h2, h3⟩ | ⟨_, h2, h3⟩ | ⟨_, h2, h3⟩ <;> first | exact h3 | exact absurd h (by omega)) (fun p hp h => by rcases hk with ⟨_, h2, h3⟩ | ⟨_, h2, h3⟩ | ⟨_, h2, h3⟩ <;> first | exact absurd h (by omega) | exact h3) (fun p hp h => by rcases hk with ⟨_, h2, h3⟩ | ⟨_, h2, h3⟩ | ⟨_, h2, h3⟩ <;> first | exact h3 | exact absurd h (by omega)) (by omega)
  · obtain ⟨c1, c5, c8, c9, c10⟩ := g3
    unfold cA
    rw [wm_r (by omega), wm_k (by omega), wm_k (by omega), wm_k (by omega), wm_k (by omega), wm_k (by omega)]
    exact ⟨c1, c5, c8, c9, c10⟩
  · have hnn := np_eq (g6.symm.trans h21') g7 h6'
    rw [wm_u]
    exact cP_w (g4 p (by omega)) (by omega) (by omega) (by omega)
  · rw [wm_k (by omega)]; exact Rep_2 hR
  · rw [wm_k (by omega)]; exact h99
theorem x_shut (hR : Rep Kd μ n ρ) (a b : Int32) (hb : b = 0 ∨ b = 1) : ∃ r μ' ρ', m_X11_shut (kC Kd) lC 0 a b (μ, n) = some (r, (μ', n)) ∧ m_X12_shut kR lR 0 a b (ρ, nR) = some (r, (ρ', nR)) ∧ Rep Kd μ' n ρ' := by
  obtain ⟨np, i, cl, f, t, ⟨g1, g2, g3, g4, g5, g6, g7, g8, g9, g10⟩, h99⟩ := Rep_gen hR
  unfold m_X11_shut m_X12_shut
  simp only [C_c0, R_ck, x_pC g3 g6, x_pR g6, fm_b1_s, b2i_if]
  rcases pane_c a g7 with hc | ⟨j, hj, rfl, hc⟩
  · rw [hc]
    exact ⟨_, _, _, rfl, rfl, hR⟩
  · obtain ⟨p1, _⟩ := g2 j hj
    have q5 := (g4 j hj).2.2.2.2.2.1
    have e9 := shB_e g5 (show j < 6 by omega)
    have hnb : nn b 1 := by
      rcases hb with rfl | rfl
      · exact ⟨0, by omega, rfl⟩
      · exact ⟨1, by omega, rfl⟩
    rw [hc, if_pos rfl, if_pos rfl, C_r0 g1.1.1, C_lr1 (by omega) p1, C_gio, C_r0 g1.1.1, C_lr1 (by omega) p1, C_pz (by rw [kC_o]; exact isC_ck _) b hb, q5, L_9, r_becomes (by omega), r_becomes (by omega), fm_bi_s, fm_bi_s, e9, b2i_if]
    have hrep := Rep_pane hR (x := b) g6 g7 hj (Or.inr (Or.inr ⟨rfl, rfl, hnb⟩))
    refine ⟨b2i (shB (ρ 1) j), _, wm ρ 1 (9 + j) b, ?_, ?_, hrep⟩
    · cases shB (ρ 1) j
      · exact if_neg (by decide)
      · exact if_pos rfl
    · rcases hb with rfl | rfl
      · exact if_pos rfl
      · exact if_neg (by decide)
theorem x_set (hR : Rep Kd μ n ρ) (a b c : Int32) : ∃ r μ' ρ', m_X11_set (kC Kd) lC 0 a b c (μ, n) = some (r, (μ', n)) ∧ m_X12_set kR lR 0 a b c (ρ, nR) = some (r, (ρ', nR)) ∧ Rep Kd μ' n ρ' := by
  obtain ⟨np, i, cl, f, t, ⟨g1, g2, g3, g4, g5, g6, g7, g8, g9, g10⟩, h99⟩ := Rep_gen hR
  unfold m_X11_set m_X12_set
  simp only [C_c0, R_ck, x_pC g3 g6, x_pR g6, fm_b1_s, b2i_if]
  rcases pane_c a g7 with hc | ⟨j, hj, rfl, hc⟩
  · rw [hc]
    exact ⟨_, _, _, rfl, rfl, hR⟩
  · obtain ⟨p1, _⟩ := g2 j hj
    obtain ⟨q0, q1, q2, q3, q4, q5, q6, q7⟩ := g4 j hj
    rw [hc, if_pos rfl, if_pos rfl]
    simp only [k_isWithin, r_in0, fm_b1_s, b2i_if]
    rw [show (9 : Int32) = nI 9 from rfl, show (4095 : Int32) = nI 4095 from rfl]
    rcases in_c b (m := 1) (by omega) with hc | ⟨w, hw, rfl, hc⟩
    · rw [show (1 : Int32) = nI 1 from rfl, hc]
      exact ⟨_, _, _, rfl, rfl, hR⟩
    rw [show (1 : Int32) = nI 1 from rfl, hc, if_pos rfl, if_pos rfl]
    have hw0 : w = 0 ∨ w = 1 := by omega
    rcases hw0 with rfl | rfl
    · rw [if_pos (show nI 0 = 0 from rfl), if_pos (show nI 0 = 0 from rfl)]
      rcases in_c c (m := 9) (by omega) with hc | ⟨d, hd, rfl, hc⟩
      · rw [hc]
        exact ⟨_, _, _, rfl, rfl, hR⟩
      · rw [hc, if_pos rfl, if_pos rfl, C_r0 g1.1.1, C_lr1 (by omega) p1, if_pos (show nI 0 = 0 from rfl), if_pos (show nI 0 = 0 from rfl), C_gio, if_pos (show nI 0 = 0 from rfl), C_pio, L_15, r_becomes (by omega), fm_bi_s, q3]
        exact ⟨_, _, _, rfl, rfl, Rep_pane hR g6 g7 hj (Or.inl ⟨rfl, rfl, nn_mk hd⟩)⟩
    · rw [if_neg (show ¬ nI 1 = 0 by decide), if_neg (show ¬ nI 1 = 0 by decide)]
      rcases in_c c (m := 4095) (by omega) with hc | ⟨d, hd, rfl, hc⟩
      · rw [hc]
        exact ⟨_, _, _, rfl, rfl, hR⟩
      · rw [hc, if_pos rfl, if_pos rfl, C_r0 g1.1.1, C_lr1 (by omega) p1, if_neg (show ¬ nI 1 = 0 by decide), if_neg (show ¬ nI 1 = 0 by decide), C_gio, if_neg (show ¬ nI 1 = 0 by decide), C_pio, L_3, r_becomes (by omega), fm_bi_s, q4]
        exact ⟨_, _, _, rfl, rfl, Rep_pane hR g6 g7 hj (Or.inr (Or.inl ⟨rfl, rfl, nn_mk hd⟩))⟩
end X
