/-! methods, both sides: act -/
section X
variable {Kd : Nat → Nat} {μ : Nat → Nat → Int32} {n : Nat → Nat → Option Nat} {ρ : Nat → Nat → Int32}
theorem x_act (hR : Rep Kd μ n ρ) (a b c : Int32) : ∃ r μ' ρ', m_X11_act (kC Kd) lC 0 a b c (μ, n) = some (r, (μ', n)) ∧ m_X12_act kR lR 0 a b c (ρ, nR) = some (r, (ρ', nR)) ∧ Rep Kd μ' n ρ' := by
  have hw : n 0 14 = some 22 ∧ n 22 1 = some 23 ∧ μ 22 0 = nI 20 := by
    obtain ⟨np, nt, ⟨h1, _⟩, _, _, ⟨_, _, _, _, m4, _⟩, _⟩ := hR
    exact ⟨h1.1.2.2.2.2.2.2.2.2.2.1, (h1.2.2.2.1 4 (by omega)).1, m4⟩
  obtain ⟨n14, n22, m4⟩ := hw
  have hK0 : aK μ (wm μ 22 3 0) ρ (wm ρ 0 17 0) := ⟨fun q a b => wm_r a, fun x a => wm_k a, fun q a b => wm_r a, fun x a _ _ _ => wm_k a⟩
  have hRa : Rep Kd (wm μ 22 3 0) n (wm ρ 0 17 0) := Rep_act hR hK0 (r' := 0) (by omega) (wm_s _ _ _ _) (wm_s _ _ _ _) (fun x h => absurd h (by omega))
  obtain ⟨np, i, cl, f, t, hg, h99⟩ := Rep_gen hRa
  obtain ⟨g1, g2, g3, g4, g5, g6, g7, g8, g9, g10⟩ := hg
  have zc : m_X8_clear (kC Kd) lC 22 (μ, n) = some (0, (wm μ 22 3 0, n)) := w_clear (i := 4) (by omega)
  unfold m_X11_act m_X12_act
  rw [C_r0 n14, c22, zc, fm_bi_s, R_pi]
  simp only [C_c0, R_ck, r_in0, x_pC g3 g6, x_pR g6, fm_b1_s, b2i_if]
  rcases pane_c a g7 with hc | ⟨j, hj, rfl, hc⟩
  · rw [hc]
    exact ⟨_, _, _, rfl, rfl, hRa⟩
  rw [hc, if_pos rfl, if_pos rfl, show (2 : Int32) = nI 2 from rfl]
  rcases in_c b (m := 2) (by omega) with hc | ⟨y, hy, rfl, hc⟩
  · rw [hc]
    refine ⟨0, _, _, ?_, rfl, hRa⟩
    have hne : ∀ y, y ≤ 2 → ¬ b = nI y := by
      intro y hy hb
      rw [hb] at hc
      rw [decide_eq_true (show (0 : Int32) ≤ nI y from nI_le (a := 0) (by omega) (by omega)), decide_eq_true (nI_le hy (by omega))] at hc
      cases hc
    rw [if_neg (show ¬ b = 0 from hne 0 (by omega)), if_neg (show ¬ b = 1 from hne 1 (by omega)), if_neg (show ¬ b = nI 2 from hne 2 (by omega))]
  rw [hc, if_pos rfl]
  have hs1 : (wm ρ 0 17 0) 1 = ρ 1 := wm_r (by omega)
  obtain ⟨q0, q1, q2, q3, q4, q5, q6, q7⟩ := g4 j hj
  obtain ⟨e28, l28⟩ := nn_N (by omega) (g5.2.2.2 j (by omega)).2.2.2.1
  generalize htv : (wm ρ 0 17 0) 1 (34 + j) = tv at *
  generalize hkk : N ((wm ρ 0 17 0) 1 (28 + j)) = k at *
  have hb : ∃ ρb, wm (wm (wm (wm ρ 0 17 0) 0 18 (nI k)) 0 19 (nI j)) 0 20 tv = ρb ∧ aI Kd (wm μ 22 3 0) n ρb j k tv 0 ∧ aK (wm μ 22 3 0) (wm μ 22 3 0) (wm ρ 0 17 0) ρb := by
    refine ⟨_, rfl, ⟨⟨by omega, q6, (g2 j hj).2.2.1, n22⟩, ⟨q1, q2, ?_, wm_s _ _ _ _⟩, ⟨?_, ?_, ?_, wm_s _ _ _ _⟩, fun x h => absurd h (by omega)⟩, fun _ _ _ => rfl, fun _ _ => rfl, fun q h1 h2 => ?_, fun x x17 x18 x19 x20 => ?_⟩
    · rw [wm_k (by omega)]; exact m4
    · rw [wm_k (by omega), wm_k (by omega), wm_k (by omega), wm_s]; rfl
    · rw [wm_k (by omega), wm_k (by omega), wm_s]
    · rw [wm_k (by omega), wm_s]
    · rw [wm_r h1, wm_r h1, wm_r h1]
    · rw [wm_k x20, wm_k x19, wm_k x18]
  obtain ⟨ρb, hb1, hb2, hb3⟩ := hb
  have L34 : (34 : Int32) + nI j = nI (34 + j) := nI_add 34 j
  have L28 : (28 : Int32) + nI j = nI (28 + j) := nI_add 28 j
  have s34 : (wm (wm (wm ρ 0 17 0) 0 18 (nI k)) 0 19 (nI j)) 1 (34 + j) = tv := by rw [wm_r (by omega), wm_r (by omega)]; exact htv
  rw [R_g1, L28, R_s (by omega), e28, R_pi, R_pi, R_g1, L34, R_s (by omega), s34, R_pi, hb1]
  have hcase : y = 0 ∨ y = 1 ∨ y = 2 := by omega
  have hfin : ∀ {x : Int32} {μ' ρ' : Nat → Nat → Int32} {r' : Nat}, r' ≤ 0 + 8 → aI Kd μ' n ρ' j k tv r' → aK (wm μ 22 3 0) μ' ρb ρ' → Rep Kd μ' n ρ' := fun h1 h2 h3 => Rep_act hR (aK_t hK0 (aK_t hb3 h3)) (by omega) h2.2.2.1.1 h2.2.1.2.2.2 (fun x hx _ => h2.2.2.2 x hx)
  rcases hcase with h | h | h
  · subst h
    obtain ⟨x, μ', ρ', r', x0, x1, x2, x3, x4⟩ := a_dr hb2 (by omega) c
    rw [if_pos (show nI 0 = 0 from rfl), if_pos (show nI 0 = 0 from rfl), C_r0 g1.1.1, C_lr1 (by omega) (g2 j hj).1, x1, x2, fm_bi_s, fm_bi_s]
    exact ⟨_, _, _, rfl, rfl, hfin (x := x) (by omega) x3 x4⟩
  · subst h
    obtain ⟨x, μ', ρ', r', x0, x1, x2, x3, x4⟩ := a_cr hb2 (by omega) c
    rw [if_neg (show ¬ nI 1 = 0 by decide), if_neg (show ¬ nI 1 = 0 by decide), if_pos (show nI 1 = 1 from rfl), if_pos (show nI 1 = 1 from rfl), C_r0 g1.1.1, C_lr1 (by omega) (g2 j hj).1, x1, x2, fm_bi_s, fm_bi_s]
    exact ⟨_, _, _, rfl, rfl, hfin (x := x) (by omega) x3 x4⟩
  · subst h
    obtain ⟨x, μ', ρ', r', x0, x1, x2, x3, x4⟩ := a_sh hb2 (by omega) c
    rw [if_neg (show ¬ nI 2 = 0 by decide), if_neg (show ¬ nI 2 = 0 by decide), if_neg (show ¬ nI 2 = 1 by decide), if_neg (show ¬ nI 2 = 1 by decide), if_pos rfl, C_r0 g1.1.1, C_lr1 (by omega) (g2 j hj).1, x1, x2, fm_bi_s, fm_bi_s]
    exact ⟨_, _, _, rfl, rfl, hfin (x := x) (by omega) x3 x4⟩
end X
