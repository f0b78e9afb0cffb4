/-! methods, both sides: town; the class's reader: tests -/
def cQ (m z : Nat) (sg : Nat → Int32) (n : Nat → Nat → Option Nat) (μ : Nat → Nat → Int32) (p c : Nat) (μ' : Nat → Nat → Int32) (r : Bool × Nat × List Op) : Prop := ∃ c', cS m z sg n μ' r.2.1 c' ∧ (c ≤ c' ∧ c' + p ≤ r.2.1 + c) ∧ cF m μ μ' ∧ cA5 m c μ μ' ∧ (r.1 = true → c' = c + r.2.2.length ∧ cdC (μ' (43 + 5 * m)) (μ' (44 + 5 * m)) c r.2.2)
theorem fm_zB {α : Type} (b : Bool) (K : Option α) : fm_z (b2i b) K = K := by
  cases b
  · exact fm_z0 K
  · exact fm_z1 K
theorem sgC_lt {x : Int32} (h : ¬ lt x = 6) (y : Nat × Nat) : sgC (lt x, y) = x := by
  have hl := (lt_n h).2
  unfold sgC
  rw [if_pos hl]
  unfold lt at h ⊢
  by_cases h0 : x = 112
  · rw [if_pos h0, h0]
    rfl
  rw [if_neg h0] at h ⊢
  by_cases h1 : x = 107
  · rw [if_pos h1, h1]
    rfl
  rw [if_neg h1] at h ⊢
  by_cases h2 : x = 99
  · rw [if_pos h2, h2]
    rfl
  rw [if_neg h2] at h ⊢
  by_cases h3 : x = 110
  · rw [if_pos h3, h3]
    rfl
  rw [if_neg h3] at h ⊢
  by_cases h4 : x = 119
  · rw [if_pos h4, h4]
    rfl
  rw [if_neg h4] at h ⊢
  by_cases h5 : x = 104
  · rw [if_pos h5, h5]
    rfl
  rw [if_neg h5] at h
  exact absurd rfl h
section R
variable {Kd : Nat → Nat} {m z : Nat} {sg : Nat → Int32} {n : Nat → Nat → Option Nat} {μ : Nat → Nat → Int32} {p c : Nat}
theorem k_tst0 (h : cS m z sg n μ p c) : m_X6_test (kC Kd) lC 30 (μ, n) = if lt (sg p) = 6 then some (0, (μ, n)) else b_X6_test_48 (kC Kd) lC fm_LF 30 (sg p) (μ, n) := by
  obtain ⟨⟨h0, _, _, _, hz⟩, h1, h2, h3, h4⟩ := h
  unfold m_X6_test lt
  rw [C_gr30 h0, C_gi30, h1, C_ld31 (by omega), h3 p h2]
  by_cases e0 : sg p = 112
  · rw [if_pos e0, if_pos e0, if_neg (by decide)]
  rw [if_neg e0, if_neg e0]
  by_cases e1 : sg p = 107
  · rw [if_pos e1, if_pos e1, if_neg (by decide)]
  rw [if_neg e1, if_neg e1]
  by_cases e2 : sg p = 99
  · rw [if_pos e2, if_pos e2, if_neg (by decide)]
  rw [if_neg e2, if_neg e2]
  by_cases e3 : sg p = 110
  · rw [if_pos e3, if_pos e3, if_neg (by decide)]
  rw [if_neg e3, if_neg e3]
  by_cases e4 : sg p = 119
  · rw [if_pos e4, if_pos e4, if_neg (by decide)]
  rw [if_neg e4, if_neg e4]
  by_cases e5 : sg p = 104
  · rw [if_pos e5, if_pos e5, if_neg (by decide)]
  rw [if_neg e5, if_neg e5, if_pos rfl, fm_z0]
theorem k_tst (hs : sgI z sg) (h : cS m z sg n μ p c) (hcp : c ≤ p) : ∃ μ', m_X6_test (kC Kd) lC 30 (μ, n) = some (b2i (tst sg p).1, (μ', n)) ∧ cQ m z sg n μ p c μ' (tst sg p) := by
  have hc := h
  obtain ⟨⟨h0, h01, ht, hm, hz⟩, h1, h2, h3, h4⟩ := h
  rw [k_tst0 hc]
  unfold tst
  by_cases hl : lt (sg p) = 6
  · rw [if_pos hl, if_pos hl]
    exact ⟨μ, rfl, c, hc, ⟨Nat.le_refl _, by simp only; omega⟩, cF_r m μ, fun _ _ => ⟨rfl, rfl⟩, fun h => absurd h (by simp)⟩
  · rw [if_neg hl, if_neg hl]
    have hp1 := sgI_n hs (lt_n hl).1
    have hc1 : cS m z sg n (wm μ 30 2 (nI (p + 1))) (p + 1) c := cS_p hc (by omega)
    rw [show fm_LF = 999 + 1 from rfl, b_X6_test_48]
    generalize b_X6_test_48 (kC Kd) lC 999 = G
    unfold k_X6_test_48
    rw [C_gi30, h1, C_pi30, nI_1, C_gr30 h0, C_gi30, wm_s, C_ld31 (by omega), wm_r (by omega), h3 (p + 1) (by omega)]
    by_cases hr : rl (sg (p + 1)) = 3
    · rw [if_pos hr]
      have hn : ¬ sg (p + 1) = 60 ∧ ¬ sg (p + 1) = 61 ∧ ¬ sg (p + 1) = 62 := ⟨fun h => by rw [h] at hr; exact absurd hr (by decide), fun h => by rw [h] at hr; exact absurd hr (by decide), fun h => by rw [h] at hr; exact absurd hr (by decide)⟩
      rw [if_neg hn.1, if_neg hn.2.1, if_neg hn.2.2, fm_z0]
      exact ⟨_, rfl, c, hc1, ⟨Nat.le_refl _, by simp only; omega⟩, cF_30 _ _ _ _, cA_30 _ _ _ _ _, fun h => absurd h (by simp)⟩
    · rw [if_neg hr]
      have hp2 := sgI_n hs (rl_n hr).1
      have hc2 : cS m z sg n (wm (wm μ 30 2 (nI (p + 1))) 30 2 (nI (p + 2))) (p + 2) c := cS_p hc1 (by omega)
      obtain ⟨μ3, n1, n2, n3, n4⟩ := k_num (Kd := Kd) hs hc2
      obtain ⟨μ4, a1, a2, a3, a4, a5, a6⟩ := k_add (Kd := Kd) n2 (show c < 100 by omega) (sg p) (nI (icN (Pv (sg (p + 1)) (μ3 30 3)) 12))
      have hf3 : cF m μ μ3 := cF_t (cF_30 m μ 2 (nI (p + 1))) (cF_t (cF_30 m _ 2 (nI (p + 2))) ⟨fun r x _ _ _ => n3 r x, fun x _ => by rw [n3 _ (by omega)]⟩)
      have hA3 : cA5 m c μ μ3 := cA_t (cA_30 m c μ 2 (nI (p + 1))) (cA_t (cA_30 m c _ 2 (nI (p + 2))) (fun i _ => by rw [n3 _ (by omega), n3 _ (by omega)]; exact ⟨rfl, rfl⟩))
      obtain ⟨no1, no2, no3⟩ := num_ok hs (show p + 2 ≤ z by omega)
      have htail : (fm_gi (kC Kd) 6 30 2 (wm μ 30 2 (nI (p + 1)), n) fun x90 => fm_pi (kC Kd) 6 30 2 (wm μ 30 2 (nI (p + 1)), n) (x90 + 1) fun S95 => fm_ck (kC Kd 30 == 6) <| fm_bi (m_X6_number (kC Kd) lC 30 S95) fun x99 S99 => fm_gr (kC Kd) 6 30 1 S99 fun q104 => fm_gi (kC Kd) 6 30 3 S99 fun x110 => fm_b1 (m_X6_valuesSo (kC Kd) lC (sg (p + 1)) x110 S99) fun x113 => fm_ck (kC Kd q104 == 10) <| fm_b1 (m_X10_addSign (kC Kd) lC q104 (sg p) x113 S99) fun S116 => fm_z x99 (some (x99, S116))) = some (b2i (num sg (p + 2)).1, (μ4, n)) := by
        rw [C_gi30, wm_s, C_pi30, nI_1, C_ck30, n1, fm_bi_s, C_gr30 h01, C_gi30, k_vs, fm_b1_s, C_ckt (by omega), a1, fm_b1_s, fm_zB]
      refine ⟨μ4, ?_, c + 1, a2, ⟨Nat.le_succ c, by simp only; omega⟩, cF_t hf3 a3, cA_t hA3 a4, fun hok => ?_⟩
      · by_cases e0 : sg (p + 1) = 60
        · rw [if_pos e0]; exact htail
        rw [if_neg e0]
        by_cases e1 : sg (p + 1) = 61
        · rw [if_pos e1]; exact htail
        rw [if_neg e1]
        by_cases e2 : sg (p + 1) = 62
        · rw [if_pos e2]; exact htail
        · refine absurd ?_ hr
          unfold rl
          rw [if_neg e0, if_neg e1, if_neg e2]
      · refine ⟨rfl, ?_, ?_, trivial⟩
        · rw [a5, sgC_lt hl]
        · unfold vlC
          rw [if_pos (lt_n hl).2, a6, n4 hok, Pv_m hr (no3 hok).2]
end R
