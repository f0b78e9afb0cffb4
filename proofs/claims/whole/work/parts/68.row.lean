/-! methods, both sides: row -/
section X
variable {Kd : Nat → Nat} {μ : Nat → Nat → Int32} {n : Nat → Nat → Option Nat} {ρ : Nat → Nat → Int32}
theorem ck_9 : ∀ K, K < 7 → fm_isC (ckK K) 9 = decide (K = 6) := by decide
theorem x_row (hR : Rep Kd μ n ρ) (a b c : Int32) : ∃ r μ' ρ', m_X11_row (kC Kd) lC 0 a b c (μ, n) = some (r, (μ', n)) ∧ m_X12_row kR lR 0 a b c (ρ, nR) = some (r, (ρ', nR)) ∧ Rep Kd μ' n ρ' := by
  have hR0 := hR
  obtain ⟨np, nt, ⟨h1, h2, h3, h4, h5, h6, h7⟩, _⟩ := hR
  obtain ⟨⟨n0, _⟩, _⟩ := h1
  unfold m_X11_row m_X12_row
  simp only [C_c0, R_ck, k_isWithin, r_in0, x_pC h3 h6, x_pR h6, fm_b1_s, b2i_if]
  rcases pane_c a h7 with hc | ⟨j, hj, rfl, hc⟩
  · rw [hc]
    exact ⟨_, _, _, rfl, rfl, hR0⟩
  rw [hc, if_pos rfl, if_pos rfl, show (3 : Int32) = nI 3 from rfl, show (9 : Int32) = nI 9 from rfl]
  rcases in_c b (m := 3) (by omega) with hc | ⟨k, hk, rfl, hc⟩
  · rw [hc]
    exact ⟨_, _, _, rfl, rfl, hR0⟩
  rw [hc, if_pos rfl, if_pos rfl]
  rcases in_c c (m := 9) (by omega) with hc | ⟨y, hy, rfl, hc⟩
  · rw [hc]
    exact ⟨_, _, _, rfl, rfl, hR0⟩
  rw [hc, if_pos rfl, if_pos rfl]
  obtain ⟨p1, _, _, pn10, _⟩ := h2 j hj
  obtain ⟨q0, q1, q2, q3, q4, q5, q6, q7⟩ := h4 j hj
  obtain ⟨e28, l28⟩ := nn_N (by omega) (h5.2.2.2 j (by omega)).2.2.2.1
  have hK : kC Kd (100 + 6 * j) = ckK (N (ρ 1 (28 + j))) := by rw [kC_o, q6]
  have h9 := ck_9 (N (ρ 1 (28 + j))) (by omega)
  have h66 : (nI (N (ρ 1 (28 + j))) = 6 ↔ N (ρ 1 (28 + j)) = 6) := nI_eq (b := 6) (by omega) (by omega)
  rw [C_r0 n0, C_lr1 (by omega) p1]
  unfold fm_ins
  rw [if_pos (by rw [hK]; exact isC_ck _), hK, h9]
  simp (disch := omega) only [R_g1, L_28, R_s]
  rw [e28, N_nI (by omega)]
  by_cases h : N (ρ 1 (28 + j)) = 6
  · rw [if_pos (h66.2 h), decide_eq_true h, if_pos rfl, if_neg (show ¬ (1 : Int32) = 0 by decide)]
    have hk9 : kC Kd (100 + 6 * j) = 9 := by rw [hK, h]; rfl
    have hch : m_X9_change (kC Kd) lC (100 + 6 * j) (nI k) (nI y) (μ, n) = some (ρ 1 (40 + 4 * j + k), (wm μ (101 + 6 * j) k (nI y), n)) := by
      unfold m_X9_change
      rw [C_gr (by rw [hk9]; rfl) pn10, C_lp (by omega), C_gr (by rw [hk9]; rfl) pn10, C_st (kC_1 Kd j) (lC_1 j) (by omega) (by decide), q7 h k (by omega)]
    have hck : ∀ {α : Type} (F : Option α), fm_ck (ckK (N (ρ 1 (28 + j))) == 9) F = F := fun F => C_ck (by rw [h]; rfl) F
    rw [hck, hck, hch, fm_bi_s, M_4, L_40, nI_add, r_becomes (by omega), fm_bi_s]
    exact ⟨_, _, _, rfl, rfl, Rep_place hR0 h6 h7 hj (by omega) (nn_mk hy)⟩
  · rw [if_neg (fun a => h (h66.1 a)), decide_eq_false h, if_neg (show ¬ false = true by decide), if_pos rfl]
    exact ⟨_, _, _, rfl, rfl, hR0⟩
end X
