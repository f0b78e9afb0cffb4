/-! methods, both sides: act -/
theorem r_un (S : fm_M) : ∀ k, k < 7 → m_X12_isUnder kR lR (nI k) 1 S = some (b2i (decide (k = 1) || decide (k = 4))) ∧ m_X12_isUnder kR lR (nI k) 2 S = some (b2i (decide (k = 2) || decide (k = 5))) ∧ m_X12_isUnder kR lR (nI k) 3 S = some (b2i (decide (k = 3) || decide (k = 6))) := by
  unfold m_X12_isUnder
  decide
def aK (μ μ' ρ ρ' : Nat → Nat → Int32) : Prop := (∀ q, q ≠ 22 → q ≠ 23 → μ' q = μ q) ∧ (∀ x, x ≠ 3 → μ' 22 x = μ 22 x) ∧ (∀ q, q ≠ 0 → q ≠ 9 → ρ' q = ρ q) ∧ (∀ x, x ≠ 17 → x ≠ 18 → x ≠ 19 → x ≠ 20 → ρ' 0 x = ρ 0 x)
theorem aK_t {μ μ1 μ2 ρ ρ1 ρ2 : Nat → Nat → Int32} (h : aK μ μ1 ρ ρ1) (h2 : aK μ1 μ2 ρ1 ρ2) : aK μ μ2 ρ ρ2 := ⟨fun q a b => (h2.1 q a b).trans (h.1 q a b), fun x a => (h2.2.1 x a).trans (h.2.1 x a), fun q a b => (h2.2.2.1 q a b).trans (h.2.2.1 q a b), fun x a b c d => (h2.2.2.2 x a b c d).trans (h.2.2.2 x a b c d)⟩
def aI (Kd : Nat → Nat) (μ : Nat → Nat → Int32) (n : Nat → Nat → Option Nat) (ρ : Nat → Nat → Int32) (j k : Nat) (tv : Int32) (r : Nat) : Prop := (k < 7 ∧ Kd j = k ∧ n (100 + 6 * j) 9 = some 22 ∧ n 22 1 = some 23) ∧ (μ (100 + 6 * j) 1 = nI j ∧ μ (100 + 6 * j) 2 = tv ∧ μ 22 0 = nI 20 ∧ μ 22 3 = nI r) ∧ (ρ 0 17 = nI r ∧ ρ 0 18 = nI k ∧ ρ 0 19 = nI j ∧ ρ 0 20 = tv) ∧ ∀ x, x < r → μ 23 (3 * x) = ρ 9 x
theorem a_step {Kd : Nat → Nat} {μ : Nat → Nat → Int32} {n : Nat → Nat → Option Nat} {ρ : Nat → Nat → Int32} {j k r : Nat} {tv : Int32} (hA : aI Kd μ n ρ j k tv r) (hr : r < 20) (v : Int32) : ∃ y μ' ρ', m_X8_add (kC Kd) lC 22 v 0 0 (μ, n) = some (y, (μ', n)) ∧ m_X12_ranBody kR lR 0 v (ρ, nR) = some (ρ', nR) ∧ aI Kd μ' n ρ' j k tv (r + 1) ∧ aK μ μ' ρ ρ' := by
  obtain ⟨⟨a1, a2, a3, a4⟩, ⟨b1, b2, b3, b4⟩, ⟨c1, c2, c3, c4⟩, d⟩ := hA
  refine ⟨_, _, wm (wm ρ 9 r v) 0 17 (nI (r + 1)), w_add (i := 4) (by omega) v 0 0 b4 b3 a4 hr, ?_, ⟨⟨a1, a2, a3, a4⟩, ⟨?_, ?_, ?_, wm_s _ _ _ _⟩, ⟨wm_s _ _ _ _, ?_, ?_, ?_⟩, fun x hx => ?_⟩, ⟨fun q h1 h2 => ?_, fun x hx => ?_, fun q h1 h2 => ?_, fun x h1 _ _ _ => ?_⟩⟩
  · unfold m_X12_ranBody
    rw [R_gi, c1, if_neg (show ¬ (20 : Int32) ≤ nI r from nI_ge (b := 20) hr (by omega)), R_g16, R_gi, c1, R_st (r := 9) rfl hr (by decide), R_gi, R_pi, wm_r (by omega), c1, nI_1]
  · rw [wm_r (by omega), wm_r (by omega), wm_r (by omega), wm_r (by omega)]; exact b1
  · rw [wm_r (by omega), wm_r (by omega), wm_r (by omega), wm_r (by omega)]; exact b2
  · rw [wm_k (by omega), wm_r (by omega), wm_r (by omega), wm_r (by omega)]; exact b3
  · rw [wm_k (by omega), wm_r (by omega)]; exact c2
  · rw [wm_k (by omega), wm_r (by omega)]; exact c3
  · rw [wm_k (by omega), wm_r (by omega)]; exact c4
  · rw [wm_r (by omega), wm_k (by omega), wm_k (by omega), wm_r (r' := 9) (by omega)]
    by_cases h : x = r
    · rw [h]
      exact (wm_s _ _ _ _).trans (wm_s _ _ _ _).symm
    · rw [wm_k (by omega), wm_k (by omega)]
      exact d x (by omega)
  · rw [wm_r (by omega), wm_r (by omega), wm_r (by omega), wm_r (by omega)]
  · rw [wm_k (by omega), wm_r (by omega), wm_r (by omega), wm_r (by omega)]
  · rw [wm_r (by omega), wm_r (by omega)]
  · rw [wm_k (by omega), wm_r (by omega)]
section A
variable {Kd : Nat → Nat} {n : Nat → Nat → Option Nat} {j k : Nat} {tv : Int32}
theorem c22 {Kd : Nat → Nat} {α : Type} (F : Option α) : fm_ck (kC Kd 22 == 8) F = F := C_ck rfl F
theorem a_pd {μ ρ : Nat → Nat → Int32} {r : Nat} (hA : aI Kd μ n ρ j k tv r) (hr : r < 20) (a : Int32) : ∃ μ' ρ', m_X5_drips (kC Kd) lC (100 + 6 * j) a (μ, n) = some (a + nI j, (μ', n)) ∧ m_X12_plainDrips kR lR 0 a (ρ, nR) = some (a + nI j, (ρ', nR)) ∧ aI Kd μ' n ρ' j k tv (r + 1) ∧ aK μ μ' ρ ρ' := by
  obtain ⟨y, μ', ρ', x1, x2, x3, x4⟩ := a_step hA hr 1
  refine ⟨μ', ρ', ?_, ?_, x3, x4⟩
  · unfold m_X5_drips
    rw [C_gro hA.1.2.2.1, c22, x1, fm_bi_s, C_gio, x3.2.1.1]
  · unfold m_X12_plainDrips
    rw [R_ck, x2, fm_b1_s, R_gi, x3.2.2.1.2.2.1]
theorem a_dr {μ ρ : Nat → Nat → Int32} {r : Nat} (hA : aI Kd μ n ρ j k tv r) (hr : r + 2 ≤ 20) (a : Int32) : ∃ x μ' ρ' r', r' ≤ r + 2 ∧ v_drips (kC Kd) lC (100 + 6 * j) a (μ, n) = some (x, (μ', n)) ∧ m_X12_dripsActs kR lR 0 a (ρ, nR) = some (x, (ρ', nR)) ∧ aI Kd μ' n ρ' j k tv r' ∧ aK μ μ' ρ ρ' := by
  have hK : kC Kd (100 + 6 * j) = ckK k := by rw [kC_o, hA.1.2.1]
  have hu := fun S => (r_un S k hA.1.1).1
  unfold v_drips m_X12_dripsActs
  rw [hK, R_gi, hA.2.2.1.2.1, hu, fm_b1_s, b2i_if]
  have hk7 := hA.1.1
  have hcase : k = 0 ∨ k = 1 ∨ k = 2 ∨ k = 3 ∨ k = 4 ∨ k = 5 ∨ k = 6 := by omega
  have h0 := a_pd hA (by omega) a
  rcases hcase with hk | hk | hk | hk | hk | hk | hk
  · subst hk
    obtain ⟨μ', ρ', x1, x2, x3, x4⟩ := h0
    refine ⟨_, μ', ρ', r + 1, by omega, x1, ?_, x3, x4⟩
    rw [if_neg (by decide), R_gi, hA.2.2.1.2.1, if_neg (by decide), R_ck, x2, fm_bi_s]
  · obtain ⟨y, μ1, ρ1, x1, x2, x3, x4⟩ := a_step hA (by omega) 11
    obtain ⟨μ2, ρ2, y1, y2, y3, y4⟩ := a_pd x3 (by omega) (a * 3)
    have hck : fm_isC (kC Kd (100 + 6 * j)) 3 = true := by rw [hK, hk]; rfl
    refine ⟨a * 3 + nI j, μ2, ρ2, r + 1 + 1, by omega, ?_, ?_, y3, aK_t x4 y4⟩
    · rw [hk]
      unfold m_X3_drips
      rw [C_gr hck hA.1.2.2.1, c22, x1, fm_bi_s, C_ck hck, y1, fm_bi_s]
      rfl
    · rw [if_pos (by rw [hk]; decide), R_ck, x2, fm_b1_s, R_ck, y2, fm_bi_s]
  · subst hk
    obtain ⟨μ', ρ', x1, x2, x3, x4⟩ := h0
    refine ⟨_, μ', ρ', r + 1, by omega, x1, ?_, x3, x4⟩
    rw [if_neg (by decide), R_gi, hA.2.2.1.2.1, if_neg (by decide), R_ck, x2, fm_bi_s]
  · subst hk
    obtain ⟨μ', ρ', x1, x2, x3, x4⟩ := h0
    refine ⟨_, μ', ρ', r + 1, by omega, x1, ?_, x3, x4⟩
    rw [if_neg (by decide), R_gi, hA.2.2.1.2.1, if_neg (by decide), R_ck, x2, fm_bi_s]
  · obtain ⟨y, μ1, ρ1, x1, x2, x3, x4⟩ := a_step hA (by omega) 11
    obtain ⟨μ2, ρ2, y1, y2, y3, y4⟩ := a_pd x3 (by omega) (a * 3)
    have hck : fm_isC (kC Kd (100 + 6 * j)) 3 = true := by rw [hK, hk]; rfl
    refine ⟨a * 3 + nI j, μ2, ρ2, r + 1 + 1, by omega, ?_, ?_, y3, aK_t x4 y4⟩
    · rw [hk]
      unfold m_X3_drips
      rw [C_gr hck hA.1.2.2.1, c22, x1, fm_bi_s, C_ck hck, y1, fm_bi_s]
      rfl
    · rw [if_pos (by rw [hk]; decide), R_ck, x2, fm_b1_s, R_ck, y2, fm_bi_s]
  · obtain ⟨y, μ1, ρ1, x1, x2, x3, x4⟩ := a_step hA (by omega) 51
    obtain ⟨μ2, ρ2, y1, y2, y3, y4⟩ := a_pd x3 (by omega) a
    have hck : fm_isC (kC Kd (100 + 6 * j)) 0 = true := by rw [hK, hk]; rfl
    refine ⟨(a + nI j) ^^^ nI j, μ2, ρ2, r + 1 + 1, by omega, ?_, ?_, y3, aK_t x4 y4⟩
    · rw [hk]
      unfold m_X0_drips
      rw [C_gr hck hA.1.2.2.1, c22, x1, fm_bi_s, C_ck hck, y1, fm_bi_s, C_gi hck, y3.2.1.1]
      rfl
    · rw [if_neg (by rw [hk]; decide), R_gi, hA.2.2.1.2.1, if_pos (by rw [hk]; decide), R_ck, x2, fm_b1_s, R_ck, y2, fm_bi_s, R_gi, y3.2.2.1.2.2.1]
  · subst hk
    obtain ⟨μ', ρ', x1, x2, x3, x4⟩ := h0
    refine ⟨_, μ', ρ', r + 1, by omega, x1, ?_, x3, x4⟩
    rw [if_neg (by decide), R_gi, hA.2.2.1.2.1, if_neg (by decide), R_ck, x2, fm_bi_s]
end A
