/-! methods, both sides: image, undo -/
def wc (μ : Nat → Nat → Int32) (a b L : Nat) : Nat → Nat → Int32 := fun r k => if r = b ∧ k < L then μ a k else μ r k
theorem wc_r {μ : Nat → Nat → Int32} {a b L r : Nat} (h : r ≠ b) : wc μ a b L r = μ r := by
  funext k
  exact if_neg (fun x => h x.1)
theorem wc_s {μ : Nat → Nat → Int32} {a b L k : Nat} (h : k < L) : wc μ a b L b k = μ a k := if_pos ⟨rfl, h⟩
theorem C_cp {α : Type} {kap lam : Nat → Nat} {a b L : Nat} {μ : Nat → Nat → Int32} {n : Nat → Nat → Option Nat} (ha : kap a = 13) (hb : kap b = 13) (la : lam a = L) (lb : lam b = L) (hL : L < 2 ^ 31) (F : fm_M → Option α) : fm_cp kap lam a 0 b 0 (nI L) (μ, n) F = F (wc μ a b L, n) := by
  unfold fm_cp
  rw [nI_clamp hL]
  exact if_pos ⟨ha, hb, rfl, rfl, nI_nlt (b := 0) (by omega) hL, Nat.le_of_eq la.symm, Nat.le_of_eq lb.symm⟩
section W
variable {α : Type} {Kd : Nat → Nat} {μ : Nat → Nat → Int32} {n : Nat → Nat → Option Nat} {i : Nat}
theorem w_keep (hi : i < 6) (h1 : n (10 + 3 * i) 1 = some (11 + 3 * i)) (h2 : n (10 + 3 * i) 2 = some (12 + 3 * i)) : m_X8_keep (kC Kd) lC (10 + 3 * i) (μ, n) = some (wm (wc μ (11 + 3 * i) (12 + 3 * i) (3 * mW i)) (10 + 3 * i) 4 (μ (10 + 3 * i) 3), n) := by
  have hm := mW_le i
  unfold m_X8_keep
  rw [C_rw hi h1, C_rw hi h2, C_rw hi h1, C_ln (kC_r Kd hi).2.1 (lC_r hi).1, C_cp (kC_r Kd hi).2.1 (kC_r Kd hi).2.2 (lC_r hi).1 (lC_r hi).2 (by omega), C_gw hi, C_pw hi, wc_r (by omega)]
theorem w_back (hi : i < 6) (h1 : n (10 + 3 * i) 1 = some (11 + 3 * i)) (h2 : n (10 + 3 * i) 2 = some (12 + 3 * i)) : m_X8_takeBack (kC Kd) lC (10 + 3 * i) (μ, n) = some (wm (wc μ (12 + 3 * i) (11 + 3 * i) (3 * mW i)) (10 + 3 * i) 3 (μ (10 + 3 * i) 4), n) := by
  have hm := mW_le i
  unfold m_X8_takeBack
  rw [C_rw hi h2, C_rw hi h1, C_rw hi h2, C_ln (kC_r Kd hi).2.2 (lC_r hi).2, C_cp (kC_r Kd hi).2.2 (kC_r Kd hi).2.1 (lC_r hi).2 (lC_r hi).1 (by omega), C_gw hi, C_pw hi, wc_r (by omega)]
theorem p_keep {j k : Nat} (hk : Kd j = k) (hk6 : k ≤ 6) (h10 : n (100 + 6 * j) 10 = some (101 + 6 * j)) (h11 : n (100 + 6 * j) 11 = some (102 + 6 * j)) (h5 : μ (100 + 6 * j) 5 = 0 ∨ μ (100 + 6 * j) 5 = 1) : ∃ μ', v_keep (kC Kd) lC (100 + 6 * j) (μ, n) = some (μ', n) ∧ (∀ r, r ≠ 100 + 6 * j → r ≠ 102 + 6 * j → μ' r = μ r) ∧ (∀ x, x ≠ 6 → x ≠ 7 → x ≠ 8 → μ' (100 + 6 * j) x = μ (100 + 6 * j) x) ∧ μ' (100 + 6 * j) 6 = μ (100 + 6 * j) 3 ∧ μ' (100 + 6 * j) 7 = μ (100 + 6 * j) 4 ∧ μ' (100 + 6 * j) 8 = μ (100 + 6 * j) 5 ∧ (k = 6 → ∀ x, x < 4 → μ' (102 + 6 * j) x = μ (101 + 6 * j) x) := by
  have hK : kC Kd (100 + 6 * j) = ckK k := by rw [kC_o, hk]
  have hb : m_X5_keep (kC Kd) lC (100 + 6 * j) (μ, n) = some (wm (wm (wm μ (100 + 6 * j) 6 (μ (100 + 6 * j) 3)) (100 + 6 * j) 7 (μ (100 + 6 * j) 4)) (100 + 6 * j) 8 (μ (100 + 6 * j) 5), n) := by
    unfold m_X5_keep
    rw [C_gio, C_pio, C_gio, C_pio, C_gio, wm_k (by omega), wm_k (by omega), wm_k (by omega), C_pz (by rw [kC_o]; exact isC_ck _) _ h5]
  have hm : ∀ x, x ≠ 6 → x ≠ 7 → x ≠ 8 → (wm (wm (wm μ (100 + 6 * j) 6 (μ (100 + 6 * j) 3)) (100 + 6 * j) 7 (μ (100 + 6 * j) 4)) (100 + 6 * j) 8 (μ (100 + 6 * j) 5)) (100 + 6 * j) x = μ (100 + 6 * j) x := fun x h6 h7 h8 => by rw [wm_k h8, wm_k h7, wm_k h6]
  unfold v_keep
  rw [hK]
  by_cases h6 : k = 6
  · subst h6
    have hck : fm_isC (kC Kd (100 + 6 * j)) 9 = true := by rw [hK]; rfl
    refine ⟨wc (wm (wm (wm μ (100 + 6 * j) 6 (μ (100 + 6 * j) 3)) (100 + 6 * j) 7 (μ (100 + 6 * j) 4)) (100 + 6 * j) 8 (μ (100 + 6 * j) 5)) (101 + 6 * j) (102 + 6 * j) 4, ?_, fun r r1 r2 => ?_, fun x x6 x7 x8 => ?_, ?_, ?_, ?_, fun _ x hx => ?_⟩
    · rw [show ckK 6 = 9 from rfl, if_neg (by decide), if_neg (by decide), if_neg (by decide), if_neg (by decide), if_neg (by decide), if_neg (by decide), if_pos rfl]
      unfold m_X9_keep
      rw [C_ck hck, hb, fm_b1_s, C_gr hck h10, C_gr hck h11, C_gr hck h10, C_ln (kC_1 Kd j) (lC_1 j), C_cp (kC_1 Kd j) (kC_2 Kd j) (lC_1 j) (lC_2 j) (by decide)]
    · rw [wc_r r2, wm_r r1, wm_r r1, wm_r r1]
    · rw [wc_r (by omega)]
      exact hm x x6 x7 x8
    · rw [wc_r (by omega), wm_k (by omega), wm_k (by omega), wm_s]
    · rw [wc_r (by omega), wm_k (by omega), wm_s]
    · rw [wc_r (by omega), wm_s]
    · rw [wc_s hx, wm_r (by omega), wm_r (by omega), wm_r (by omega)]
  · refine ⟨_, ?_, fun r r1 r2 => by rw [wm_r r1, wm_r r1, wm_r r1], hm, by rw [wm_k (by omega), wm_k (by omega), wm_s], by rw [wm_k (by omega), wm_s], wm_s _ _ _ _, fun h => absurd h h6⟩
    have hcase : k = 0 ∨ k = 1 ∨ k = 2 ∨ k = 3 ∨ k = 4 ∨ k = 5 := by omega
    rcases hcase with h | h | h | h | h | h <;> subst h <;> exact hb
theorem p_back {j k : Nat} (hk : Kd j = k) (hk6 : k ≤ 6) (h10 : n (100 + 6 * j) 10 = some (101 + 6 * j)) (h11 : n (100 + 6 * j) 11 = some (102 + 6 * j)) (h5 : μ (100 + 6 * j) 8 = 0 ∨ μ (100 + 6 * j) 8 = 1) : ∃ μ', v_takeBack (kC Kd) lC (100 + 6 * j) (μ, n) = some (μ', n) ∧ (∀ r, r ≠ 100 + 6 * j → r ≠ 101 + 6 * j → μ' r = μ r) ∧ (∀ x, x ≠ 3 → x ≠ 4 → x ≠ 5 → μ' (100 + 6 * j) x = μ (100 + 6 * j) x) ∧ μ' (100 + 6 * j) 3 = μ (100 + 6 * j) 6 ∧ μ' (100 + 6 * j) 4 = μ (100 + 6 * j) 7 ∧ μ' (100 + 6 * j) 5 = μ (100 + 6 * j) 8 ∧ (k = 6 → ∀ x, x < 4 → μ' (101 + 6 * j) x = μ (102 + 6 * j) x) := by
  have hK : kC Kd (100 + 6 * j) = ckK k := by rw [kC_o, hk]
  have hb : m_X5_takeBack (kC Kd) lC (100 + 6 * j) (μ, n) = some (wm (wm (wm μ (100 + 6 * j) 3 (μ (100 + 6 * j) 6)) (100 + 6 * j) 4 (μ (100 + 6 * j) 7)) (100 + 6 * j) 5 (μ (100 + 6 * j) 8), n) := by
    unfold m_X5_takeBack
    rw [C_gio, C_pio, C_gio, C_pio, C_gio, wm_k (by omega), wm_k (by omega), wm_k (by omega), C_pz (by rw [kC_o]; exact isC_ck _) _ h5]
  have hm : ∀ x, x ≠ 3 → x ≠ 4 → x ≠ 5 → (wm (wm (wm μ (100 + 6 * j) 3 (μ (100 + 6 * j) 6)) (100 + 6 * j) 4 (μ (100 + 6 * j) 7)) (100 + 6 * j) 5 (μ (100 + 6 * j) 8)) (100 + 6 * j) x = μ (100 + 6 * j) x := fun x h6 h7 h8 => by rw [wm_k h8, wm_k h7, wm_k h6]
  unfold v_takeBack
  rw [hK]
  by_cases h6 : k = 6
  · subst h6
    have hck : fm_isC (kC Kd (100 + 6 * j)) 9 = true := by rw [hK]; rfl
    refine ⟨wc (wm (wm (wm μ (100 + 6 * j) 3 (μ (100 + 6 * j) 6)) (100 + 6 * j) 4 (μ (100 + 6 * j) 7)) (100 + 6 * j) 5 (μ (100 + 6 * j) 8)) (102 + 6 * j) (101 + 6 * j) 4, ?_, fun r r1 r2 => ?_, fun x x6 x7 x8 => ?_, ?_, ?_, ?_, fun _ x hx => ?_⟩
    · rw [show ckK 6 = 9 from rfl, if_neg (by decide), if_neg (by decide), if_neg (by decide), if_neg (by decide), if_neg (by decide), if_neg (by decide), if_pos rfl]
      unfold m_X9_takeBack
      rw [C_ck hck, hb, fm_b1_s, C_gr hck h11, C_gr hck h10, C_gr hck h10, C_ln (kC_1 Kd j) (lC_1 j), C_cp (kC_2 Kd j) (kC_1 Kd j) (lC_2 j) (lC_1 j) (by decide)]
    · rw [wc_r r2, wm_r r1, wm_r r1, wm_r r1]
    · rw [wc_r (by omega)]
      exact hm x x6 x7 x8
    · rw [wc_r (by omega), wm_k (by omega), wm_k (by omega), wm_s]
    · rw [wc_r (by omega), wm_k (by omega), wm_s]
    · rw [wc_r (by omega), wm_s]
    · rw [wc_s hx, wm_r (by omega), wm_r (by omega), wm_r (by omega)]
  · refine ⟨_, ?_, fun r r1 r2 => by rw [wm_r r1, wm_r r1, wm_r r1], hm, by rw [wm_k (by omega), wm_k (by omega), wm_s], by rw [wm_k (by omega), wm_s], wm_s _ _ _ _, fun h => absurd h h6⟩
    have hcase : k = 0 ∨ k = 1 ∨ k = 2 ∨ k = 3 ∨ k = 4 ∨ k = 5 := by omega
    rcases hcase with h | h | h | h | h | h <;> subst h <;> exact hb
end W
