/-! rows of numbers; methods, both sides: count, looked -/
theorem kC_r (Kd : Nat → Nat) {i : Nat} (hi : i < 6) : kC Kd (10 + 3 * i) = 8 ∧ kC Kd (11 + 3 * i) = 13 ∧ kC Kd (12 + 3 * i) = 13 := by
  have h : i = 0 ∨ i = 1 ∨ i = 2 ∨ i = 3 ∨ i = 4 ∨ i = 5 := by omega
  rcases h with rfl | rfl | rfl | rfl | rfl | rfl <;> exact ⟨rfl, rfl, rfl⟩
/-- how many rows a Rows has room for -/
def mW (i : Nat) : Nat := match i with
  | 0 => 100
  | 1 => 5
  | 2 => 8
  | 3 => 8
  | 4 => 20
  | _ => 2
theorem lC_r {i : Nat} (hi : i < 6) : lC (11 + 3 * i) = 3 * mW i ∧ lC (12 + 3 * i) = 3 * mW i := by
  have h : i = 0 ∨ i = 1 ∨ i = 2 ∨ i = 3 ∨ i = 4 ∨ i = 5 := by omega
  rcases h with rfl | rfl | rfl | rfl | rfl | rfl <;> exact ⟨rfl, rfl⟩
theorem mW_le (i : Nat) : mW i ≤ 100 ∧ 0 < mW i := by
  unfold mW
  split <;> omega
section W
variable {α : Type} {Kd : Nat → Nat} {μ : Nat → Nat → Int32} {n : Nat → Nat → Option Nat} {i : Nat}
theorem C_gw (hi : i < 6) (k : Nat) (F : Int32 → Option α) : fm_gi (kC Kd) 8 (10 + 3 * i) k (μ, n) F = F (μ (10 + 3 * i) k) := C_gi (by rw [(kC_r Kd hi).1]; rfl) F
theorem C_pw (hi : i < 6) (k : Nat) (x : Int32) (F : fm_M → Option α) : fm_pi (kC Kd) 8 (10 + 3 * i) k (μ, n) x F = F (wm μ (10 + 3 * i) k x, n) := C_pi (by rw [(kC_r Kd hi).1]; rfl) x F
theorem C_rw (hi : i < 6) {k q : Nat} (hq : n (10 + 3 * i) k = some q) (F : Nat → Option α) : fm_gr (kC Kd) 8 (10 + 3 * i) k (μ, n) F = F q := C_gr (by rw [(kC_r Kd hi).1]; rfl) hq F
theorem C_cw (hi : i < 6) (F : Option α) : fm_ck (kC Kd (10 + 3 * i) == 8) F = F := C_ck (by rw [(kC_r Kd hi).1]; rfl) F
theorem C_lw (hi : i < 6) {x : Nat} (h : x < 3 * mW i) (F : Int32 → Option α) : fm_ld (kC Kd) lC 13 (11 + 3 * i) (nI x) (μ, n) F = F (μ (11 + 3 * i) x) := C_ld (kC_r Kd hi).2.1 (lC_r hi).1 h (by have := mW_le i; omega) F
theorem C_ww (hi : i < 6) {x : Nat} (h : x < 3 * mW i) (y : Int32) (F : fm_M → Option α) : fm_st (kC Kd) lC (11 + 3 * i) (nI x) y (μ, n) F = F (wm μ (11 + 3 * i) x y, n) := C_st (kC_r Kd hi).2.1 (lC_r hi).1 h (by have := mW_le i; omega) y F
theorem w_size (hi : i < 6) {c : Nat} (h3 : μ (10 + 3 * i) 3 = nI c) (h0 : μ (10 + 3 * i) 0 = nI (mW i)) (hc : c < 2000) : m_X8_size (kC Kd) lC (10 + 3 * i) (μ, n) = some (nI (min c (mW i))) := by
  have hm := mW_le i
  have hl : (nI (mW i) < nI c ↔ mW i < c) := nI_ltI (by omega) (by omega)
  unfold m_X8_size
  rw [C_gw hi, C_gw hi, R_let, h3, h0]
  by_cases h : mW i < c
  · rw [if_pos (hl.2 h), Nat.min_eq_right (by omega)]
  · rw [if_neg (fun a => h (hl.1 a)), Nat.min_eq_left (by omega)]
theorem w_full (hi : i < 6) {c : Nat} (h3 : μ (10 + 3 * i) 3 = nI c) (h0 : μ (10 + 3 * i) 0 = nI (mW i)) (hc : c < 2000) : m_X8_isFull (kC Kd) lC (10 + 3 * i) (μ, n) = some (b2i (decide (mW i ≤ c))) := by
  have hm := mW_le i
  have hl : (nI c < nI (mW i) ↔ c < mW i) := nI_ltI (by omega) (by omega)
  unfold m_X8_isFull
  rw [C_gw hi, C_gw hi, h3, h0]
  by_cases h : c < mW i
  · rw [if_pos (hl.2 h), fm_z0, decide_eq_false (by omega)]
    rfl
  · rw [if_neg (fun a => h (hl.1 a)), fm_z1, decide_eq_true (by omega)]
    rfl
theorem w_at (hi : i < 6) {c x y : Nat} (h3 : μ (10 + 3 * i) 3 = nI c) (h0 : μ (10 + 3 * i) 0 = nI (mW i)) (hn : n (10 + 3 * i) 1 = some (11 + 3 * i)) (hc : c ≤ mW i) (hx : x < c) (hy : y < 3) : m_X8_at (kC Kd) lC (10 + 3 * i) (nI x) (nI y) (μ, n) = some (μ (11 + 3 * i) (3 * x + y)) := by
  have hm := mW_le i
  obtain ⟨c', rfl⟩ : ∃ c', c = c' + 1 := ⟨c - 1, by omega⟩
  unfold m_X8_at
  rw [C_cw hi, w_size hi h3 h0 (by omega), fm_b1_s, Nat.min_eq_left hc, k_isWithin, fm_b1_s, nI_pred, wi_T (by omega) (by omega), b2i_if, if_pos rfl, k_isWithin, fm_b1_s, show (2 : Int32) = nI 2 from rfl, wi_T (by omega) (by omega), b2i_if, if_pos rfl, C_rw hi hn, show (3 : Int32) = nI 3 from rfl, pk_mul, nI_add, C_lw hi (by omega), Nat.mul_comm x 3]
theorem w_add (hi : i < 6) {c : Nat} (a b d : Int32) (h3 : μ (10 + 3 * i) 3 = nI c) (h0 : μ (10 + 3 * i) 0 = nI (mW i)) (hn : n (10 + 3 * i) 1 = some (11 + 3 * i)) (hc : c < mW i) : m_X8_add (kC Kd) lC (10 + 3 * i) a b d (μ, n) = some (nI (c + 1), (wm (wm (wm (wm μ (11 + 3 * i) (3 * c) a) (11 + 3 * i) (3 * c + 1) b) (11 + 3 * i) (3 * c + 2) d) (10 + 3 * i) 3 (nI (c + 1)), n)) := by
  have hm := mW_le i
  have e3 : nI c * 3 = nI (3 * c) := by rw [show (3 : Int32) = nI 3 from rfl, pk_mul, Nat.mul_comm]
  unfold m_X8_add
  rw [C_gw hi, h3, if_neg (nI_pos (by omega)), C_gw hi, C_gw hi, h3, h0, if_neg (nI_ge hc (by omega)), C_rw hi hn, C_gw hi, h3, e3, C_ww hi (by omega), C_rw hi hn, C_gw hi, wm_r (by omega), h3, e3, nI_1, C_ww hi (by omega), C_rw hi hn, C_gw hi, wm_r (by omega), wm_r (by omega), h3, e3, show (2 : Int32) = nI 2 from rfl, nI_add, C_ww hi (by omega), C_gw hi, wm_r (by omega), wm_r (by omega), wm_r (by omega), h3, nI_1, C_pw hi, C_gw hi, wm_s]
theorem w_clear (hi : i < 6) : m_X8_clear (kC Kd) lC (10 + 3 * i) (μ, n) = some (0, (wm μ (10 + 3 * i) 3 0, n)) := by
  unfold m_X8_clear
  rw [C_pw hi]
end W
section X
variable {Kd : Nat → Nat} {μ : Nat → Nat → Int32} {n : Nat → Nat → Option Nat} {ρ : Nat → Nat → Int32}
theorem x_count (hR : Rep Kd μ n ρ) (a : Int32) : ∃ r, m_X11_count (kC Kd) lC 0 a (μ, n) = some r ∧ m_X12_count kR lR 0 a (ρ, nR) = some r := by
  obtain ⟨np, nt, ⟨h1, h2, h3, h4, h5, h6, h7⟩, ⟨h8, h9, h10⟩, ⟨⟨kt, t1, t2, t3, _⟩, ⟨ks, s1, s2, s3, _⟩, ⟨kp, p1, p2, p3, _⟩, ⟨kb, b1, b2, b3, _⟩⟩, ⟨m0, m1, m2, m3, m4, m5⟩, ⟨r, r1, r2, r3, _⟩, _⟩ := hR
  obtain ⟨⟨_, _, _, _, n6, _, n11, n12, n13, n14, _⟩, _⟩ := h1
  have zt := w_size (Kd := Kd) (n := n) (i := 0) (by omega) t3 m0 (by omega)
  have zs := w_size (Kd := Kd) (n := n) (i := 1) (by omega) s3 m1 (by omega)
  have zp := w_size (Kd := Kd) (n := n) (i := 2) (by omega) p3 m2 (by omega)
  have zb := w_size (Kd := Kd) (n := n) (i := 3) (by omega) b3 m3 (by omega)
  rw [Nat.min_eq_left (show kt ≤ mW 0 from t1), show 10 + 3 * 0 = 10 from rfl] at zt
  rw [Nat.min_eq_left (show ks ≤ mW 1 from s1), show 10 + 3 * 1 = 13 from rfl] at zs
  rw [Nat.min_eq_left (show kp ≤ mW 2 from p1), show 10 + 3 * 2 = 16 from rfl] at zp
  rw [Nat.min_eq_left (show kb ≤ mW 3 from b1), show 10 + 3 * 3 = 19 from rfl] at zb
  have c10 : ∀ F : Option Int32, fm_ck (kC Kd 10 == 8) F = F := fun F => C_ck rfl F
  have c13 : ∀ F : Option Int32, fm_ck (kC Kd 13 == 8) F = F := fun F => C_ck rfl F
  have c16 : ∀ F : Option Int32, fm_ck (kC Kd 16 == 8) F = F := fun F => C_ck rfl F
  have c19 : ∀ F : Option Int32, fm_ck (kC Kd 19 == 8) F = F := fun F => C_ck rfl F
  have g22 : ∀ F : Int32 → Option Int32, fm_gi (kC Kd) 8 22 3 (μ, n) F = F (μ 22 3) := fun F => C_gi rfl F
  unfold m_X11_count m_X12_count
  simp only [C_g0, C_r0 n6, C_r0 n11, C_r0 n12, C_r0 n13, C_r0 n14, c10, c13, c16, c19, g22, zt, zs, zp, zb, fm_b1_s, r_in0, b2i_if, R_gi, R_g1]
  rw [show (5 : Int32) = nI 5 from rfl]
  rcases in_c a (m := 5) (by omega) with hc | ⟨x, hx, rfl, hc⟩
  · rw [hc]
    have e : ∀ y : Nat, y ≤ 5 → a ≠ nI y := by
      intro y hy h
      rw [h, wi_T hy (by omega)] at hc
      exact absurd hc (by decide)
    rw [if_neg (show ¬ a = 0 from e 0 (by omega)), if_neg (show ¬ a = 1 from e 1 (by omega)), if_neg (show ¬ a = 2 from e 2 (by omega)), if_neg (show ¬ a = 3 from e 3 (by omega)), if_neg (show ¬ a = 4 from e 4 (by omega)), if_neg (e 5 (by omega))]
    by_cases h6 : a = 6
    · rw [if_pos h6, if_pos h6]
      exact ⟨_, by rw [r3], by rw [r2]⟩
    · rw [if_neg h6, if_neg h6]
      exact ⟨_, rfl, rfl⟩
  · rw [hc, if_pos rfl, show (21 : Int32) = nI 21 from rfl, nI_add, R_s (by omega)]
    have hx6 : x = 0 ∨ x = 1 ∨ x = 2 ∨ x = 3 ∨ x = 4 ∨ x = 5 := by omega
    rcases hx6 with rfl | rfl | rfl | rfl | rfl | rfl
    · exact ⟨_, rfl, by rw [h3.1]; rfl⟩
    · exact ⟨_, rfl, by rw [h3.2.1]; rfl⟩
    · exact ⟨_, rfl, by rw [← s2]; rfl⟩
    · exact ⟨_, rfl, by rw [← p2]; rfl⟩
    · exact ⟨_, rfl, by rw [← b2]; rfl⟩
    · exact ⟨_, rfl, by rw [← t2]; rfl⟩
end X
