/-! methods, both sides: act -/
section A
variable {Kd : Nat → Nat} {n : Nat → Nat → Option Nat} {j k : Nat} {tv : Int32}
theorem a_pc {μ ρ : Nat → Nat → Int32} {r : Nat} (hA : aI Kd μ n ρ j k tv r) (hr : r + 3 ≤ 20) (a : Int32) : ∃ x μ' ρ' r', r' ≤ r + 3 ∧ m_X5_creaks (kC Kd) lC (100 + 6 * j) a (μ, n) = some (x, (μ', n)) ∧ m_X12_plainCreaks kR lR 0 a (ρ, nR) = some (x, (ρ', nR)) ∧ aI Kd μ' n ρ' j k tv r' ∧ aK μ μ' ρ ρ' := by
  obtain ⟨y, μ1, ρ1, x1, x2, x3, x4⟩ := a_step hA (by omega) 2
  obtain ⟨x, μ2, ρ2, r2, y0, y1, y2, y3, y4⟩ := a_dr x3 (by omega) a
  refine ⟨x - tv, μ2, ρ2, r2, by omega, ?_, ?_, y3, aK_t x4 y4⟩
  · unfold m_X5_creaks
    rw [C_gro hA.1.2.2.1, c22, x1, fm_bi_s, y1, fm_bi_s, C_gio, y3.2.1.2.1]
  · unfold m_X12_plainCreaks
    rw [R_ck, x2, fm_b1_s, R_ck, y2, fm_bi_s, R_gi, y3.2.2.1.2.2.2]
theorem a_cr {μ ρ : Nat → Nat → Int32} {r : Nat} (hA : aI Kd μ n ρ j k tv r) (hr : r + 4 ≤ 20) (a : Int32) : ∃ x μ' ρ' r', r' ≤ r + 4 ∧ v_creaks (kC Kd) lC (100 + 6 * j) a (μ, n) = some (x, (μ', n)) ∧ m_X12_creaksActs kR lR 0 a (ρ, nR) = some (x, (ρ', nR)) ∧ aI Kd μ' n ρ' j k tv r' ∧ aK μ μ' ρ ρ' := by
  have hK : kC Kd (100 + 6 * j) = ckK k := by rw [kC_o, hA.1.2.1]
  have hu := fun S => (r_un S k hA.1.1).2.1
  unfold v_creaks m_X12_creaksActs
  rw [hK, R_gi, hA.2.2.1.2.1, hu, fm_b1_s, b2i_if]
  have hk7 := hA.1.1
  have hcase : (k = 0 ∨ k = 1 ∨ k = 3 ∨ k = 4) ∨ (k = 2 ∨ k = 5) ∨ k = 6 := by omega
  rcases hcase with hk | hk | hk
  · obtain ⟨x, μ', ρ', r', x0, x1, x2, x3, x4⟩ := a_pc hA (by omega) a
    refine ⟨x, μ', ρ', r', by omega, ?_, ?_, x3, x4⟩
    · rcases hk with hk | hk | hk | hk <;> subst hk <;> exact x1
    · rw [if_neg (by rcases hk with hk | hk | hk | hk <;> subst hk <;> decide), R_gi, hA.2.2.1.2.1, if_neg (by rcases hk with hk | hk | hk | hk <;> subst hk <;> decide), R_ck, x2, fm_bi_s]
  · obtain ⟨y, μ1, ρ1, x1, x2, x3, x4⟩ := a_step hA (by omega) 21
    obtain ⟨x, μ2, ρ2, r2, y0, y1, y2, y3, y4⟩ := a_pc x3 (by omega) a
    have hck : fm_isC (kC Kd (100 + 6 * j)) 4 = true := by rw [hK]; rcases hk with hk | hk <;> subst hk <;> rfl
    have hm : m_X4_creaks (kC Kd) lC (100 + 6 * j) a (μ, n) = some (-x, (μ2, n)) := by
      unfold m_X4_creaks
      rw [C_gr hck hA.1.2.2.1, c22, x1, fm_bi_s, C_ck hck, y1, fm_bi_s]
    refine ⟨-x, μ2, ρ2, r2, by omega, ?_, ?_, y3, aK_t x4 y4⟩
    · rcases hk with hk | hk <;> subst hk <;> exact hm
    · rw [if_pos (by rcases hk with hk | hk <;> subst hk <;> decide), R_ck, x2, fm_b1_s, R_ck, y2, fm_bi_s]
  · obtain ⟨y, μ1, ρ1, x1, x2, x3, x4⟩ := a_step hA (by omega) 61
    obtain ⟨x, μ2, ρ2, r2, y0, y1, y2, y3, y4⟩ := a_pc x3 (by omega) a
    have hck : fm_isC (kC Kd (100 + 6 * j)) 9 = true := by rw [hK, hk]; rfl
    have hm : m_X9_creaks (kC Kd) lC (100 + 6 * j) a (μ, n) = some (x + tv, (μ2, n)) := by
      unfold m_X9_creaks
      rw [C_gr hck hA.1.2.2.1, c22, x1, fm_bi_s, C_ck hck, y1, fm_bi_s, C_gi hck, y3.2.1.2.1]
    refine ⟨x + tv, μ2, ρ2, r2, by omega, ?_, ?_, y3, aK_t x4 y4⟩
    · rw [hk]; exact hm
    · rw [if_neg (by rw [hk]; decide), R_gi, hA.2.2.1.2.1, if_pos (by rw [hk]; decide), R_ck, x2, fm_b1_s, R_ck, y2, fm_bi_s, R_gi, y3.2.2.1.2.2.2]
theorem a_ps {μ ρ : Nat → Nat → Int32} {r : Nat} (hA : aI Kd μ n ρ j k tv r) (hr : r + 5 ≤ 20) (a : Int32) : ∃ x μ' ρ' r', r' ≤ r + 5 ∧ m_X5_shines (kC Kd) lC (100 + 6 * j) a (μ, n) = some (x, (μ', n)) ∧ m_X12_plainTelling kR lR 0 a (ρ, nR) = some (x, (ρ', nR)) ∧ aI Kd μ' n ρ' j k tv r' ∧ aK μ μ' ρ ρ' := by
  obtain ⟨y, μ1, ρ1, x1, x2, x3, x4⟩ := a_step hA (by omega) 3
  obtain ⟨x, μ2, ρ2, r2, y0, y1, y2, y3, y4⟩ := a_cr x3 (by omega) a
  refine ⟨x * 2, μ2, ρ2, r2, by omega, ?_, ?_, y3, aK_t x4 y4⟩
  · unfold m_X5_shines
    rw [C_gro hA.1.2.2.1, c22, x1, fm_bi_s, y1, fm_bi_s]
  · unfold m_X12_plainTelling
    rw [R_ck, x2, fm_b1_s, R_ck, y2, fm_bi_s]
theorem a_sh {μ ρ : Nat → Nat → Int32} {r : Nat} (hA : aI Kd μ n ρ j k tv r) (hr : r + 8 ≤ 20) (a : Int32) : ∃ x μ' ρ' r', r' ≤ r + 8 ∧ v_shines (kC Kd) lC (100 + 6 * j) a (μ, n) = some (x, (μ', n)) ∧ m_X12_shinesActs kR lR 0 a (ρ, nR) = some (x, (ρ', nR)) ∧ aI Kd μ' n ρ' j k tv r' ∧ aK μ μ' ρ ρ' := by
  have hK : kC Kd (100 + 6 * j) = ckK k := by rw [kC_o, hA.1.2.1]
  have hu := fun S => (r_un S k hA.1.1).2.2
  unfold v_shines m_X12_shinesActs
  rw [hK, R_gi, hA.2.2.1.2.1, hu, fm_b1_s, b2i_if]
  have hk7 := hA.1.1
  have hcase : (k = 0 ∨ k = 1 ∨ k = 2 ∨ k = 5) ∨ (k = 3 ∨ k = 6) ∨ k = 4 := by omega
  rcases hcase with hk | hk | hk
  · obtain ⟨x, μ', ρ', r', x0, x1, x2, x3, x4⟩ := a_ps hA (by omega) a
    refine ⟨x, μ', ρ', r', by omega, ?_, ?_, x3, x4⟩
    · rcases hk with hk | hk | hk | hk <;> subst hk <;> exact x1
    · rw [if_neg (by rcases hk with hk | hk | hk | hk <;> subst hk <;> decide), R_gi, hA.2.2.1.2.1, if_neg (by rcases hk with hk | hk | hk | hk <;> subst hk <;> decide), R_ck, x2, fm_bi_s]
  · obtain ⟨y, μ1, ρ1, x1, x2, x3, x4⟩ := a_step hA (by omega) 31
    obtain ⟨x, μ2, ρ2, r2, y0, y1, y2, y3, y4⟩ := a_ps x3 (by omega) a
    have hck : fm_isC (kC Kd (100 + 6 * j)) 7 = true := by rw [hK]; rcases hk with hk | hk <;> subst hk <;> rfl
    have hm : m_X7_shines (kC Kd) lC (100 + 6 * j) a (μ, n) = some (x ^^^ 7, (μ2, n)) := by
      unfold m_X7_shines
      rw [C_gr hck hA.1.2.2.1, c22, x1, fm_bi_s, C_ck hck, y1, fm_bi_s]
    refine ⟨x ^^^ 7, μ2, ρ2, r2, by omega, ?_, ?_, y3, aK_t x4 y4⟩
    · rcases hk with hk | hk <;> subst hk <;> exact hm
    · rw [if_pos (by rcases hk with hk | hk <;> subst hk <;> decide), R_ck, x2, fm_b1_s, R_ck, y2, fm_bi_s]
  · obtain ⟨y, μ1, ρ1, x1, x2, x3, x4⟩ := a_step hA (by omega) 41
    obtain ⟨x, μ2, ρ2, r2, y0, y1, y2, y3, y4⟩ := a_ps x3 (by omega) (a - 1)
    obtain ⟨x', μ3, ρ3, r3, z0, z1, z2, z3, z4⟩ := a_dr y3 (by omega) 2
    have hck : fm_isC (kC Kd (100 + 6 * j)) 2 = true := by rw [hK, hk]; rfl
    have hm : m_X2_shines (kC Kd) lC (100 + 6 * j) a (μ, n) = some (x + x', (μ3, n)) := by
      unfold m_X2_shines
      rw [C_gr hck hA.1.2.2.1, c22, x1, fm_bi_s, C_ck hck, y1, fm_bi_s, C_ck hck, z1, fm_bi_s]
    refine ⟨x + x', μ3, ρ3, r3, by omega, ?_, ?_, z3, aK_t x4 (aK_t y4 z4)⟩
    · rw [hk]; exact hm
    · rw [if_neg (by rw [hk]; decide), R_gi, hA.2.2.1.2.1, if_pos (by rw [hk]; decide), R_ck, x2, fm_b1_s, R_ck, y2, fm_bi_s, R_ck, z2, fm_bi_s]
end A
theorem Rep_act {Kd : Nat → Nat} {μ : Nat → Nat → Int32} {n : Nat → Nat → Option Nat} {μ' : Nat → Nat → Int32} {ρ ρ' : Nat → Nat → Int32} (hR : Rep Kd μ n ρ) (h : aK μ μ' ρ ρ') {r' : Nat} (hr' : r' < 1000) (h17 : ρ' 0 17 = nI r') (h22 : μ' 22 3 = nI r') (hx : ∀ x, x < r' → x < 20 → μ' 23 (3 * x) = ρ' 9 x) : Rep Kd μ' n ρ' := by
  obtain ⟨np, nt, ⟨h1, h2, h3, h4, h5, h6, h7⟩, ⟨h8, h9, h10⟩, h11, ⟨m0, m1, m2, m3, m4, m5⟩, _, h14⟩ := hR
  obtain ⟨e, e22, f, f0⟩ := h
  have r1 := f 1 (by omega) (by omega)
  have r2 := f 2 (by omega) (by omega)
  have r4 := f0 4 (by omega) (by omega) (by omega) (by omega)
  have eo : ∀ j, μ' (100 + 6 * j) = μ (100 + 6 * j) := fun j => e _ (by omega) (by omega)
  have e1 : ∀ j, μ' (101 + 6 * j) = μ (101 + 6 * j) := fun j => e _ (by omega) (by omega)
  have e2 : ∀ j, μ' (102 + 6 * j) = μ (102 + 6 * j) := fun j => e _ (by omega) (by omega)
  have eT : ∀ m cl f t, m < 6 → tC μ m cl f t → tC μ' m cl f t := fun m cl f t hm ht => tC_c (fun r x y => e r (by omega) (by omega)) hm ht
  refine ⟨np, nt, ⟨h1, h2, ?_, fun j hj => ?_, ?_, ?_, h7⟩, ⟨?_, fun m hm => ?_, eT 5 _ _ _ (by omega) h10⟩, ?_, ⟨?_, ?_, ?_, ?_, ?_, ?_⟩, ⟨r', hr', h17, h22, hx⟩, ?_⟩
  · unfold cA
    rw [r1, e 0 (by omega) (by omega)]
    exact h3
  · unfold cP
    rw [r1, eo, e1]
    exact h4 j hj
  · rw [r1]; exact h5
  · rw [r1]; exact h6
  · rw [r1]; exact h8
  · obtain ⟨cl, f, t, t1, t2⟩ := h9 m hm
    exact ⟨cl, f, t, eT m _ _ _ (by have := h8.2.1; omega) t1, by rw [r1]; exact t2⟩
  · rw [r1, e 10 (by omega) (by omega), e 11 (by omega) (by omega), e 13 (by omega) (by omega), e 14 (by omega) (by omega), e 16 (by omega) (by omega), e 17 (by omega) (by omega), e 19 (by omega) (by omega), e 20 (by omega) (by omega)]
    exact h11
  · rw [e 10 (by omega) (by omega)]; exact m0
  · rw [e 13 (by omega) (by omega)]; exact m1
  · rw [e 16 (by omega) (by omega)]; exact m2
  · rw [e 19 (by omega) (by omega)]; exact m3
  · rw [e22 0 (by omega)]; exact m4
  · rw [e 25 (by omega) (by omega)]; exact m5
  · rw [r4, r2, r1, e 25 (by omega) (by omega)]
    unfold imgR
    simp only [eo, e2]
    rw [e 26 (by omega) (by omega), e 10 (by omega) (by omega), e 12 (by omega) (by omega), e 13 (by omega) (by omega), e 15 (by omega) (by omega), e 16 (by omega) (by omega), e 18 (by omega) (by omega), e 19 (by omega) (by omega), e 21 (by omega) (by omega)]
    exact h14
