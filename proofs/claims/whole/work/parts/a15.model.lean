/-! methods, both sides: town; the reference: numbers, letters -/
theorem r_isD (x : Int32) (S : fm_M) : m_X12_in kR lR x 48 57 S = some (b2i (isD x)) := r_in x 48 57 S
def ixl (t : Nat) (x : Int32) : Nat → Nat → Nat
  | 0, i => i
  | d + 1, i => if x = fm_chr t i then i else ixl t x d (i + 1)
theorem ixl_s (t : Nat) (x : Int32) (d i : Nat) : ixl t x (d + 1) i = if x = fm_chr t i then i else ixl t x d (i + 1) := rfl
theorem ixl_le (t : Nat) (x : Int32) : ∀ d i, ixl t x d i ≤ i + d
  | 0, i => Nat.le_refl _
  | d + 1, i => by
    have ih := ixl_le t x d (i + 1)
    rw [ixl_s]
    split <;> omega
theorem chr_4 : fm_chr 4 0 = 112 ∧ fm_chr 4 1 = 107 ∧ fm_chr 4 2 = 99 ∧ fm_chr 4 3 = 110 ∧ fm_chr 4 4 = 119 ∧ fm_chr 4 5 = 104 ∧ fm_chr 5 0 = 60 ∧ fm_chr 5 1 = 61 ∧ fm_chr 5 2 = 62 ∧ fm_sl 4 = 6 ∧ fm_sl 5 = 3 := by decide +kernel
theorem ixl_4 (x : Int32) : ixl 4 x 6 0 = lt x := by
  obtain ⟨a0, a1, a2, a3, a4, a5, _⟩ := chr_4
  unfold lt
  rw [ixl_s, a0, ixl_s, a1, ixl_s, a2, ixl_s, a3, ixl_s, a4, ixl_s, a5]
  rfl
theorem ixl_5 (x : Int32) : ixl 5 x 3 0 = rl x := by
  obtain ⟨_, _, _, _, _, _, a0, a1, a2, _⟩ := chr_4
  unfold rl
  rw [ixl_s, a0, ixl_s, a1, ixl_s, a2]
  rfl
section L
variable {m z : Nat} {sg : Nat → Int32} {ρ : Nat → Nat → Int32} {p c o : Nat}
theorem r_amongl (hs : sgI z sg) (h : rT m z sg ρ p c o) {t : Nat} (ht : t < 6) : ∀ (d i fuel : Nat), i + d = fm_sl t → b_X12_among_2 kR lR (fuel + d + 1) 0 t (nI i) (ρ, nR) = if ixl t (sg p) d i = fm_sl t then some (-1, (ρ, nR)) else some (nI (ixl t (sg p) d i), (wm ρ 0 6 (nI (p + 1)), nR)) := by
  have hl := (fm_sl_ok t ht).2
  have h6 := h.1.2.1
  intro d
  induction d with
  | zero =>
    intro i fuel hi
    have hi : i = fm_sl t := hi
    rw [show ixl t (sg p) 0 i = i from rfl, if_pos hi, b_X12_among_2]
    unfold k_X12_among_2
    rw [fm_slen_s ht, if_pos (nI_le (by omega) (by omega))]
  | succ d ih =>
    intro i fuel hi
    have ih' := ih (i + 1) fuel (by omega)
    rw [ixl_s, show fuel + (d + 1) + 1 = fuel + d + 1 + 1 by omega, b_X12_among_2]
    generalize b_X12_among_2 kR lR (fuel + d + 1) = G at ih' ⊢
    unfold k_X12_among_2
    rw [fm_slen_s ht, if_neg (nI_ge (show i < fm_sl t by omega) (by omega)), R_ck, r_here hs h.1, fm_b1_s, fm_sat_s ht (by omega)]
    by_cases hp : sg p = fm_chr t i
    · rw [if_pos hp, if_pos hp, if_neg (by omega), R_gi, h6, R_pi, nI_1]
    · rw [if_neg hp, if_neg hp, R_let, nI_1, ih']
theorem r_among4 (hs : sgI z sg) (h : rT m z sg ρ p c o) : m_X12_among kR lR 0 4 (ρ, nR) = if lt (sg p) = 6 then some (-1, (ρ, nR)) else some (nI (lt (sg p)), (wm ρ 0 6 (nI (p + 1)), nR)) := by
  have hl : fm_sl 4 = 6 := chr_4.2.2.2.2.2.2.2.2.2.1
  have h1 := r_amongl hs h (t := 4) (by omega) 6 0 993 (by rw [hl])
  rw [ixl_4, hl] at h1
  unfold m_X12_among
  rw [R_let]
  exact h1
theorem r_among5 (hs : sgI z sg) (h : rT m z sg ρ p c o) : m_X12_among kR lR 0 5 (ρ, nR) = if rl (sg p) = 3 then some (-1, (ρ, nR)) else some (nI (rl (sg p)), (wm ρ 0 6 (nI (p + 1)), nR)) := by
  have hl : fm_sl 5 = 3 := chr_4.2.2.2.2.2.2.2.2.2.2
  have h1 := r_amongl hs h (t := 5) (by omega) 3 0 996 (by rw [hl])
  rw [ixl_5, hl] at h1
  unfold m_X12_among
  rw [R_let]
  exact h1
theorem r_figW (h : rW m z sg ρ p o) : ∃ v ρ', m_X12_figures kR lR 0 (ρ, nR) = some (v, (ρ', nR)) ∧ rF m ρ ρ' ∧ rW m z sg ρ' p o ∧ ρ' 1 = ρ 1 := by
  unfold m_X12_figures
  rw [R_gi, h.2, if_neg (by decide), R_pz _ _ (Or.inr rfl), R_let, R_let, show fm_LF = 999 + 1 from rfl, b_X12_figures_34]
  generalize b_X12_figures_34 kR lR 999 = G
  unfold k_X12_figures_34
  rw [if_neg (by decide), R_gi, wm_s, if_neg (by decide)]
  exact ⟨_, _, rfl, rF_0 _ _ (by omega), rW_8 h.1, wm_r (by omega)⟩
theorem r_figT (hs : sgI z sg) (h : rT m z sg ρ p c o) : ∃ ρ', m_X12_figures kR lR 0 (ρ, nR) = some (nI (num sg p).2.2, (ρ', nR)) ∧ rF m ρ ρ' ∧ rE m c ρ ρ' ∧ ((num sg p).1 = true → rT m z sg ρ' (num sg p).2.1 c o) ∧ ((num sg p).1 = false → rW m z sg ρ' (num sg p).2.1 o) ∧ ρ' 1 = ρ 1 := by
  unfold m_X12_figures num
  rw [R_gi, h.2.1, if_pos rfl, R_ck, r_here hs h.1, fm_b1_s, r_isD, fm_b1_s, b2i_if]
  by_cases hd : isD (sg p) = true
  · obtain ⟨d1, d2, d3⟩ := dv_9 hs hd
    have h8 := rT_8 h
    have hq : rT m z sg (wm (wm ρ 0 8 0) 0 6 (nI (p + 1))) (p + 1) c o := rT_6 h8 (by omega)
    have e48 : (10 : Int32) * 0 + sg p - 48 = nI (dv (sg p)) := by
      rw [← d2, show (10 : Int32) * 0 = 0 by decide, Int32.zero_add]
    have f8 : wm ρ 0 8 0 0 8 = 0 := wm_s _ _ _ _
    have f6 : wm ρ 0 8 0 0 6 = nI p := h8.1.2.1
    have g8 : wm (wm ρ 0 8 0) 0 6 (nI (p + 1)) 0 8 = 0 := hq.2.1
    have hF : rF m ρ (wm (wm ρ 0 8 0) 0 6 (nI (p + 1))) := rF_t (rF_0 _ _ (by omega)) (rF_0 _ _ (by omega))
    have hE : rE m c ρ (wm (wm ρ 0 8 0) 0 6 (nI (p + 1))) := rE_t (rE_0 _ _ _) (rE_0 _ _ _)
    have h11 : wm (wm ρ 0 8 0) 0 6 (nI (p + 1)) 1 = ρ 1 := by rw [wm_r (by omega), wm_r (by omega)]
    rw [if_pos hd, if_pos hd, R_pz _ _ (Or.inl rfl), R_let, R_let, show fm_LF = 997 + 1 + 1 + 1 from rfl, b_X12_figures_34]
    have hnext : ∃ ρ', b_X12_figures_34 kR lR (997 + 1 + 1) 0 (nI (dv (sg p))) 1 (wm (wm ρ 0 8 0) 0 6 (nI (p + 1)), nR) = some (nI (if 0 < dv (sg p) ∧ isD (sg (p + 1)) = true then (true, p + 2, 10 * dv (sg p) + dv (sg (p + 1))) else (true, p + 1, dv (sg p))).2.2, (ρ', nR)) ∧ rF m ρ ρ' ∧ rE m c ρ ρ' ∧ ((if 0 < dv (sg p) ∧ isD (sg (p + 1)) = true then (true, p + 2, 10 * dv (sg p) + dv (sg (p + 1))) else (true, p + 1, dv (sg p))).1 = true → rT m z sg ρ' (if 0 < dv (sg p) ∧ isD (sg (p + 1)) = true then (true, p + 2, 10 * dv (sg p) + dv (sg (p + 1))) else (true, p + 1, dv (sg p))).2.1 c o) ∧ ((if 0 < dv (sg p) ∧ isD (sg (p + 1)) = true then (true, p + 2, 10 * dv (sg p) + dv (sg (p + 1))) else (true, p + 1, dv (sg p))).1 = false → rW m z sg ρ' (if 0 < dv (sg p) ∧ isD (sg (p + 1)) = true then (true, p + 2, 10 * dv (sg p) + dv (sg (p + 1))) else (true, p + 1, dv (sg p))).2.1 o) ∧ ρ' 1 = ρ 1 := by
      rw [b_X12_figures_34]
      have h3 : ∀ (a : Int32) (S : fm_M), b_X12_figures_34 kR lR (997 + 1) 0 a 2 S = some (a, S) := by
        intro a S
        rw [b_X12_figures_34]
        generalize b_X12_figures_34 kR lR 997 = G
        unfold k_X12_figures_34
        rw [if_pos (by decide)]
      generalize b_X12_figures_34 kR lR (997 + 1) = G at h3 ⊢
      unfold k_X12_figures_34
      rw [if_neg (by decide), R_gi, g8, if_pos rfl, R_ck, r_here hs hq.1, fm_b1_s, r_isD, fm_b1_s, b2i_if]
      by_cases hd2 : isD (sg (p + 1)) = true
      · obtain ⟨e1, e2, e3⟩ := dv_9 hs hd2
        rw [if_pos hd2, if_neg (by decide)]
        by_cases hz0 : 0 < dv (sg p)
        · have e10 : (10 : Int32) * nI (dv (sg p)) + sg (p + 1) - 48 = nI (10 * dv (sg p) + dv (sg (p + 1))) := by
            rw [Int32.sub_eq_add_neg, Int32.add_assoc, ← Int32.sub_eq_add_neg, e2, show (10 : Int32) = nI 10 from rfl, pk_mul, nI_add]
          rw [if_neg (show ¬ nI (dv (sg p)) ≤ 0 from nI_ge (a := 0) (by omega) (by omega)), R_ck, fm_b1_s, R_let, e10, R_gi, wm_s, R_pi, R_let, show (1 : Int32) + 1 = 2 from rfl, h3, nI_1, if_pos (show 0 < dv (sg p) ∧ isD (sg (p + 1)) = true from ⟨hz0, hd2⟩)]
          exact ⟨_, rfl, rF_t hF (rF_0 _ _ (by omega)), rE_t hE (rE_0 _ _ _), fun _ => rT_6 hq (q := p + 1 + 1) (by omega), fun h => absurd h (by simp), by rw [wm_r (by omega)]; exact h11⟩
        · rw [if_pos (show nI (dv (sg p)) ≤ 0 by rw [show dv (sg p) = 0 by omega]; decide), if_neg (show ¬ (0 < dv (sg p) ∧ isD (sg (p + 1)) = true) from fun h => hz0 h.1)]
          exact ⟨_, rfl, hF, hE, fun _ => hq, fun h => absurd h (by simp), h11⟩
      · rw [if_neg hd2, if_neg (show ¬ (0 < dv (sg p) ∧ isD (sg (p + 1)) = true) from fun h => hd2 h.2)]
        exact ⟨_, rfl, hF, hE, fun _ => hq, fun h => absurd h (by simp), h11⟩
    generalize b_X12_figures_34 kR lR (997 + 1 + 1) = G at hnext ⊢
    unfold k_X12_figures_34
    rw [if_neg (by decide), R_gi, f8, if_pos rfl, R_ck, r_here hs h8.1, fm_b1_s, r_isD, fm_b1_s, b2i_if, if_pos hd, if_pos rfl, R_ck, fm_b1_s, R_let, e48, R_gi, f6, R_pi, R_let, nI_1, show (0 : Int32) + 1 = 1 from rfl]
    exact hnext
  · rw [if_neg hd, if_neg hd, R_pz _ _ (Or.inr rfl), R_let, R_let, show fm_LF = 999 + 1 from rfl, b_X12_figures_34]
    generalize b_X12_figures_34 kR lR 999 = G
    unfold k_X12_figures_34
    rw [if_neg (by decide), R_gi, wm_s, if_neg (by decide)]
    exact ⟨_, rfl, rF_0 _ _ (by omega), rE_0 _ _ _, fun h => absurd h (by simp), fun _ => rW_8 h.1, wm_r (by omega)⟩
end L
