/-! methods, both sides: town; the reference: levels, words -/
section L
variable {m z o : Nat} {sg : Nat → Int32}
theorem no_fac {F1 F2 F3 : Nat → fm_M → Option fm_M} : rNo m z sg (fun S => s_X12_factor kR lR F1 F2 F3 0 S) := by
  intro ρ p o h
  show s_X12_factor kR lR F1 F2 F3 0 (ρ, nR) = _
  unfold s_X12_factor
  rw [R_gi, h.2, if_neg (by decide)]
theorem no_every {F1 F2 F3 : Nat → fm_M → Option fm_M} (hF : rNo m z sg (fun S => F1 0 S)) : rNo m z sg (fun S => s_X12_every kR lR F1 F2 F3 0 S) := by
  intro ρ p o h
  show s_X12_every kR lR F1 F2 F3 0 (ρ, nR) = _
  unfold s_X12_every
  rw [R_ck, show F1 0 (ρ, nR) = _ from hF ρ p o h, fm_b1_s, show fm_LF = 999 + 1 from rfl, b_X12_every_4]
  generalize b_X12_every_4 kR lR F1 F2 F3 999 = G
  unfold k_X12_every_4
  rw [R_gi, h.2, if_neg (by decide)]
theorem no_some {F1 F2 F3 : Nat → fm_M → Option fm_M} (hF : rNo m z sg (fun S => F2 0 S)) : rNo m z sg (fun S => s_X12_some kR lR F1 F2 F3 0 S) := by
  intro ρ p o h
  show s_X12_some kR lR F1 F2 F3 0 (ρ, nR) = _
  unfold s_X12_some
  rw [R_ck, show F2 0 (ρ, nR) = _ from hF ρ p o h, fm_b1_s, show fm_LF = 999 + 1 from rfl, b_X12_some_4]
  generalize b_X12_some_4 kR lR F1 F2 F3 999 = G
  unfold k_X12_some_4
  rw [R_gi, h.2, if_neg (by decide)]
theorem r_fac00 (hs : sgI z sg) {F1 F2 F3 : Nat → fm_M → Option fm_M} (h1n : rNo m z sg (fun S => F1 0 S)) (h3n : rNo m z sg (fun S => F3 0 S)) : rSim m z sg 5 (pa sg 0) (fun S => s_X12_factor kR lR F1 F2 F3 0 S) := by
  intro ρ p c h hc
  show rR m z sg 5 ρ c (pa sg 0 p) (s_X12_factor kR lR F1 F2 F3 0 (ρ, nR))
  rw [pa_0]
  by_cases h34 : sg p = 33 ∨ sg p = 40
  · have hF : rF m ρ (wm (wm (wm ρ 0 8 1) 0 9 (nI 6)) 0 6 (nI p)) := rF_t (rF_0 _ _ (by omega)) (rF_t (rF_0 _ _ (by omega)) (rF_0 _ _ (by omega)))
    have hE : rE m c ρ (wm (wm (wm ρ 0 8 1) 0 9 (nI 6)) 0 6 (nI p)) := rE_t (rE_0 _ _ _) (rE_t (rE_0 _ _ _) (rE_0 _ _ _))
    have hW : rW m z sg (wm (wm (wm ρ 0 8 1) 0 9 (nI 6)) 0 6 (nI p)) p 6 := rW_6 (rW_9 (rW_8 h.1) 6)
    have e9 : wm ρ 0 8 1 0 9 = nI 5 := by rw [wm_k (by omega)]; exact h.1.2.2.2.1
    have e8 : wm (wm ρ 0 8 1) 0 9 (nI 6) 0 8 = 1 := by rw [wm_k (by omega), wm_s]
    have e6 : wm (wm ρ 0 8 1) 0 9 (nI 6) 0 6 = nI p := by rw [wm_k (by omega), wm_k (by omega)]; exact h.1.2.1
    have hall : rR m z sg 5 ρ c (false, p, []) (b_X12_factor_39 kR lR F1 F2 F3 fm_LF 0 (sg p) 1 0 (ρ, nR)) := by
      rw [show fm_LF = 999 + 1 from rfl, fa39_s]
      unfold k_X12_factor_39
      rw [R_pz _ _ (Or.inr rfl), R_gi, e9, R_pi, show nI 5 + 1 = nI 6 from nI_1 5, R_gi, e6, R_gi, e8, if_neg (by decide), R_pi, Int32.add_zero]
      by_cases h33 : sg p = 33
      · rw [if_pos h33, R_ck, show F1 0 (wm (wm (wm ρ 0 8 1) 0 9 (nI 6)) 0 6 (nI p), nR) = _ from h1n _ p 6 hW, fm_b1_s, R_ck, r_emW hW, fm_b1_s, R_gi, hW.1.2.2.2.1, R_pi]
        exact ⟨_, rfl, rF_t hF (rF_0 _ _ (by omega)), rE_t hE (rE_0 _ _ _), fun h => absurd h (by simp), fun _ => rW_9 hW 5⟩
      · obtain ⟨ρ3, y1, y2, y3, y4⟩ := r_mustW hW 41
        rw [if_neg h33, R_ck, show F3 0 (wm (wm (wm ρ 0 8 1) 0 9 (nI 6)) 0 6 (nI p), nR) = _ from h3n _ p 6 hW, fm_b1_s, R_ck, y1, fm_b1_s, R_gi, y3.1.2.2.2.1, R_pi]
        exact ⟨_, rfl, rF_t hF (rF_t y2 (rF_0 _ _ (by omega))), rE_t hE (rE_t (fun i _ => by rw [y4]) (rE_0 _ _ _)), fun h => absurd h (by simp), fun _ => rW_9 y3 5⟩
    rw [if_pos h34]
    unfold s_X12_factor
    rw [R_gi, h.2.1, if_pos rfl, R_ck, r_here hs h.1, fm_b1_s]
    by_cases h33 : sg p = 33
    · rw [if_pos h33, R_gi, h.1.2.2.2.1, if_pos (show nI 5 = 5 from rfl)]
      exact hall
    · rw [if_neg h33, if_pos (h34.resolve_left h33), R_gi, h.1.2.2.2.1, if_pos (show nI 5 = 5 from rfl)]
      exact hall
  · rw [if_neg h34]
    exact r_fac0 hs h hc (fun h => h34 (Or.inl h)) (fun h => h34 (Or.inr h))
theorem no_grp : ∀ M, rNo m z sg (fun S => (grp_tw kR lR (M + 1)).1 0 S) ∧ rNo m z sg (fun S => (grp_tw kR lR (M + 2)).2.1 0 S) ∧ rNo m z sg (fun S => (grp_tw kR lR (M + 3)).2.2 0 S) := by
  have h1 : ∀ M, rNo m z sg (fun S => (grp_tw kR lR (M + 1)).1 0 S) := fun M => no_fac
  have h2 : ∀ M, rNo m z sg (fun S => (grp_tw kR lR (M + 2)).2.1 0 S) := fun M => no_every (h1 M)
  exact fun M => ⟨h1 M, h2 M, no_some (h2 M)⟩
theorem r_lvl (hs : sgI z sg) : ∀ L, L ≤ 5 → ∀ M, rSim m z sg (5 - L) (pa sg L) (fun S => (grp_tw kR lR (M + 3 * L + 4)).1 0 S) ∧ rSim m z sg (5 - L) (bo sg (pa sg L)) (fun S => (grp_tw kR lR (M + 3 * L + 5)).2.1 0 S) ∧ rSim m z sg (5 - L) (ei sg (pa sg L)) (fun S => (grp_tw kR lR (M + 3 * L + 6)).2.2 0 S)
  | 0, _, M => by
    have h1 : ∀ M, rSim m z sg 5 (pa sg 0) (fun S => (grp_tw kR lR (M + 4)).1 0 S) := fun M => r_fac00 hs (no_grp (M + 2)).1 (no_grp M).2.2
    have h2 : ∀ M, rSim m z sg 5 (bo sg (pa sg 0)) (fun S => (grp_tw kR lR (M + 5)).2.1 0 S) := fun M => r_every hs (pa_gd hs 0) (h1 M)
    exact ⟨h1 M, h2 M, r_some hs (bo_gd hs (pa_gd hs 0)) (h2 M)⟩
  | L + 1, hL, M => by
    have ih := r_lvl hs L (by omega)
    have h1 : ∀ M, rSim m z sg (5 - (L + 1)) (pa sg (L + 1)) (fun S => (grp_tw kR lR (M + 3 * (L + 1) + 4)).1 0 S) := fun M => r_facS hs (by omega) (by
      have h := (ih (M + 2)).1
      rw [show M + 2 + 3 * L + 4 = M + 3 * (L + 1) + 3 by omega] at h
      exact h) (by
      have h := (ih M).2.2
      rw [show M + 3 * L + 6 = M + 3 * (L + 1) + 3 by omega] at h
      exact h)
    have h2 : ∀ M, rSim m z sg (5 - (L + 1)) (bo sg (pa sg (L + 1))) (fun S => (grp_tw kR lR (M + 3 * (L + 1) + 5)).2.1 0 S) := fun M => r_every hs (pa_gd hs (L + 1)) (h1 M)
    exact ⟨h1 M, h2 M, r_some hs (bo_gd hs (pa_gd hs (L + 1))) (h2 M)⟩
theorem r_spW {t : Nat} (ht : t < 6) : ∀ (d i fuel p o : Nat) (ρ : Nat → Nat → Int32), i + d = fm_sl t → rW m z sg ρ p o → ∃ ρ', b_X12_spells_2 kR lR (fuel + d + 1) 0 t (nI i) (ρ, nR) = some (ρ', nR) ∧ rF m ρ ρ' ∧ rW m z sg ρ' p o ∧ ρ' 1 = ρ 1 := by
  have hl := (fm_sl_ok t ht).2
  intro d
  induction d with
  | zero =>
    intro i fuel p o ρ hi h
    have hi : i = fm_sl t := hi
    refine ⟨ρ, ?_, rF_r m ρ, h, rfl⟩
    rw [b_X12_spells_2]
    unfold k_X12_spells_2
    rw [fm_slen_s ht, if_pos (nI_le (by omega) (by omega))]
  | succ d ih =>
    intro i fuel p o ρ hi h
    obtain ⟨ρ1, a1, a2, a3, a4⟩ := r_mustW h (fm_chr t i)
    obtain ⟨ρ2, b1, b2, b3, b4⟩ := ih (i + 1) fuel p o ρ1 (by omega) a3
    refine ⟨ρ2, ?_, rF_t a2 b2, b3, b4.trans a4⟩
    rw [← b1, show fuel + (d + 1) + 1 = fuel + d + 1 + 1 by omega, b_X12_spells_2]
    generalize b_X12_spells_2 kR lR (fuel + d + 1) = G
    unfold k_X12_spells_2
    rw [fm_slen_s ht, if_neg (nI_ge (show i < fm_sl t by omega) (by omega)), fm_sat_s ht (by omega), R_ck, a1, fm_b1_s, R_let, nI_1]
theorem r_spT (hs : sgI z sg) {t : Nat} (ht : t < 6) : ∀ (d i fuel p c o : Nat) (ρ : Nat → Nat → Int32), i + d = fm_sl t → rT m z sg ρ p c o → ∃ ρ', b_X12_spells_2 kR lR (fuel + d + 1) 0 t (nI i) (ρ, nR) = some (ρ', nR) ∧ rF m ρ ρ' ∧ ((wdl sg t d i p).1 = true → rT m z sg ρ' (wdl sg t d i p).2 c o) ∧ ((wdl sg t d i p).1 = false → rW m z sg ρ' (wdl sg t d i p).2 o) ∧ ρ' 1 = ρ 1 := by
  have hl := (fm_sl_ok t ht).2
  intro d
  induction d with
  | zero =>
    intro i fuel p c o ρ hi h
    have hi : i = fm_sl t := hi
    refine ⟨ρ, ?_, rF_r m ρ, fun _ => h, fun h => absurd h (by show ¬ true = false; decide), rfl⟩
    rw [b_X12_spells_2]
    unfold k_X12_spells_2
    rw [fm_slen_s ht, if_pos (nI_le (by omega) (by omega))]
  | succ d ih =>
    intro i fuel p c o ρ hi h
    obtain ⟨ρ1, a1, a2, a3, a4, a5, a6⟩ := r_mustT hs h (fm_chr_n t ht i (by omega))
    rw [wdl_s]
    have hgo : ∀ ρ2, b_X12_spells_2 kR lR (fuel + d + 1) 0 t (nI (i + 1)) (ρ1, nR) = some (ρ2, nR) → b_X12_spells_2 kR lR (fuel + (d + 1) + 1) 0 t (nI i) (ρ, nR) = some (ρ2, nR) := by
      intro ρ2 b1
      rw [← b1, show fuel + (d + 1) + 1 = fuel + d + 1 + 1 by omega, b_X12_spells_2]
      generalize b_X12_spells_2 kR lR (fuel + d + 1) = G
      unfold k_X12_spells_2
      rw [fm_slen_s ht, if_neg (nI_ge (show i < fm_sl t by omega) (by omega)), fm_sat_s ht (by omega), R_ck, a1, fm_b1_s, R_let, nI_1]
    by_cases hp : sg p = fm_chr t i
    · obtain ⟨ρ2, b1, b2, b3, b4, b5⟩ := ih (i + 1) fuel (p + 1) c o ρ1 (by omega) (a4 hp)
      rw [if_pos hp]
      exact ⟨ρ2, hgo ρ2 b1, rF_t a2 b2, b3, b4, b5.trans a6⟩
    · obtain ⟨ρ2, b1, b2, b3, b4⟩ := r_spW (m := m) (z := z) (sg := sg) ht d (i + 1) fuel p o ρ1 (by omega) (a5 hp)
      rw [if_neg hp]
      exact ⟨ρ2, hgo ρ2 b1, rF_t a2 b2, fun h => absurd h (by simp), fun _ => b3, b4.trans a6⟩
theorem r_spells (hs : sgI z sg) {t : Nat} (ht : t < 6) {p c o : Nat} {ρ : Nat → Nat → Int32} (h : rT m z sg ρ p c o) : ∃ ρ', m_X12_spells kR lR 0 t (ρ, nR) = some (ρ', nR) ∧ rF m ρ ρ' ∧ ((wd sg t p).1 = true → rT m z sg ρ' (wd sg t p).2 c o) ∧ ((wd sg t p).1 = false → rW m z sg ρ' (wd sg t p).2 o) ∧ ρ' 1 = ρ 1 := by
  have hl := (fm_sl_ok t ht).2
  unfold m_X12_spells wd
  rw [R_let, show fm_LF = 999 - fm_sl t + fm_sl t + 1 by unfold fm_LF; omega]
  exact r_spT hs ht (fm_sl t) 0 _ p c o ρ (by omega) h
end L
