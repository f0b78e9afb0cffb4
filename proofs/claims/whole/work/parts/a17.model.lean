/-! methods, both sides: town; the reference: tests, levels -/
theorem fa39_s (kap lam : Nat → Nat) (F1 F2 F3 : Nat → fm_M → Option fm_M) (f : Nat) : b_X12_factor_39 kap lam F1 F2 F3 (f + 1) = k_X12_factor_39 kap lam F1 F2 F3 (b_X12_factor_39 kap lam F1 F2 F3 f) (b_X12_factor_150 kap lam F1 F2 F3 f) := rfl
theorem fa150_s (kap lam : Nat → Nat) (F1 F2 F3 : Nat → fm_M → Option fm_M) (f : Nat) : b_X12_factor_150 kap lam F1 F2 F3 (f + 1) = k_X12_factor_150 kap lam F1 F2 F3 (b_X12_factor_39 kap lam F1 F2 F3 f) (b_X12_factor_150 kap lam F1 F2 F3 f) := rfl
section L
variable {m z o : Nat} {sg : Nat → Int32}
/-- a result of a part -/
def rR (m z : Nat) (sg : Nat → Int32) (o : Nat) (ρ : Nat → Nat → Int32) (c : Nat) (r : Bool × Nat × List Op) (X : Option fm_M) : Prop := ∃ ρ', X = some (ρ', nR) ∧ rF m ρ ρ' ∧ rE m c ρ ρ' ∧ (r.1 = true → rT m z sg ρ' r.2.1 (c + r.2.2.length) o ∧ cdR (ρ' 1) (226 + 140 * m + c) r.2.2) ∧ (r.1 = false → rW m z sg ρ' r.2.1 o)
theorem r_150W {F1 F2 F3 : Nat → fm_M → Option fm_M} {ρ0 ρ : Nat → Nat → Int32} {p c : Nat} (h : rW m z sg ρ p o) (hF : rF m ρ0 ρ) (hE : rE m c ρ0 ρ) (a b : Int32) : rR m z sg o ρ0 c (false, p, []) (b_X12_factor_150 kR lR F1 F2 F3 fm_LF 0 a b (ρ, nR)) := by
  rw [show fm_LF = 999 + 1 from rfl, fa150_s]
  unfold k_X12_factor_150
  obtain ⟨v, ρ', a1, a2, a3, a4⟩ := r_figW (rW_8 h.1)
  rw [R_gi, h.2, if_neg (by decide), R_pz _ _ (Or.inr rfl), R_ck, a1, fm_bi_s, R_ck, r_emW a3, fm_b1_s]
  exact ⟨ρ', rfl, rF_t hF (rF_t (rF_0 _ _ (by omega)) a2), rE_t hE (rE_t (rE_0 _ _ _) (fun i _ => by rw [a4])), fun h => absurd h (by simp), fun _ => a3⟩
theorem r_fac0 (hs : sgI z sg) {F1 F2 F3 : Nat → fm_M → Option fm_M} {ρ : Nat → Nat → Int32} {p c : Nat} (h : rT m z sg ρ p c o) (hc : c ≤ p + 10) (h33 : ¬ sg p = 33) (h40 : ¬ sg p = 40) : rR m z sg o ρ c (tst sg p) (s_X12_factor kR lR F1 F2 F3 0 (ρ, nR)) := by
  unfold s_X12_factor tst
  rw [R_gi, h.2.1, if_pos rfl, R_ck, r_here hs h.1, fm_b1_s, if_neg h33, if_neg h40, R_ck, r_among4 hs h]
  have hz := h.1.1
  by_cases hl : lt (sg p) = 6
  · rw [if_pos hl, if_pos hl, fm_bi_s, if_pos rfl, R_pz _ _ (Or.inr rfl), R_gi, wm_s, if_neg (by decide)]
    exact r_150W (rW_8 h.1) (rF_0 _ _ (by omega)) (rE_0 _ _ _) _ _
  · have hl6 := (lt_n hl).2
    have hp1 := sgI_n hs (lt_n hl).1
    have h1 : rT m z sg (wm (wm ρ 0 6 (nI (p + 1))) 0 8 0) (p + 1) c o := rT_8 (rT_6 h (by omega))
    have hF1 : rF m ρ (wm (wm ρ 0 6 (nI (p + 1))) 0 8 0) := rF_t (rF_0 _ _ (by omega)) (rF_0 _ _ (by omega))
    have hE1 : rE m c ρ (wm (wm ρ 0 6 (nI (p + 1))) 0 8 0) := rE_t (rE_0 _ _ _) (rE_0 _ _ _)
    rw [if_neg hl, if_neg hl, fm_bi_s, if_neg (nI_m1 _ (by omega)), R_pz _ _ (Or.inl rfl), R_gi, wm_s, if_pos rfl, R_ck, r_among5 hs h1]
    by_cases hr : rl (sg (p + 1)) = 3
    · rw [if_pos hr, if_pos hr, fm_bi_s, show fm_LF = 999 + 1 from rfl, fa150_s]
      unfold k_X12_factor_150
      obtain ⟨v, ρ', a1, a2, a3, a4⟩ := r_figW (rW_8 h1.1)
      rw [R_gi, h1.2.1, if_pos rfl, if_pos rfl, R_pz _ _ (Or.inr rfl), R_ck, a1, fm_bi_s, R_ck, r_emW a3, fm_b1_s]
      exact ⟨ρ', rfl, rF_t hF1 (rF_t (rF_0 _ _ (by omega)) a2), rE_t hE1 (rE_t (rE_0 _ _ _) (fun i _ => by rw [a4])), fun h => absurd h (by simp), fun _ => a3⟩
    · have hr3 := (rl_n hr).2
      have hp2 := sgI_n hs (rl_n hr).1
      have h2 : rT m z sg (wm (wm (wm (wm ρ 0 6 (nI (p + 1))) 0 8 0) 0 6 (nI (p + 1 + 1))) 0 8 0) (p + 2) c o := rT_8 (rT_6 h1 (by omega))
      have hF2 : rF m ρ (wm (wm (wm (wm ρ 0 6 (nI (p + 1))) 0 8 0) 0 6 (nI (p + 1 + 1))) 0 8 0) := rF_t hF1 (rF_t (rF_0 _ _ (by omega)) (rF_0 _ _ (by omega)))
      have hE2 : rE m c ρ (wm (wm (wm (wm ρ 0 6 (nI (p + 1))) 0 8 0) 0 6 (nI (p + 1 + 1))) 0 8 0) := rE_t hE1 (rE_t (rE_0 _ _ _) (rE_0 _ _ _))
      obtain ⟨ρ', a1, a2, a3, a4, a5, a6⟩ := r_figT hs h2
      rw [if_neg hr, if_neg hr, fm_bi_s, show fm_LF = 999 + 1 from rfl, fa150_s]
      unfold k_X12_factor_150
      have h8 : wm (wm (wm ρ 0 6 (nI (p + 1))) 0 8 0) 0 6 (nI (p + 1 + 1)) 0 8 = 0 := by rw [wm_k (by omega), wm_s]
      rw [R_gi, h8, if_pos rfl, if_neg (nI_m1 _ (by omega)), R_pz _ _ (Or.inl rfl), R_ck, a1, fm_bi_s, R_ck]
      obtain ⟨n1, n2, n3⟩ := num_ok hs (show p + 2 ≤ z by omega)
      by_cases hb : (num sg (p + 2)).1 = true
      · obtain ⟨ρ2, b1, b2, b3, b4, b5⟩ := r_emT (a4 hb) (show c < 140 by omega) (nI (lt (sg p)) + 8 * nI (rl (sg (p + 1))) + 32 * nI (num sg (p + 2)).2.2)
        rw [b1, fm_b1_s]
        refine ⟨ρ2, rfl, rF_t hF2 (rF_t a2 b2), rE_t hE2 (rE_t a3 b3), fun _ => ⟨b4, ?_, trivial⟩, fun h => absurd (hb.symm.trans h) (by decide)⟩
        rw [b5]
        unfold opc
        rw [if_pos hl6, show (8 : Int32) = nI 8 from rfl, show (32 : Int32) = nI 32 from rfl, pk_mul, pk_mul, nI_add, nI_add]
      · have hbf : (num sg (p + 2)).1 = false := by simpa using hb
        rw [r_emW (a5 hbf), fm_b1_s]
        exact ⟨ρ', rfl, rF_t hF2 a2, rE_t hE2 a3, fun h => absurd h hb, fun _ => a5 hbf⟩
theorem r_facS (hs : sgI z sg) {L : Nat} (hL : L < 5) {F1 F2 F3 : Nat → fm_M → Option fm_M} (hP : rSim m z sg (5 - L) (pa sg L) (fun S => F1 0 S)) (hE : rSim m z sg (5 - L) (ei sg (pa sg L)) (fun S => F3 0 S)) : rSim m z sg (5 - (L + 1)) (pa sg (L + 1)) (fun S => s_X12_factor kR lR F1 F2 F3 0 S) := by
  intro ρ p c h hc
  show rR m z sg (5 - (L + 1)) ρ c (pa sg (L + 1) p) (s_X12_factor kR lR F1 F2 F3 0 (ρ, nR))
  rw [pa_s]
  have hz := h.1.1
  by_cases h33 : sg p = 33
  · have hpz := sgI_n hs (show sg p ≠ -1 by rw [h33]; decide)
    rw [if_pos h33]
    unfold s_X12_factor
    rw [R_gi, h.2.1, if_pos rfl, R_ck, r_here hs h.1, fm_b1_s, if_pos h33, R_gi, h.1.2.2.2.1, if_neg (show ¬ nI (5 - (L + 1)) = 5 from fun h => absurd ((nI_eq (b := 5) (by omega) (by omega)).1 h) (by omega)), show fm_LF = 999 + 1 from rfl, fa39_s]
    unfold k_X12_factor_39
    have h1 : rT m z sg (wm (wm (wm ρ 0 8 0) 0 9 (nI (5 - L))) 0 6 (nI (p + 1))) (p + 1) c (5 - L) := rT_6 (rT_9 (rT_8 h) (5 - L)) (by omega)
    have hF1 : rF m ρ (wm (wm (wm ρ 0 8 0) 0 9 (nI (5 - L))) 0 6 (nI (p + 1))) := rF_t (rF_0 _ _ (by omega)) (rF_t (rF_0 _ _ (by omega)) (rF_0 _ _ (by omega)))
    have hE1 : rE m c ρ (wm (wm (wm ρ 0 8 0) 0 9 (nI (5 - L))) 0 6 (nI (p + 1))) := rE_t (rE_0 _ _ _) (rE_t (rE_0 _ _ _) (rE_0 _ _ _))
    obtain ⟨ρ2, x1, x2, x3, x4, x5⟩ := hP _ (p + 1) c h1 (by omega)
    obtain ⟨g1, g2, g3⟩ := pa_gd hs L (p + 1) (by omega)
    have e9 : wm ρ 0 8 0 0 9 = nI (5 - (L + 1)) := by rw [wm_k (by omega)]; exact h.1.2.2.2.1
    have e8 : wm (wm ρ 0 8 0) 0 9 (nI (5 - L)) 0 8 = 0 := by rw [wm_k (by omega), wm_s]
    have e6 : wm (wm ρ 0 8 0) 0 9 (nI (5 - L)) 0 6 = nI p := by rw [wm_k (by omega), wm_k (by omega)]; exact h.1.2.1
    have e51 : nI (5 - (L + 1)) + 1 = nI (5 - L) := by rw [nI_1, show 5 - (L + 1) + 1 = 5 - L by omega]
    have e52 : nI (5 - L) - 1 = nI (5 - (L + 1)) := by rw [show 5 - L = 5 - (L + 1) + 1 by omega, nI_s1]
    rw [R_pz _ _ (Or.inl rfl), R_gi, e9, R_pi, e51, R_gi, e6, R_gi, e8, if_pos rfl, R_pi, nI_1 p, if_pos h33, R_ck, show F1 0 (wm (wm (wm ρ 0 8 0) 0 9 (nI (5 - L))) 0 6 (nI (p + 1)), nR) = _ from x1, fm_b1_s, R_ck]
    by_cases hb : (pa sg L (p + 1)).1 = true
    · obtain ⟨x6, x7⟩ := x4 hb
      obtain ⟨g4, g5, g6⟩ := g3 hb
      obtain ⟨ρ3, y1, y2, y3, y4, y5⟩ := r_emT x6 (show c + (pa sg L (p + 1)).2.2.length < 140 by omega) (-1)
      rw [y1, fm_b1_s, R_gi, y4.1.2.2.2.1, e52, R_pi]
      refine ⟨_, rfl, rF_t hF1 (rF_t x2 (rF_t y2 (rF_0 _ _ (by omega)))), rE_t hE1 (rE_t x3 (rE_t (fun i hi => y3 i (by omega)) (rE_0 _ _ _))), fun _ => ⟨?_, ?_⟩, fun h => absurd (hb.symm.trans h) (by decide)⟩
      · have e1 : c + ((pa sg L (p + 1)).2.2 ++ [((6, 0, 0) : Op)]).length = c + (pa sg L (p + 1)).2.2.length + 1 := by
          simp only [List.length_append, List.length_singleton]
          omega
        show rT m z sg _ (pa sg L (p + 1)).2.1 (c + ((pa sg L (p + 1)).2.2 ++ [((6, 0, 0) : Op)]).length) _
        rw [e1]
        exact rT_9 y4 _
      · rw [wm_r (by omega)]
        refine cdR_app _ _ _ (cdR_c _ _ (fun y y1 y2 => ?_) x7) ⟨?_, trivial⟩
        · obtain ⟨i, rfl⟩ : ∃ i, y = 226 + 140 * m + i := ⟨y - (226 + 140 * m), by omega⟩
          exact y3 i (by omega)
        · rw [show 226 + 140 * m + c + (pa sg L (p + 1)).2.2.length = 226 + 140 * m + (c + (pa sg L (p + 1)).2.2.length) by omega, y5]
          rfl
    · have hbf : (pa sg L (p + 1)).1 = false := by simpa using hb
      rw [r_emW (x5 hbf), fm_b1_s, R_gi, (x5 hbf).1.2.2.2.1, e52, R_pi]
      exact ⟨_, rfl, rF_t hF1 (rF_t x2 (rF_0 _ _ (by omega))), rE_t hE1 (rE_t x3 (rE_0 _ _ _)), fun h => absurd h hb, fun _ => rW_9 (x5 hbf) _⟩
  · rw [if_neg h33]
    by_cases h40 : sg p = 40
    · have hpz := sgI_n hs (show sg p ≠ -1 by rw [h40]; decide)
      rw [if_pos h40]
      unfold s_X12_factor
      rw [R_gi, h.2.1, if_pos rfl, R_ck, r_here hs h.1, fm_b1_s, if_neg h33, if_pos h40, R_gi, h.1.2.2.2.1, if_neg (show ¬ nI (5 - (L + 1)) = 5 from fun h => absurd ((nI_eq (b := 5) (by omega) (by omega)).1 h) (by omega)), show fm_LF = 999 + 1 from rfl, fa39_s]
      unfold k_X12_factor_39
      have h1 : rT m z sg (wm (wm (wm ρ 0 8 0) 0 9 (nI (5 - L))) 0 6 (nI (p + 1))) (p + 1) c (5 - L) := rT_6 (rT_9 (rT_8 h) (5 - L)) (by omega)
      have hF1 : rF m ρ (wm (wm (wm ρ 0 8 0) 0 9 (nI (5 - L))) 0 6 (nI (p + 1))) := rF_t (rF_0 _ _ (by omega)) (rF_t (rF_0 _ _ (by omega)) (rF_0 _ _ (by omega)))
      have hE1 : rE m c ρ (wm (wm (wm ρ 0 8 0) 0 9 (nI (5 - L))) 0 6 (nI (p + 1))) := rE_t (rE_0 _ _ _) (rE_t (rE_0 _ _ _) (rE_0 _ _ _))
      obtain ⟨ρ2, x1, x2, x3, x4, x5⟩ := hE _ (p + 1) c h1 (by omega)
      have e9 : wm ρ 0 8 0 0 9 = nI (5 - (L + 1)) := by rw [wm_k (by omega)]; exact h.1.2.2.2.1
      have e8 : wm (wm ρ 0 8 0) 0 9 (nI (5 - L)) 0 8 = 0 := by rw [wm_k (by omega), wm_s]
      have e6 : wm (wm ρ 0 8 0) 0 9 (nI (5 - L)) 0 6 = nI p := by rw [wm_k (by omega), wm_k (by omega)]; exact h.1.2.1
      have e51 : nI (5 - (L + 1)) + 1 = nI (5 - L) := by rw [nI_1, show 5 - (L + 1) + 1 = 5 - L by omega]
      have e52 : nI (5 - L) - 1 = nI (5 - (L + 1)) := by rw [show 5 - L = 5 - (L + 1) + 1 by omega, nI_s1]
      rw [R_pz _ _ (Or.inl rfl), R_gi, e9, R_pi, e51, R_gi, e6, R_gi, e8, if_pos rfl, R_pi, nI_1 p, if_neg h33, R_ck, show F3 0 (wm (wm (wm ρ 0 8 0) 0 9 (nI (5 - L))) 0 6 (nI (p + 1)), nR) = _ from x1, fm_b1_s, R_ck]
      generalize ei sg (pa sg L) (p + 1) = r at *
      obtain ⟨b, q, ops⟩ := r
      cases b with
      | false =>
        have hw := x5 rfl
        obtain ⟨ρ3, y1, y2, y3, y4⟩ := r_mustW hw 41
        rw [y1, fm_b1_s, R_gi, y3.1.2.2.2.1, e52, R_pi, if_neg (fun h => absurd h.1 (by simp))]
        exact ⟨_, rfl, rF_t hF1 (rF_t x2 (rF_t y2 (rF_0 _ _ (by omega)))), rE_t hE1 (rE_t x3 (rE_t (fun i _ => by rw [y4]) (rE_0 _ _ _))), fun h => absurd h (by simp), fun _ => rW_9 y3 _⟩
      | true =>
        obtain ⟨x6, x7⟩ := x4 rfl
        simp only at x6 x7
        obtain ⟨ρ3, y1, y2, y3, y4, y5, y6⟩ := r_mustT hs x6 (show (41 : Int32) ≠ -1 by decide)
        by_cases h41 : sg q = 41
        · have h3 := y4 h41
          rw [y1, fm_b1_s, R_gi, h3.1.2.2.2.1, e52, R_pi, if_pos ⟨rfl, h41⟩]
          refine ⟨_, rfl, rF_t hF1 (rF_t x2 (rF_t y2 (rF_0 _ _ (by omega)))), rE_t hE1 (rE_t x3 (rE_t (fun i _ => by rw [y6]) (rE_0 _ _ _))), fun _ => ⟨rT_9 h3 _, ?_⟩, fun h => absurd h (by simp)⟩
          rw [wm_r (by omega), y6]
          exact x7
        · have h3 := y5 h41
          rw [y1, fm_b1_s, R_gi, h3.1.2.2.2.1, e52, R_pi, if_neg (fun h => h41 h.2)]
          exact ⟨_, rfl, rF_t hF1 (rF_t x2 (rF_t y2 (rF_0 _ _ (by omega)))), rE_t hE1 (rE_t x3 (rE_t (fun i _ => by rw [y6]) (rE_0 _ _ _))), fun h => absurd h (by simp), fun _ => rW_9 h3 _⟩
    · rw [if_neg h40]
      exact r_fac0 hs h hc h33 h40
end L
