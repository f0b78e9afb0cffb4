/-! methods, both sides: town; the reference -/
def dF (m : Nat) (ρ ρe : Nat → Nat → Int32) : Prop := (∀ r, r ≠ 0 → r ≠ 1 → ρe r = ρ r) ∧ (∀ y, (y < 5 ∨ 9 < y) → ρe 0 y = ρ 0 y) ∧ ρe 1 26 = 0 ∧ ∀ y, y ≠ 26 → y ≠ 211 + m → y ≠ 216 + m → y ≠ 221 + m → (y < 226 + 140 * m ∨ 226 + 140 * m + 140 ≤ y) → ρe 1 y = ρ 1 y
theorem dF_t {m : Nat} {ρ ρ1 ρ2 : Nat → Nat → Int32} (hm : m < 5) (h : dF m ρ ρ1) (h2 : rFc m ρ1 ρ2) : dF m ρ ρ2 := ⟨fun r a b => (h2.1 r a b).trans (h.1 r a b), fun y hy => (h2.2.1 y (by omega) (by omega) (by omega)).trans (h.2.1 y hy), (h2.2.2 26 (by omega) (by omega) (by omega) (by omega)).trans h.2.2.1, fun y a b c d e => (h2.2.2 y b c d e).trans (h.2.2.2 y a b c d e)⟩
section L
variable {m z : Nat}
theorem r_twn {sg : Nat → Int32} (hs : sgI z sg) {ρ : Nat → Nat → Int32} (h : uT m z sg ρ 0 0 ([], 3, 2)) : rV m z sg ρ (twn sg) (fm_b1 (m_X12_clauseHere kR lR 0 (ρ, nR)) fun S104 => b_X12_town_107 kR lR fm_LF 0 1 S104) := by
  obtain ⟨ρ1, b1, b2, b3, b4⟩ := r_clause hs h (show ([] : List Cl).length < 10 by decide)
  have hlen := cls_len sg 0 ([], 3, 2)
  rw [b1, fm_b1_s]
  unfold twn
  generalize cls sg 0 ([], 3, 2) = r at *
  obtain ⟨b, q, st'⟩ := r
  cases b with
  | false =>
    have hW := b4 rfl
    rw [if_neg Bool.false_ne_true, show fm_LF = 998 + 1 + 1 from rfl, to107_s]
    unfold k_X12_town_107
    rw [R_gi, hW.2, if_neg (by decide), r_149W hW]
    exact ⟨ρ1, b2, fun h => absurd h (by simp), fun _ => rfl⟩
  | true =>
    obtain ⟨c2, h2⟩ := b3 rfl
    rw [if_pos rfl]
    exact r_tw hs 9 1 989 ρ ρ1 q c2 st' (by omega) (by omega) (by simp only [List.length_nil] at hlen; omega) b2 h2
theorem r_town {ρ : Nat → Nat → Int32} (h22 : ρ 1 22 = nI m) (hm : m < 5) (h26 : ρ 1 26 = nI z) (hz : z ≤ 100) (hT : ∀ x, x < z → nn (ρ 1 (111 + x)) 127) : ∃ ρe, dF m ρ ρe ∧ ((twn (sgT (ρ 1) z)).1 = true → (∃ p c, uT m z (sgT (ρ 1) z) ρe p c (twn (sgT (ρ 1) z)).2.2) ∧ m_X12_town kR lR 0 (ρ, nR) = some (nI m, (wm (wm ρe 1 22 (nI (m + 1))) 1 27 (nI m), nR))) ∧ ((twn (sgT (ρ 1) z)).1 = false → m_X12_town kR lR 0 (ρ, nR) = some (-10 - nI (twn (sgT (ρ 1) z)).2.1, (ρe, nR))) := by
  have hi : ∃ ρi, wm (wm (wm (wm (wm (wm (wm (wm (wm ρ 0 5 (nI m)) 0 7 (nI z)) 1 26 0) 1 (211 + m) 3) 1 (216 + m) 2) 1 (221 + m) 0) 0 6 0) 0 8 0) 0 9 0 = ρi ∧ dF m ρ ρi ∧ uT m z (sgT (ρ 1) z) ρi 0 0 ([], 3, 2) := by
    refine ⟨_, rfl, ⟨fun r r0 r1 => ?_, fun y hy => ?_, ?_, fun y y1 y2 y3 y4 y5 => ?_⟩, ⟨⟨⟨hm, hz, Nat.zero_le _⟩, ?_, ?_, ?_, ?_, fun i hi => ?_⟩, ?_, ?_⟩, ⟨Nat.le_refl _, Nat.zero_le _, by decide, by decide⟩, ?_, ?_, ?_⟩
    · rw [wm_r r0, wm_r r0, wm_r r0, wm_r r1, wm_r r1, wm_r r1, wm_r r1, wm_r r0, wm_r r0]
    · rw [wm_k (by omega), wm_k (by omega), wm_k (by omega), wm_r (by omega), wm_r (by omega), wm_r (by omega), wm_r (by omega), wm_k (by omega), wm_k (by omega)]
    · rw [wm_r (by omega), wm_r (by omega), wm_r (by omega), wm_k (by omega), wm_k (by omega), wm_k (by omega), wm_s]
    · rw [wm_r (by omega), wm_r (by omega), wm_r (by omega), wm_k y4, wm_k y3, wm_k y2, wm_k y1, wm_r (by omega), wm_r (by omega)]
    · rw [wm_k (by omega), wm_k (by omega), wm_s]; rfl
    · rw [wm_k (by omega), wm_k (by omega), wm_k (by omega), wm_r (by omega), wm_r (by omega), wm_r (by omega), wm_r (by omega), wm_s]
    · rw [wm_s]; rfl
    · rw [wm_k (by omega), wm_k (by omega), wm_k (by omega), wm_r (by omega), wm_r (by omega), wm_r (by omega), wm_r (by omega), wm_k (by omega), wm_s]
    · rw [wm_r (by omega), wm_r (by omega), wm_r (by omega), wm_k (by omega), wm_k (by omega), wm_k (by omega), wm_k (by omega), wm_r (by omega), wm_r (by omega)]
      exact (if_pos hi).symm
    · rw [wm_k (by omega), wm_s]
    · rw [wm_r (by omega), wm_r (by omega), wm_r (by omega), wm_s]; rfl
    · rw [wm_r (by omega), wm_r (by omega), wm_r (by omega), wm_k (by omega), wm_k (by omega), wm_s]; rfl
    · rw [wm_r (by omega), wm_r (by omega), wm_r (by omega), wm_k (by omega), wm_s]; rfl
    · rfl
  obtain ⟨ρi, ei, hd, hu⟩ := hi
  obtain ⟨ρe, v1, v2, v3⟩ := r_twn (sgT_I hT) hu
  have hde := dF_t hm hd v1
  have hg : m_X12_town kR lR 0 (ρ, nR) = (fm_b1 (m_X12_clauseHere kR lR 0 (ρi, nR)) fun S104 => b_X12_town_107 kR lR fm_LF 0 1 S104) := by
    have e211 : (211 : Int32) + nI m = nI (211 + m) := nI_add 211 m
    have e216 : (216 : Int32) + nI m = nI (216 + m) := nI_add 216 m
    have e221 : (221 : Int32) + nI m = nI (221 + m) := nI_add 221 m
    unfold m_X12_town
    rw [R_g1, R_s22, h22, if_neg (show ¬ nI m = 5 from fun h => absurd ((nI_eq (b := 5) (by omega) (by omega)).1 h) (by omega)), R_g1, R_s22, h22, R_pi, R_g1, R_s26, wm_r (by omega), h26, R_pi, R_g1, R_w26, R_g1, R_gi, wm_r (by omega), wm_k (by omega), wm_s, e211, R_ws (by omega), R_g1, R_gi, wm_r (by omega), wm_r (by omega), wm_k (by omega), wm_s, e216, R_ws (by omega), R_g1, R_gi, wm_r (by omega), wm_r (by omega), wm_r (by omega), wm_k (by omega), wm_s, e221, R_ws (by omega), R_pi, R_pz _ _ (Or.inl rfl), R_pi, ei, R_let, R_ck]
  refine ⟨ρe, hde, fun ht => ?_, fun ht => ?_⟩
  · obtain ⟨w1, w2⟩ := v2 ht
    have e22 : ρe 1 22 + 1 = nI (m + 1) := by rw [hde.2.2.2 22 (by omega) (by omega) (by omega) (by omega) (by omega), h22, nI_1]
    rw [e22] at w2
    exact ⟨w1, hg.trans w2⟩
  · exact hg.trans (v3 ht)
end L
