/-! methods, both sides: town; the reference's clauses, one after another -/
theorem chr_3 : fm_chr 3 0 = 103 ∧ fm_sl 3 = 5 := by decide +kernel
theorem to107_s (kap lam : Nat → Nat) (f : Nat) : b_X12_town_107 kap lam (f + 1) = k_X12_town_107 kap lam (b_X12_town_107 kap lam f) (b_X12_town_149 kap lam f) := rfl
theorem to149_s (kap lam : Nat → Nat) (f : Nat) : b_X12_town_149 kap lam (f + 1) = k_X12_town_149 kap lam (b_X12_town_107 kap lam f) (b_X12_town_149 kap lam f) := rfl
section L
variable {m z : Nat} {sg : Nat → Int32}
theorem r_clause (hs : sgI z sg) {ρ : Nat → Nat → Int32} {p c : Nat} {st : Ts} (h : uT m z sg ρ p c st) (hl : st.1.length < 10) : uR m z sg ρ (cls sg p st) (m_X12_clauseHere kR lR 0 (ρ, nR)) := by
  unfold m_X12_clauseHere
  rw [R_ck, r_here hs h.1.1, fm_b1_s]
  by_cases e99 : sg p = 99
  · have h1 := r_much (t := 2) (a1 := -10) hs h hl (by omega) (by omega) (by omega) ((wi_e (sg p)).2.2.1 e99) (fun v => rfl)
    rw [if_pos e99, R_ck]
    obtain ⟨ρ', a1, a2⟩ := h1
    exact ⟨ρ', by rw [a1, fm_b1_s], a2⟩
  rw [if_neg e99]
  by_cases e102 : sg p = 102
  · have h1 := r_tellC (t := 0) (b0 := 211) hs h (Or.inl ⟨rfl, rfl⟩) ((wi_e (sg p)).1.1 e102)
    rw [if_pos e102, R_ck]
    obtain ⟨ρ', a1, a2⟩ := h1
    exact ⟨ρ', by rw [show (211 : Int32) = nI 211 from rfl, a1, fm_b1_s], a2⟩
  rw [if_neg e102]
  have hw3 : ¬ sg p = 116 → wi (sg p) = 3 := fun e116 => by
    unfold wi
    rw [if_neg e99, if_neg e102, if_neg e116]
  by_cases e103 : sg p = 103
  · have h1 := r_much (t := 3) (a1 := -200) hs h hl (by omega) (by omega) (by omega) (hw3 (by rw [e103]; decide)) (fun v => rfl)
    rw [if_pos e103, R_ck]
    obtain ⟨ρ', a1, a2⟩ := h1
    exact ⟨ρ', by rw [a1, fm_b1_s], a2⟩
  rw [if_neg e103]
  by_cases e116 : sg p = 116
  · have h1 := r_tellC (t := 1) (b0 := 216) hs h (Or.inr ⟨rfl, rfl⟩) ((wi_e (sg p)).2.1.1 e116)
    rw [if_pos e116, R_ck]
    obtain ⟨ρ', a1, a2⟩ := h1
    exact ⟨ρ', by rw [show (216 : Int32) = nI 216 from rfl, a1, fm_b1_s], a2⟩
  rw [if_neg e116, R_pz _ _ (Or.inr rfl)]
  have hwd : wd sg 3 p = (false, p) := by
    unfold wd
    rw [chr_3.2, wdl_s, chr_3.1, if_neg e103]
  have hcl : cls sg p st = (false, p, st) := by
    unfold cls
    rw [hw3 e116, hwd, if_neg Bool.false_ne_true]
  rw [hcl]
  exact ⟨_, rfl, rFc_f (rF_0 _ _ (by omega)), fun h => absurd h (by simp), fun _ => rW_8 h.1.1⟩
theorem r_149W {ρ : Nat → Nat → Int32} {p o : Nat} (h : rW m z sg ρ p o) (f : Nat) : b_X12_town_149 kR lR (f + 1) 0 (ρ, nR) = some (-10 - nI p, (ρ, nR)) := by
  rw [to149_s]
  unfold k_X12_town_149
  rw [R_gi, h.2, if_neg (by decide), R_gi, h.1.2.1]
theorem r_149T (hs : sgI z sg) {ρ : Nat → Nat → Int32} {p c o : Nat} (h : rT m z sg ρ p c o) (f : Nat) : b_X12_town_149 kR lR (f + 1) 0 (ρ, nR) = if sg p = -1 then some (nI m, (wm (wm ρ 1 22 (ρ 1 22 + 1)) 1 27 (nI m), nR)) else some (-10 - nI p, (ρ, nR)) := by
  obtain ⟨⟨⟨a1, a2, a3⟩, b1, b2, b3, b4, b5⟩, h8, h221⟩ := h
  rw [to149_s]
  unfold k_X12_town_149
  rw [R_gi, h8, if_pos rfl, R_gi, R_gi, b1, b2]
  by_cases hp : p = z
  · rw [if_pos (by rw [hp]), if_pos ((hs p).2 (by omega)), R_g1, R_s22, R_w22, R_g1, R_gi, wm_r (by omega), b4, R_w27, R_gi, wm_r (by omega), wm_r (by omega), b4]
  · have hne : ¬ sg p = -1 := by
      obtain ⟨x, hx, e⟩ := (hs p).1 (by omega)
      rw [e]
      have : ∀ x, x < 128 → ¬ nI x = -1 := by decide
      exact this x hx
    rw [if_neg (fun h => hp ((nI_eq (by omega) (by omega)).1 h)), if_neg hne, R_gi, b1]
/-- the end of a reading -/
def rV (m z : Nat) (sg : Nat → Int32) (ρ : Nat → Nat → Int32) (r : Bool × Nat × Ts) (X : Option (Int32 × fm_M)) : Prop := ∃ ρ', rFc m ρ ρ' ∧ (r.1 = true → (∃ p c, uT m z sg ρ' p c r.2.2) ∧ X = some (nI m, (wm (wm ρ' 1 22 (ρ' 1 22 + 1)) 1 27 (nI m), nR))) ∧ (r.1 = false → X = some (-10 - nI r.2.1, (ρ', nR)))
theorem r_tw (hs : sgI z sg) : ∀ (k i fuel : Nat) (ρ0 ρ : Nat → Nat → Int32) (p c : Nat) (st : Ts), i + k = 10 → 1 ≤ i → st.1.length ≤ i → rFc m ρ0 ρ → uT m z sg ρ p c st → rV m z sg ρ0 (tw sg k p st) (b_X12_town_107 kR lR (fuel + k + 2) 0 (nI i) (ρ, nR)) := by
  intro k
  induction k with
  | zero =>
    intro i fuel ρ0 ρ p c st hi h1 hl hF h
    have hi : i = 10 := hi
    subst hi
    rw [show fuel + 0 + 2 = fuel + 1 + 1 by omega, to107_s]
    unfold k_X12_town_107
    rw [R_gi, h.1.2.1, if_pos rfl, if_pos (show (10 : Int32) ≤ nI 10 by decide), r_149T hs h.1]
    refine ⟨ρ, hF, fun ht => ⟨⟨p, c, h⟩, ?_⟩, fun ht => ?_⟩
    · have ht : decide (sg p = -1) = true := ht
      rw [if_pos (of_decide_eq_true ht)]
    · have ht : decide (sg p = -1) = false := ht
      rw [if_neg (of_decide_eq_false ht)]
      rfl
  | succ k ih =>
    intro i fuel ρ0 ρ p c st hi h1 hl hF h
    have ih' := ih (i + 1) fuel
    rw [show fuel + (k + 1) + 2 = fuel + k + 2 + 1 by omega, to107_s, tw_s, show b_X12_town_149 kR lR (fuel + k + 2) = b_X12_town_149 kR lR (fuel + k + 1 + 1) from rfl]
    have h149 := r_149T hs h.1 (fuel + k + 1)
    have h149W := fun {ρ p} (h : rW m z sg ρ p 0) => r_149W h (fuel + k + 1)
    have hGW : ∀ {ρ : Nat → Nat → Int32} {p : Nat} {a : Int32}, rW m z sg ρ p 0 → b_X12_town_107 kR lR (fuel + k + 2) 0 a (ρ, nR) = some (-10 - nI p, (ρ, nR)) := by
      intro ρ p a hw
      rw [show fuel + k + 2 = fuel + k + 1 + 1 from rfl, to107_s]
      unfold k_X12_town_107
      rw [R_gi, hw.2, if_neg (by decide)]
      exact r_149W hw (fuel + k)
    generalize b_X12_town_107 kR lR (fuel + k + 2) = G at ih' hGW ⊢
    generalize b_X12_town_149 kR lR (fuel + k + 1 + 1) = G2 at h149 h149W ⊢
    unfold k_X12_town_107
    rw [R_gi, h.1.2.1, if_pos rfl, if_neg (show ¬ (10 : Int32) ≤ nI i from nI_ge (b := 10) (by omega) (by omega)), R_ck, r_here hs h.1.1, fm_b1_s]
    by_cases he : sg p = -1
    · rw [if_pos he, if_neg (show ¬ sg p = 59 by rw [he]; decide), h149, if_pos he]
      exact ⟨ρ, hF, fun _ => ⟨⟨p, c, h⟩, rfl⟩, fun h => absurd h (by simp)⟩
    · rw [if_neg he]
      by_cases h59 : sg p = 59
      · have hpz := sgI_n hs he
        have h6 : uT m z sg (wm ρ 0 6 (nI (p + 1))) (p + 1) c st := by
          obtain ⟨a1, a2, a3, a4, a5⟩ := h
          exact ⟨rT_6 a1 (by omega), ⟨by omega, a2.2⟩, by rw [wm_r (by omega)]; exact a3, by rw [wm_r (by omega)]; exact a4, by rw [wm_r (by omega)]; exact a5⟩
        obtain ⟨ρ1, b1, b2, b3, b4⟩ := r_clause hs h6 (by omega)
        have hlen := cls_len sg (p + 1) st
        have hF1 : rFc m ρ0 ρ1 := rFc_t hF (rFc_t (rFc_f (rF_0 _ _ (by omega))) b2)
        rw [if_pos h59, if_pos h59, R_gi, h.1.1.2.1, R_pi, nI_1, R_ck, b1, fm_b1_s, R_let, nI_1]
        generalize cls sg (p + 1) st = r at *
        obtain ⟨b, q, st'⟩ := r
        cases b with
        | false =>
          have hW := b4 rfl
          rw [if_neg Bool.false_ne_true, hGW hW]
          exact ⟨ρ1, hF1, fun h => absurd h (by simp), fun _ => rfl⟩
        | true =>
          obtain ⟨c2, h2⟩ := b3 rfl
          rw [if_pos rfl]
          exact ih' ρ0 ρ1 q c2 st' (by omega) (by omega) (by simp only at hlen; omega) hF1 h2
      · rw [if_neg h59, if_neg h59, h149, if_neg he]
        exact ⟨ρ, hF, fun h => absurd h (by simp), fun _ => rfl⟩
end L
