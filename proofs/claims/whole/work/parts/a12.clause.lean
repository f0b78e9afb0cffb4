/-! methods, both sides: town; the class reads a town -/
theorem ri13_s (kap lam : Nat → Nat) (f : Nat) : b_X6_readInto_13 kap lam (f + 1) = k_X6_readInto_13 kap lam (b_X6_readInto_13 kap lam f) (b_X6_readInto_66 kap lam f) := rfl
theorem ri66_s (kap lam : Nat → Nat) (f : Nat) : b_X6_readInto_66 kap lam (f + 1) = k_X6_readInto_66 kap lam (b_X6_readInto_13 kap lam f) (b_X6_readInto_66 kap lam f) := rfl
theorem tw_s (sg : Nat → Int32) (k p : Nat) (st : Ts) : tw sg (k + 1) p st = if sg p = -1 then (true, p, st) else if sg p = 59 then (if (cls sg (p + 1) st).1 = true then tw sg k (cls sg (p + 1) st).2.1 (cls sg (p + 1) st).2.2 else (false, (cls sg (p + 1) st).2.1, st)) else (false, p, st) := rfl
theorem tw_e {sg : Nat → Int32} {p : Nat} (h : sg p = -1) (st : Ts) : ∀ k, tw sg k p st = (true, p, st)
  | 0 => by
    show (decide (sg p = -1), p, st) = _
    rw [decide_eq_true h]
  | k + 1 => by rw [tw_s, if_pos h]
theorem cls_len (sg : Nat → Int32) (p : Nat) (st : Ts) : (cls sg p st).2.2.1.length ≤ st.1.length + 1 := by
  unfold cls
  split
  · split
    · split
      · exact Nat.le_succ _
      · split
        · exact Nat.le_succ _
        · split
          · simp only [List.length_append, List.length_singleton]
            omega
          · exact Nat.le_succ _
    · exact Nat.le_succ _
  · exact Nat.le_succ _
section R
variable {Kd : Nat → Nat} {m z : Nat} {sg : Nat → Int32} {n : Nat → Nat → Option Nat}
/-- what is left of a reading: the town, where it stands; else the place alone -/
def rQ (m z : Nat) (sg : Nat → Int32) (n : Nat → Nat → Option Nat) (μ μ' : Nat → Nat → Int32) (r : Bool × Nat × Ts) : Prop := tF m μ μ' ∧ r.2.1 ≤ z ∧ (r.1 = true → ∃ p c, tS m z sg n μ' p c r.2.2)
theorem k_tw (hs : sgI z sg) : ∀ (k i fuel : Nat) (μ : Nat → Nat → Int32) (p c : Nat) (st : Ts), i + k = 10 → 1 ≤ i → st.1.length ≤ i → tS m z sg n μ p c st → ¬ sg p = -1 → ∃ μ', b_X6_readInto_66 (kC Kd) lC (fuel + k + 1) 30 (nI i) (μ, n) = some (if (tw sg k p st).1 = true then -1 else nI (tw sg k p st).2.1, (μ', n)) ∧ rQ m z sg n μ μ' (tw sg k p st) := by
  intro k
  induction k with
  | zero =>
    intro i fuel μ p c st hi h1 hl h hn
    have hi : i = 10 := hi
    subst hi
    refine ⟨μ, ?_, tF_r m μ, h.1.2.2.1, fun h => absurd h (by show ¬ decide (sg p = -1) = true; rw [decide_eq_false hn]; decide)⟩
    have ht : tw sg 0 p st = (false, p, st) := by
      show (decide (sg p = -1), p, st) = _
      rw [decide_eq_false hn]
    rw [ht, if_neg Bool.false_ne_true, ri66_s]
    unfold k_X6_readInto_66
    rw [if_pos (show (10 : Int32) ≤ nI 10 by decide), C_gi30, h.1.2.1]
  | succ k ih =>
    intro i fuel μ p c st hi h1 hl h hn
    have hp := h.1.2.1
    have ih' := ih (i + 1) fuel
    rw [show fuel + (k + 1) + 1 = fuel + k + 1 + 1 by omega, ri66_s, tw_s, if_neg hn]
    generalize b_X6_readInto_66 (kC Kd) lC (fuel + k + 1) = G at ih' ⊢
    unfold k_X6_readInto_66
    rw [if_neg (show ¬ (10 : Int32) ≤ nI i from nI_ge (b := 10) (by omega) (by omega)), if_neg (show ¬ nI i = 0 from nI_ne0 (by omega) (by omega)), C_ck30, k_take h.1]
    by_cases h59 : sg p = 59
    · have hpz := sgI_n hs hn
      have hts : tS m z sg n (wm μ 30 2 (nI (p + 1))) (p + 1) c st := by
        obtain ⟨hc, hcp, ⟨f0, f1, f2, f3, f4, f5⟩, hsl, hcl⟩ := h
        refine ⟨cS_p hc (by omega), by omega, ?_, hsl, ?_⟩
        · rw [wm_r (by omega)]; exact ⟨f0, f1, f2, f3, f4, f5⟩
        · rw [wm_r (by omega), wm_r (by omega), wm_r (by omega), wm_r (by omega)]; exact hcl
      obtain ⟨μ1, a1, a2, ⟨c1, a3⟩, a4⟩ := k_clause (Kd := Kd) hs hts (by omega)
      have hlen := cls_len sg (p + 1) st
      have hF : tF m μ μ1 := tF_t (tF_30 (fun r hr => wm_r hr)) a2
      rw [if_pos h59, if_pos h59, fm_bi_s, if_neg (by decide), C_ck30, a1, fm_bi_s]
      generalize cls sg (p + 1) st = r at *
      obtain ⟨b, q, st'⟩ := r
      cases b with
      | false =>
        rw [if_pos (show b2i false = 0 from rfl), R_let, if_pos rfl, if_pos rfl, C_gi30, a3.2.1, if_neg Bool.false_ne_true, if_neg Bool.false_ne_true]
        exact ⟨μ1, rfl, hF, a3.2.2.1, fun h => absurd h (by simp)⟩
      | true =>
        obtain ⟨c2, hts2⟩ := a4 rfl
        have hz := a3.1.2.2.2.2
        have hqz := a3.2.2.1
        rw [if_neg (show ¬ b2i true = 0 by decide), R_let, if_neg (show ¬ (1 : Int32) = 0 by decide), C_gr30 a3.1.1, C_gi30, a3.2.1, C_ld31 (by simp only at hqz ⊢; omega), a3.2.2.2.1 _ hqz, if_pos rfl]
        by_cases he : sg q = -1
        · rw [if_pos he, tw_e he]
          exact ⟨μ1, rfl, hF, hqz, fun _ => ⟨q, c2, hts2⟩⟩
        · rw [if_neg he, if_neg (show ¬ (1 : Int32) = 0 by decide), R_let, nI_1]
          obtain ⟨μ2, b1, b2, b3⟩ := ih' μ1 q c2 st' (by omega) (by omega) (by simp only at hlen; omega) hts2 he
          exact ⟨μ2, b1, tF_t hF b2, b3⟩
    · rw [if_neg h59, if_neg h59, fm_bi_s, if_pos rfl, R_let, if_pos rfl, if_pos rfl, C_gi30, hp, if_neg Bool.false_ne_true]
      exact ⟨μ, rfl, tF_r m μ, h.1.2.2.1, fun h => absurd h (by simp)⟩
theorem k_twn (hs : sgI z sg) {μ : Nat → Nat → Int32} (h : tS m z sg n μ 0 0 ([], 3, 2)) (fuel : Nat) : ∃ μ', b_X6_readInto_66 (kC Kd) lC (fuel + 11) 30 (nI 0) (μ, n) = some (if (twn sg).1 = true then -1 else nI (twn sg).2.1, (μ', n)) ∧ rQ m z sg n μ μ' (twn sg) := by
  obtain ⟨μ1, a1, a2, ⟨c1, a3⟩, a4⟩ := k_clause (Kd := Kd) hs h (show ([] : List Cl).length < 10 by decide)
  have hlen := cls_len sg 0 ([], 3, 2)
  have ih' := k_tw (Kd := Kd) (m := m) (n := n) hs 9 1 fuel μ1
  unfold twn
  rw [show fuel + 11 = fuel + 9 + 1 + 1 by omega, ri66_s]
  generalize b_X6_readInto_66 (kC Kd) lC (fuel + 9 + 1) = G at ih' ⊢
  unfold k_X6_readInto_66
  rw [if_neg (show ¬ (10 : Int32) ≤ nI 0 by decide), if_pos (show nI 0 = 0 from rfl), C_ck30, a1, fm_bi_s]
  generalize cls sg 0 ([], 3, 2) = r at *
  obtain ⟨b, q, st'⟩ := r
  cases b with
  | false =>
    rw [if_pos (show b2i false = 0 from rfl), R_let, if_pos rfl, if_pos rfl, C_gi30, a3.2.1, if_neg Bool.false_ne_true, if_neg Bool.false_ne_true]
    exact ⟨μ1, rfl, a2, a3.2.2.1, fun h => absurd h (by simp)⟩
  | true =>
    obtain ⟨c2, hts2⟩ := a4 rfl
    have hz := a3.1.2.2.2.2
    have hqz := a3.2.2.1
    rw [if_neg (show ¬ b2i true = 0 by decide), R_let, if_neg (show ¬ (1 : Int32) = 0 by decide), C_gr30 a3.1.1, C_gi30, a3.2.1, C_ld31 (by simp only at hqz ⊢; omega), a3.2.2.2.1 _ hqz, if_pos rfl]
    by_cases he : sg q = -1
    · rw [if_pos he, tw_e he]
      exact ⟨μ1, rfl, a2, hqz, fun _ => ⟨q, c2, hts2⟩⟩
    · rw [if_neg he, if_neg (show ¬ (1 : Int32) = 0 by decide), R_let, nI_1]
      obtain ⟨μ2, b1, b2, b3⟩ := ih' q c2 st' (by omega) (by omega) (by simp only [List.length_nil] at hlen; omega) hts2 he
      exact ⟨μ2, b1, tF_t a2 b2, b3⟩
end R
