/-! methods, both sides: town; the class's clauses, one after another -/
section R
variable {Kd : Nat → Nat} {m z : Nat} {sg : Nat → Int32} {n : Nat → Nat → Option Nat}
theorem k_clause (hs : sgI z sg) {μ : Nat → Nat → Int32} {p c : Nat} {st : Ts} (h : tS m z sg n μ p c st) (hl : st.1.length < 10) : ∃ μ', m_X6_clause (kC Kd) lC 30 (μ, n) = some (b2i (cls sg p st).1, (μ', n)) ∧ cR m z sg n μ μ' (cls sg p st) := by
  have hh := h
  obtain ⟨hc, hcp, ⟨f0, f1, f2, f3, f4, f5⟩, hsl, hcl⟩ := h
  have hc0 := hc
  obtain ⟨⟨h0, h01, ht, hm, hz⟩, h1, h2, h3', h4⟩ := hc
  obtain ⟨μ1, a1, a2, a3⟩ := k_word (Kd := Kd) hs (wi_lt (sg p)) hc0
  obtain ⟨w1, w2⟩ := wdl_ok hs (wi_lt (sg p)) (fm_sl (wi (sg p))) 0 p (by omega) h2
  unfold m_X6_clause cls
  rw [C_gr30 h0, C_gi30, h1, C_ld31 (by omega), h3' p h2, k_wordFrom, fm_b1_s, C_ck30, a1, fm_bi_s]
  have w1 : (wd sg (wi (sg p)) p).2 ≤ z := w1
  have w2 : p ≤ (wd sg (wi (sg p)) p).2 := w2
  generalize wd sg (wi (sg p)) p = w at *
  obtain ⟨b, q⟩ := w
  cases b with
  | false =>
    rw [if_pos (show b2i false = 0 from rfl), fm_z0, if_neg Bool.false_ne_true]
    exact ⟨μ1, rfl, tF_30 a3, ⟨c, a2⟩, fun h => absurd h (by simp)⟩
  | true =>
    rw [if_neg (show ¬ b2i true = 0 by decide), if_pos rfl, C_ck30]
    obtain ⟨μ2, b1, b2, b3, b4⟩ := k_num (Kd := Kd) hs a2
    obtain ⟨n1, n2, n3⟩ := num_ok hs w1
    rw [b1, fm_bi_s]
    simp only at *
    generalize num sg q = w at *
    obtain ⟨b, q2, v⟩ := w
    have e30 : ∀ r, r ≠ 30 → μ2 r = μ r := fun r hr => (b3 r hr).trans (a3 r hr)
    cases b with
    | false =>
      rw [if_pos (show b2i false = 0 from rfl), fm_z0, if_neg Bool.false_ne_true]
      exact ⟨μ2, rfl, tF_30 e30, ⟨c, b2⟩, fun h => absurd h (by simp)⟩
    | true =>
      rw [if_neg (show ¬ b2i true = 0 by decide), if_pos rfl]
      obtain ⟨n4, n5⟩ := n3 rfl
      have hv := b4 rfl
      simp only at n1 n2 n4 n5 b2 hv ⊢
      have hts : tS m z sg n μ2 q2 c st := ⟨b2, by omega, by rw [e30 _ (by omega)]; exact ⟨f0, f1, f2, f3, f4, f5⟩, hsl, by rw [e30 _ (by omega), e30 _ (by omega), e30 _ (by omega), e30 _ (by omega)]; exact hcl⟩
      have hput : ∀ (k v : Nat), (k = 0 ∨ k = 1) → v < 100 → ∃ μ3, wm μ2 (40 + 5 * m) k (nI v) = μ3 ∧ tF m μ μ3 ∧ cS m z sg n μ3 q2 c ∧ (∀ y, y ≠ k → μ3 (40 + 5 * m) y = μ (40 + 5 * m) y) ∧ μ3 (40 + 5 * m) k = nI v ∧ clC (μ3 (43 + 5 * m)) (μ3 (44 + 5 * m)) (μ3 (42 + 5 * m)) (μ3 (41 + 5 * m)) 0 0 st.1 := by
        intro k v hk hv
        obtain ⟨b5, b6, b7, b8, b9⟩ := b2
        refine ⟨_, rfl, tF_t (tF_30 e30) (fun r _ _ hr => wm_r (by omega)), ⟨b5, by rw [wm_r (by omega)]; exact b6, b7, fun i hi => by rw [wm_r (by omega)]; exact b8 i hi, by rw [wm_k (by omega)]; exact b9⟩, fun y hy => by rw [wm_k hy, e30 _ (by omega)], wm_s _ _ _ _, ?_⟩
        rw [wm_r (by omega), wm_r (by omega), wm_r (by omega), wm_r (by omega), e30 _ (by omega), e30 _ (by omega), e30 _ (by omega), e30 _ (by omega)]
        exact hcl
      by_cases e102 : sg p = 102
      · obtain ⟨μ3, m3, p1, p2, p3, p4, p5⟩ := hput 0 v (Or.inl rfl) n5
        rw [if_pos ((wi_e (sg p)).1.1 e102), C_gi30, hv, if_pos e102, C_gr30 h01, C_pit (by omega), m3, fm_z1]
        refine ⟨μ3, rfl, p1, ⟨c, p2⟩, fun _ => ⟨c, p2, by simp only; omega, ⟨p4, ?_, ?_, f3, n5, f5⟩, hsl, p5⟩⟩
        · rw [p3 1 (by omega)]; exact f1
        · rw [p3 2 (by omega)]; exact f2
      · by_cases e116 : sg p = 116
        · obtain ⟨μ3, m3, p1, p2, p3, p4, p5⟩ := hput 1 v (Or.inr rfl) n5
          rw [if_neg (fun h => e102 ((wi_e (sg p)).1.2 h)), if_pos ((wi_e (sg p)).2.1.1 e116), C_gi30, hv, if_neg e102, if_pos e116, C_gr30 h01, C_pit (by omega), m3, fm_z1]
          refine ⟨μ3, rfl, p1, ⟨c, p2⟩, fun _ => ⟨c, p2, by simp only; omega, ⟨?_, p4, ?_, f3, f4, n5⟩, hsl, p5⟩⟩
          · rw [p3 0 (by omega)]; exact f0
          · rw [p3 2 (by omega)]; exact f2
        · rw [if_neg (fun h => e102 ((wi_e (sg p)).1.2 h)), if_neg (fun h => e116 ((wi_e (sg p)).2.1.2 h))]
          exact k_tail hs hts (tF_30 e30) hl n5 e102 e116 hv
end R
