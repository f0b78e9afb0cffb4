/-! methods, both sides: town; the parser is good -/
def gst (z H p0 : Nat) (st : Bool × Nat × List Op) : Prop := st.2.1 ≤ z ∧ p0 ≤ st.2.1 ∧ (st.1 = true → p0 < st.2.1 ∧ st.2.2.length + p0 ≤ st.2.1 ∧ ∀ k, k + H ≤ 16 → opH st.2.2 k (k + 1))
theorem lp_gd {z H : Nat} {sg : Nat → Int32} (h : sgI z sg) {f : Nat → Bool × Nat × List Op} (hf : gd z H f) {c : Int32} (hc : c ≠ -1) {o : Op} (ho : 6 < o.1 ∧ o.1 < 9) (p0 : Nat) : ∀ (n : Nat) (st : Bool × Nat × List Op), gst z (H + 1) p0 st → gst z (H + 1) p0 (lp sg f c o n st)
  | 0, st, hg => hg
  | n + 1, st, hg => by
    unfold lp
    by_cases hs : st.1 = true ∧ sg st.2.1 = c
    · rw [if_pos hs]
      refine lp_gd h hf hc ho p0 n _ ?_
      obtain ⟨g1, g2, g3⟩ := hg
      obtain ⟨g4, g5, g6⟩ := g3 hs.1
      have hz := sgI_n h (show sg st.2.1 ≠ -1 by rw [hs.2]; exact hc)
      obtain ⟨f1, f2, f3⟩ := hf (st.2.1 + 1) (by omega)
      refine ⟨f1, by simp only; omega, fun hb => ?_⟩
      obtain ⟨f4, f5, f6⟩ := f3 hb
      refine ⟨by simp only; omega, by simp only [List.length_append, List.length_singleton]; omega, fun k hk => ?_⟩
      refine opH_app _ _ _ _ _ (opH_app _ _ _ _ _ (g6 k hk) (f6 (k + 1) (by omega))) ?_
      obtain ⟨w, a, b⟩ := o
      unfold opH
      rw [if_neg (by simp only at ho; omega), if_neg (by simp only at ho; omega)]
      exact ⟨by omega, ho.2, rfl⟩
    · rw [if_neg hs]
      exact hg
theorem gd_m {z H H' : Nat} {f : Nat → Bool × Nat × List Op} (hf : gd z H f) (hH : H ≤ H') : gd z H' f := fun p hp => ⟨(hf p hp).1, (hf p hp).2.1, fun hb => ⟨((hf p hp).2.2 hb).1, ((hf p hp).2.2 hb).2.1, fun k hk => ((hf p hp).2.2 hb).2.2 k (by omega)⟩⟩
theorem bo_gd {z H : Nat} {sg : Nat → Int32} (h : sgI z sg) {f : Nat → Bool × Nat × List Op} (hf : gd z H f) : gd z (H + 1) (bo sg f) := fun p hp => lp_gd h hf (by decide) ⟨by decide, by decide⟩ p 100 (f p) (gd_m hf (Nat.le_succ H) p hp)
theorem ei_gd {z H : Nat} {sg : Nat → Int32} (h : sgI z sg) {f : Nat → Bool × Nat × List Op} (hf : gd z H f) : gd z (H + 2) (ei sg f) := fun p hp => lp_gd h (bo_gd h hf) (by decide) ⟨by decide, by decide⟩ p 100 (bo sg f p) (gd_m (bo_gd h hf) (Nat.le_succ (H + 1)) p hp)
theorem pa_s (sg : Nat → Int32) (L p : Nat) : pa sg (L + 1) p = if sg p = 33 then ((pa sg L (p + 1)).1, (pa sg L (p + 1)).2.1, (pa sg L (p + 1)).2.2 ++ [(6, 0, 0)]) else if sg p = 40 then (if (ei sg (pa sg L) (p + 1)).1 = true ∧ sg (ei sg (pa sg L) (p + 1)).2.1 = 41 then (true, (ei sg (pa sg L) (p + 1)).2.1 + 1, (ei sg (pa sg L) (p + 1)).2.2) else (false, (ei sg (pa sg L) (p + 1)).2.1, [])) else tst sg p := rfl
theorem pa_0 (sg : Nat → Int32) (p : Nat) : pa sg 0 p = if sg p = 33 ∨ sg p = 40 then (false, p, []) else tst sg p := rfl
theorem pa_gd {z : Nat} {sg : Nat → Int32} (h : sgI z sg) : ∀ L, gd z (1 + 2 * L) (pa sg L)
  | 0 => by
    intro p hp
    rw [pa_0]
    by_cases h1 : sg p = 33 ∨ sg p = 40
    · rw [if_pos h1]
      exact ⟨hp, Nat.le_refl _, fun h => absurd h (by simp)⟩
    · rw [if_neg h1]
      exact tst_gd h (by omega) p hp
  | L + 1 => by
    have ih := pa_gd h L
    intro p hp
    rw [pa_s]
    by_cases h1 : sg p = 33
    · have hz := sgI_n h (show sg p ≠ -1 by rw [h1]; decide)
      rw [if_pos h1]
      obtain ⟨f1, f2, f3⟩ := ih (p + 1) (by omega)
      refine ⟨f1, by simp only; omega, fun hb => ?_⟩
      obtain ⟨f4, f5, f6⟩ := f3 hb
      refine ⟨by simp only; omega, by simp only [List.length_append, List.length_singleton]; omega, fun k hk => ?_⟩
      refine opH_app _ _ _ _ _ (f6 k (by omega)) ?_
      unfold opH
      rw [if_neg (by decide), if_pos rfl]
      exact ⟨by omega, rfl⟩
    · rw [if_neg h1]
      by_cases h2 : sg p = 40
      · have hz := sgI_n h (show sg p ≠ -1 by rw [h2]; decide)
        rw [if_pos h2]
        obtain ⟨f1, f2, f3⟩ := ei_gd h ih (p + 1) (by omega)
        by_cases h3 : (ei sg (pa sg L) (p + 1)).1 = true ∧ sg (ei sg (pa sg L) (p + 1)).2.1 = 41
        · have hz2 := sgI_n h (show sg (ei sg (pa sg L) (p + 1)).2.1 ≠ -1 by rw [h3.2]; decide)
          obtain ⟨f4, f5, f6⟩ := f3 h3.1
          rw [if_pos h3]
          exact ⟨by simp only; omega, by simp only; omega, fun _ => ⟨by simp only; omega, by simp only; omega, fun k hk => f6 k (by omega)⟩⟩
        · rw [if_neg h3]
          exact ⟨f1, by simp only; omega, fun h => absurd h (by simp)⟩
      · rw [if_neg h2]
        exact tst_gd h (by omega) p hp
