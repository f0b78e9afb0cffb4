/-! methods, both sides: town; the reference: loops -/
theorem cdR_app {f : Nat → Int32} : ∀ (a b : List Op) (i : Nat), cdR f i a → cdR f (i + a.length) b → cdR f i (a ++ b)
  | [], b, i, _, hb => hb
  | o :: r, b, i, ha, hb => ⟨ha.1, cdR_app r b (i + 1) ha.2 (by
    rw [show i + 1 + r.length = i + (o :: r).length by simp only [List.length_cons]; omega]
    exact hb)⟩
def rSim (m z : Nat) (sg : Nat → Int32) (o : Nat) (f : Nat → Bool × Nat × List Op) (F : fm_M → Option fm_M) : Prop := ∀ (ρ : Nat → Nat → Int32) (p c : Nat), rT m z sg ρ p c o → c ≤ p + 10 → ∃ ρ', F (ρ, nR) = some (ρ', nR) ∧ rF m ρ ρ' ∧ rE m c ρ ρ' ∧ ((f p).1 = true → rT m z sg ρ' (f p).2.1 (c + (f p).2.2.length) o ∧ cdR (ρ' 1) (226 + 140 * m + c) (f p).2.2) ∧ ((f p).1 = false → rW m z sg ρ' (f p).2.1 o)
def rNo (m z : Nat) (sg : Nat → Int32) (F : fm_M → Option fm_M) : Prop := ∀ (ρ : Nat → Nat → Int32) (p o : Nat), rW m z sg ρ p o → F (ρ, nR) = some (ρ, nR)
def rQ2 (m z : Nat) (sg : Nat → Int32) (o : Nat) (ρ0 : Nat → Nat → Int32) (c0 : Nat) (ρ : Nat → Nat → Int32) (st : Bool × Nat × List Op) : Prop := rF m ρ0 ρ ∧ rE m c0 ρ0 ρ ∧ (st.1 = true → rT m z sg ρ st.2.1 (c0 + st.2.2.length) o ∧ cdR (ρ 1) (226 + 140 * m + c0) st.2.2) ∧ (st.1 = false → rW m z sg ρ st.2.1 o)
section L
variable {m z o : Nat} {sg : Nat → Int32}
theorem r_everyl (hs : sgI z sg) {H : Nat} {F1 F2 F3 : Nat → fm_M → Option fm_M} {f : Nat → Bool × Nat × List Op} (hg : gd z H f) (hF : rSim m z sg o f (fun S => F1 0 S)) {ρ0 : Nat → Nat → Int32} {p0 c0 : Nat} (hc0 : c0 ≤ p0 + 10) : ∀ (d fuel : Nat) (ρ : Nat → Nat → Int32) (st : Bool × Nat × List Op), (st.1 = true → z ≤ st.2.1 + d) → (st.1 = true → st.2.2.length + p0 ≤ st.2.1) → rQ2 m z sg o ρ0 c0 ρ st → ∃ ρ', b_X12_every_4 kR lR F1 F2 F3 (fuel + d + 1) 0 (ρ, nR) = some (ρ', nR) ∧ rQ2 m z sg o ρ0 c0 ρ' (lp sg f 38 (7, 0, 0) d st) := by
  intro d
  induction d with
  | zero =>
    intro fuel ρ st hz hl hq
    refine ⟨ρ, ?_, hq⟩
    obtain ⟨h1, h2, h3, h4⟩ := hq
    obtain ⟨b, q, ops⟩ := st
    rw [b_X12_every_4]
    unfold k_X12_every_4
    cases b with
    | false => rw [R_gi, (h4 rfl).2, if_neg (by decide)]
    | true =>
      have ht := (h3 rfl).1
      have he : sg q = -1 := (hs q).2 (by have := hz rfl; simp only at this; omega)
      rw [R_gi, ht.2.1, if_pos rfl, R_ck, r_here hs ht.1, fm_b1_s, if_neg (by simp only; rw [he]; decide)]
  | succ d ih =>
    intro fuel ρ st hz hl hq
    have hq0 := hq
    obtain ⟨h1, h2, h3, h4⟩ := hq
    obtain ⟨b, q, ops⟩ := st
    have hlp : lp sg f 38 (7, 0, 0) (d + 1) (b, q, ops) = if b = true ∧ sg q = 38 then lp sg f 38 (7, 0, 0) d ((f (q + 1)).1, (f (q + 1)).2.1, ops ++ (f (q + 1)).2.2 ++ [(7, 0, 0)]) else (b, q, ops) := rfl
    rw [hlp, show fuel + (d + 1) + 1 = fuel + d + 1 + 1 by omega, b_X12_every_4]
    have ih' := ih fuel
    generalize b_X12_every_4 kR lR F1 F2 F3 (fuel + d + 1) = G at ih' ⊢
    unfold k_X12_every_4
    cases b with
    | false =>
      rw [R_gi, (h4 rfl).2, if_neg (by decide), if_neg (fun h => absurd h.1 (by decide))]
      exact ⟨ρ, rfl, hq0⟩
    | true =>
      obtain ⟨ht, hcd⟩ := h3 rfl
      have hlz := hl rfl
      have hzz := hz rfl
      simp only at ht hcd hlz hzz
      rw [R_gi, ht.2.1, if_pos rfl, R_ck, r_here hs ht.1, fm_b1_s]
      by_cases hsq : sg q = 38
      · have hqz := sgI_n hs (show sg q ≠ -1 by rw [hsq]; decide)
        have hz100 := ht.1.1.2.1
        obtain ⟨g1, g2, g3⟩ := hg (q + 1) (by omega)
        obtain ⟨ρ2, x1, x2, x3, x4, x5⟩ := hF (wm ρ 0 6 (nI (q + 1))) (q + 1) (c0 + ops.length) (rT_6 ht (by omega)) (by omega)
        rw [if_pos hsq, if_pos ⟨rfl, hsq⟩, R_gi, ht.1.2.1, R_pi, nI_1, R_ck, show F1 0 (wm ρ 0 6 (nI (q + 1)), nR) = _ from x1, fm_b1_s, R_ck]
        have hF2 : rF m ρ0 ρ2 := rF_t h1 (rF_t (rF_0 _ _ (by omega)) x2)
        have hE2 : rE m c0 ρ0 ρ2 := rE_t h2 (rE_t (rE_0 _ _ _) (fun i hi => x3 i (by omega)))
        have hcd2 : cdR (ρ2 1) (226 + 140 * m + c0) ops := cdR_c _ _ (fun y y1 y2 => by
          obtain ⟨i, rfl⟩ : ∃ i, y = 226 + 140 * m + i := ⟨y - (226 + 140 * m), by omega⟩
          rw [x3 i (by omega), wm_r (by omega)]) hcd
        by_cases hb : (f (q + 1)).1 = true
        · obtain ⟨x6, x7⟩ := x4 hb
          obtain ⟨g4, g5, g6⟩ := g3 hb
          obtain ⟨ρ3, y1, y2, y3, y4, y5⟩ := r_emT x6 (show c0 + ops.length + (f (q + 1)).2.2.length < 140 by omega) (-2)
          rw [y1, fm_b1_s]
          refine ih' ρ3 ((f (q + 1)).1, (f (q + 1)).2.1, ops ++ (f (q + 1)).2.2 ++ [(7, 0, 0)]) (fun _ => show z ≤ (f (q + 1)).2.1 + d by omega) (fun _ => ?_) ⟨rF_t hF2 y2, rE_t hE2 (fun i hi => y3 i (by omega)), fun _ => ⟨?_, ?_⟩, fun h => absurd (hb.symm.trans h) (by decide)⟩
          · simp only [List.length_append, List.length_singleton]
            omega
          · have e1 : c0 + (ops ++ (f (q + 1)).2.2 ++ [((7, 0, 0) : Op)]).length = c0 + ops.length + (f (q + 1)).2.2.length + 1 := by
              simp only [List.length_append, List.length_singleton]
              omega
            show rT m z sg ρ3 (f (q + 1)).2.1 (c0 + (ops ++ (f (q + 1)).2.2 ++ [((7, 0, 0) : Op)]).length) o
            rw [e1]
            exact y4
          · refine cdR_app _ _ _ (cdR_app _ _ _ (cdR_c _ _ (fun y y1 y2 => ?_) hcd2) ?_) ⟨?_, trivial⟩
            · obtain ⟨i, rfl⟩ : ∃ i, y = 226 + 140 * m + i := ⟨y - (226 + 140 * m), by omega⟩
              exact y3 i (by omega)
            · rw [show 226 + 140 * m + c0 + ops.length = 226 + 140 * m + (c0 + ops.length) by omega]
              refine cdR_c _ _ (fun y y1 y2 => ?_) x7
              obtain ⟨i, rfl⟩ : ∃ i, y = 226 + 140 * m + i := ⟨y - (226 + 140 * m), by omega⟩
              exact y3 i (by omega)
            · rw [show 226 + 140 * m + c0 + (ops ++ (f (q + 1)).2.2).length = 226 + 140 * m + (c0 + ops.length + (f (q + 1)).2.2.length) by rw [List.length_append]; omega, y5]
              rfl
        · have hbf : (f (q + 1)).1 = false := by simpa using hb
          rw [r_emW (x5 hbf), fm_b1_s]
          exact ih' ρ2 ((f (q + 1)).1, (f (q + 1)).2.1, ops ++ (f (q + 1)).2.2 ++ [(7, 0, 0)]) (fun h => absurd h hb) (fun h => absurd h hb) ⟨hF2, hE2, fun h => absurd h hb, fun _ => x5 hbf⟩
      · rw [if_neg hsq, if_neg (fun h => hsq h.2)]
        exact ⟨ρ, rfl, hq0⟩
theorem r_somel (hs : sgI z sg) {H : Nat} {F1 F2 F3 : Nat → fm_M → Option fm_M} {f : Nat → Bool × Nat × List Op} (hg : gd z H f) (hF : rSim m z sg o f (fun S => F2 0 S)) {ρ0 : Nat → Nat → Int32} {p0 c0 : Nat} (hc0 : c0 ≤ p0 + 10) : ∀ (d fuel : Nat) (ρ : Nat → Nat → Int32) (st : Bool × Nat × List Op), (st.1 = true → z ≤ st.2.1 + d) → (st.1 = true → st.2.2.length + p0 ≤ st.2.1) → rQ2 m z sg o ρ0 c0 ρ st → ∃ ρ', b_X12_some_4 kR lR F1 F2 F3 (fuel + d + 1) 0 (ρ, nR) = some (ρ', nR) ∧ rQ2 m z sg o ρ0 c0 ρ' (lp sg f 124 (8, 0, 0) d st) := by
  intro d
  induction d with
  | zero =>
    intro fuel ρ st hz hl hq
    refine ⟨ρ, ?_, hq⟩
    obtain ⟨h1, h2, h3, h4⟩ := hq
    obtain ⟨b, q, ops⟩ := st
    rw [b_X12_some_4]
    unfold k_X12_some_4
    cases b with
    | false => rw [R_gi, (h4 rfl).2, if_neg (by decide)]
    | true =>
      have ht := (h3 rfl).1
      have he : sg q = -1 := (hs q).2 (by have := hz rfl; simp only at this; omega)
      rw [R_gi, ht.2.1, if_pos rfl, R_ck, r_here hs ht.1, fm_b1_s, if_neg (by simp only; rw [he]; decide)]
  | succ d ih =>
    intro fuel ρ st hz hl hq
    have hq0 := hq
    obtain ⟨h1, h2, h3, h4⟩ := hq
    obtain ⟨b, q, ops⟩ := st
    have hlp : lp sg f 124 (8, 0, 0) (d + 1) (b, q, ops) = if b = true ∧ sg q = 124 then lp sg f 124 (8, 0, 0) d ((f (q + 1)).1, (f (q + 1)).2.1, ops ++ (f (q + 1)).2.2 ++ [(8, 0, 0)]) else (b, q, ops) := rfl
    rw [hlp, show fuel + (d + 1) + 1 = fuel + d + 1 + 1 by omega, b_X12_some_4]
    have ih' := ih fuel
    generalize b_X12_some_4 kR lR F1 F2 F3 (fuel + d + 1) = G at ih' ⊢
    unfold k_X12_some_4
    cases b with
    | false =>
      rw [R_gi, (h4 rfl).2, if_neg (by decide), if_neg (fun h => absurd h.1 (by decide))]
      exact ⟨ρ, rfl, hq0⟩
    | true =>
      obtain ⟨ht, hcd⟩ := h3 rfl
      have hlz := hl rfl
      have hzz := hz rfl
      simp only at ht hcd hlz hzz
      rw [R_gi, ht.2.1, if_pos rfl, R_ck, r_here hs ht.1, fm_b1_s]
      by_cases hsq : sg q = 124
      · have hqz := sgI_n hs (show sg q ≠ -1 by rw [hsq]; decide)
        have hz100 := ht.1.1.2.1
        obtain ⟨g1, g2, g3⟩ := hg (q + 1) (by omega)
        obtain ⟨ρ2, x1, x2, x3, x4, x5⟩ := hF (wm ρ 0 6 (nI (q + 1))) (q + 1) (c0 + ops.length) (rT_6 ht (by omega)) (by omega)
        rw [if_pos hsq, if_pos ⟨rfl, hsq⟩, R_gi, ht.1.2.1, R_pi, nI_1, R_ck, show F2 0 (wm ρ 0 6 (nI (q + 1)), nR) = _ from x1, fm_b1_s, R_ck]
        have hF2 : rF m ρ0 ρ2 := rF_t h1 (rF_t (rF_0 _ _ (by omega)) x2)
        have hE2 : rE m c0 ρ0 ρ2 := rE_t h2 (rE_t (rE_0 _ _ _) (fun i hi => x3 i (by omega)))
        have hcd2 : cdR (ρ2 1) (226 + 140 * m + c0) ops := cdR_c _ _ (fun y y1 y2 => by
          obtain ⟨i, rfl⟩ : ∃ i, y = 226 + 140 * m + i := ⟨y - (226 + 140 * m), by omega⟩
          rw [x3 i (by omega), wm_r (by omega)]) hcd
        by_cases hb : (f (q + 1)).1 = true
        · obtain ⟨x6, x7⟩ := x4 hb
          obtain ⟨g4, g5, g6⟩ := g3 hb
          obtain ⟨ρ3, y1, y2, y3, y4, y5⟩ := r_emT x6 (show c0 + ops.length + (f (q + 1)).2.2.length < 140 by omega) (-3)
          rw [y1, fm_b1_s]
          refine ih' ρ3 ((f (q + 1)).1, (f (q + 1)).2.1, ops ++ (f (q + 1)).2.2 ++ [(8, 0, 0)]) (fun _ => show z ≤ (f (q + 1)).2.1 + d by omega) (fun _ => ?_) ⟨rF_t hF2 y2, rE_t hE2 (fun i hi => y3 i (by omega)), fun _ => ⟨?_, ?_⟩, fun h => absurd (hb.symm.trans h) (by decide)⟩
          · simp only [List.length_append, List.length_singleton]
            omega
          · have e1 : c0 + (ops ++ (f (q + 1)).2.2 ++ [((8, 0, 0) : Op)]).length = c0 + ops.length + (f (q + 1)).2.2.length + 1 := by
              simp only [List.length_append, List.length_singleton]
              omega
            show rT m z sg ρ3 (f (q + 1)).2.1 (c0 + (ops ++ (f (q + 1)).2.2 ++ [((8, 0, 0) : Op)]).length) o
            rw [e1]
            exact y4
          · refine cdR_app _ _ _ (cdR_app _ _ _ (cdR_c _ _ (fun y y1 y2 => ?_) hcd2) ?_) ⟨?_, trivial⟩
            · obtain ⟨i, rfl⟩ : ∃ i, y = 226 + 140 * m + i := ⟨y - (226 + 140 * m), by omega⟩
              exact y3 i (by omega)
            · rw [show 226 + 140 * m + c0 + ops.length = 226 + 140 * m + (c0 + ops.length) by omega]
              refine cdR_c _ _ (fun y y1 y2 => ?_) x7
              obtain ⟨i, rfl⟩ : ∃ i, y = 226 + 140 * m + i := ⟨y - (226 + 140 * m), by omega⟩
              exact y3 i (by omega)
            · rw [show 226 + 140 * m + c0 + (ops ++ (f (q + 1)).2.2).length = 226 + 140 * m + (c0 + ops.length + (f (q + 1)).2.2.length) by rw [List.length_append]; omega, y5]
              rfl
        · have hbf : (f (q + 1)).1 = false := by simpa using hb
          rw [r_emW (x5 hbf), fm_b1_s]
          exact ih' ρ2 ((f (q + 1)).1, (f (q + 1)).2.1, ops ++ (f (q + 1)).2.2 ++ [(8, 0, 0)]) (fun h => absurd h hb) (fun h => absurd h hb) ⟨hF2, hE2, fun h => absurd h hb, fun _ => x5 hbf⟩
      · rw [if_neg hsq, if_neg (fun h => hsq h.2)]
        exact ⟨ρ, rfl, hq0⟩
theorem r_every (hs : sgI z sg) {H : Nat} {F1 F2 F3 : Nat → fm_M → Option fm_M} {f : Nat → Bool × Nat × List Op} (hg : gd z H f) (hF : rSim m z sg o f (fun S => F1 0 S)) : rSim m z sg o (bo sg f) (fun S => s_X12_every kR lR F1 F2 F3 0 S) := by
  intro ρ p c h hc
  obtain ⟨ρ1, a1, a2, a3, a4, a5⟩ := hF ρ p c h hc
  have hz := h.1.1
  obtain ⟨g1, g2, g3⟩ := hg p hz.2.2
  obtain ⟨ρ2, b1, b2, b3, b4⟩ := r_everyl (F2 := F2) (F3 := F3) hs hg hF hc 100 899 ρ1 (f p) (fun _ => by omega) (fun h => (g3 h).2.1) ⟨a2, a3, a4, a5⟩
  refine ⟨ρ2, ?_, b2, b3, b4⟩
  show s_X12_every kR lR F1 F2 F3 0 (ρ, nR) = _
  unfold s_X12_every
  rw [R_ck, show F1 0 (ρ, nR) = _ from a1, fm_b1_s]
  exact b1
theorem r_some (hs : sgI z sg) {H : Nat} {F1 F2 F3 : Nat → fm_M → Option fm_M} {f : Nat → Bool × Nat × List Op} (hg : gd z H (bo sg f)) (hF : rSim m z sg o (bo sg f) (fun S => F2 0 S)) : rSim m z sg o (ei sg f) (fun S => s_X12_some kR lR F1 F2 F3 0 S) := by
  intro ρ p c h hc
  obtain ⟨ρ1, a1, a2, a3, a4, a5⟩ := hF ρ p c h hc
  have hz := h.1.1
  obtain ⟨g1, g2, g3⟩ := hg p hz.2.2
  obtain ⟨ρ2, b1, b2, b3, b4⟩ := r_somel (F1 := F1) (F3 := F3) hs hg hF hc 100 899 ρ1 (bo sg f p) (fun _ => by omega) (fun h => (g3 h).2.1) ⟨a2, a3, a4, a5⟩
  refine ⟨ρ2, ?_, b2, b3, b4⟩
  show s_X12_some kR lR F1 F2 F3 0 (ρ, nR) = _
  unfold s_X12_some
  rw [R_ck, show F2 0 (ρ, nR) = _ from a1, fm_b1_s]
  exact b1
end L
