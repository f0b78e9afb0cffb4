/-! methods, both sides: town; the reference's clauses -/
theorem clR_app {f : Nat → Int32} {t : List Op} {ch : Bool} {n : Nat} : ∀ (l : List Cl) (i e : Nat), clR f i l e → cdR f e t → opH t 0 1 → n < 100 → f (e + t.length) = trm ch n → clR f i (l ++ [(t, ch, n)]) (e + t.length + 1)
  | [], i, e, h, h1, h2, h3, h4 => by
    have h : i = e := h
    subst h
    exact ⟨h1, h2, h3, h4, rfl⟩
  | (t0, c0, n0) :: r, i, e, h, h1, h2, h3, h4 => by
    obtain ⟨a1, a2, a3, a4, a5⟩ := h
    exact ⟨a1, a2, a3, a4, clR_app r _ _ a5 h1 h2 h3 h4⟩
def rFc (m : Nat) (ρ ρ' : Nat → Nat → Int32) : Prop := (∀ r, r ≠ 0 → r ≠ 1 → ρ' r = ρ r) ∧ (∀ y, y ≠ 6 → y ≠ 8 → y ≠ 9 → ρ' 0 y = ρ 0 y) ∧ ∀ y, y ≠ 211 + m → y ≠ 216 + m → y ≠ 221 + m → (y < 226 + 140 * m ∨ 226 + 140 * m + 140 ≤ y) → ρ' 1 y = ρ 1 y
theorem rFc_r (m : Nat) (ρ : Nat → Nat → Int32) : rFc m ρ ρ := ⟨fun _ _ _ => rfl, fun _ _ _ _ => rfl, fun _ _ _ _ _ => rfl⟩
theorem rFc_t {m : Nat} {ρ ρ1 ρ2 : Nat → Nat → Int32} (h : rFc m ρ ρ1) (h2 : rFc m ρ1 ρ2) : rFc m ρ ρ2 := ⟨fun r a b => (h2.1 r a b).trans (h.1 r a b), fun y a b c => (h2.2.1 y a b c).trans (h.2.1 y a b c), fun y a b c d => (h2.2.2 y a b c d).trans (h.2.2 y a b c d)⟩
theorem rFc_f {m : Nat} {ρ ρ1 : Nat → Nat → Int32} (h : rF m ρ ρ1) : rFc m ρ ρ1 := ⟨h.1, h.2.1, fun y _ _ c d => h.2.2 y c d⟩
def uT (m z : Nat) (sg : Nat → Int32) (ρ : Nat → Nat → Int32) (p c : Nat) (st : Ts) : Prop := rT m z sg ρ p c 0 ∧ (c ≤ p + st.1.length ∧ st.1.length ≤ 10 ∧ st.2.1 < 100 ∧ st.2.2 < 100) ∧ ρ 1 (211 + m) = nI st.2.1 ∧ ρ 1 (216 + m) = nI st.2.2 ∧ clR (ρ 1) (226 + 140 * m) st.1 (226 + 140 * m + c)
def uR (m z : Nat) (sg : Nat → Int32) (ρ : Nat → Nat → Int32) (r : Bool × Nat × Ts) (X : Option fm_M) : Prop := ∃ ρ', X = some (ρ', nR) ∧ rFc m ρ ρ' ∧ (r.1 = true → ∃ c', uT m z sg ρ' r.2.1 c' r.2.2) ∧ (r.1 = false → rW m z sg ρ' r.2.1 0)
section L
variable {m z : Nat} {sg : Nat → Int32}
theorem r_muchW {ρ0 ρ : Nat → Nat → Int32} {p : Nat} {st : Ts} (h : rW m z sg ρ p 0) (hF : rFc m ρ0 ρ) (x : Int32) : uR m z sg ρ0 (false, p, st) (fm_b1 (m_X12_some fm_RF kR lR 0 (ρ, nR)) fun S17 => fm_ck (kR 0 == 12) <| fm_b1 (m_X12_emits kR lR 0 x S17) fun S24 => some S24) := by
  have h1 : m_X12_some fm_RF kR lR 0 (ρ, nR) = some (ρ, nR) := (no_grp (m := m) (z := z) (sg := sg) 57).2.2 ρ p 0 h
  rw [h1, fm_b1_s, R_ck, r_emW h, fm_b1_s]
  exact ⟨ρ, rfl, hF, fun h => absurd h (by simp), fun _ => h⟩
theorem r_much (hs : sgI z sg) {ρ : Nat → Nat → Int32} {p c t : Nat} {st : Ts} {a1 : Int32} (h : uT m z sg ρ p c st) (hl : st.1.length < 10) (ht : t < 6) (ht0 : ¬ t = 0) (ht1 : ¬ t = 1) (hwi : wi (sg p) = t) (ha : ∀ v, a1 - nI v = trm (decide (t = 2)) v) : uR m z sg ρ (cls sg p st) (m_X12_much kR lR 0 a1 t (ρ, nR)) := by
  obtain ⟨hT, ⟨hcp, hl10, hf, hw⟩, h211, h216, hcl⟩ := h
  have hz := hT.1.1
  obtain ⟨ρ1, s1, s2, s3, s4, s5⟩ := r_spells hs ht hT
  obtain ⟨w1, w2⟩ := wdl_ok hs ht (fm_sl t) 0 p (by omega) hz.2.2
  have w1 : (wd sg t p).2 ≤ z := w1
  have w2 : p ≤ (wd sg t p).2 := w2
  unfold m_X12_much cls
  rw [R_ck, s1, fm_b1_s, R_ck, hwi]
  generalize wd sg t p = w at *
  obtain ⟨b, q⟩ := w
  cases b with
  | false =>
    obtain ⟨v, ρ2, f1, f2, f3, f4⟩ := r_figW (s4 rfl)
    obtain ⟨ρ3, g1, g2, g3, g4⟩ := r_mustW f3 32
    rw [f1, fm_bi_s, R_ck, g1, fm_b1_s, R_ck, if_neg Bool.false_ne_true]
    exact r_muchW g3 (rFc_f (rF_t s2 (rF_t f2 g2))) _
  | true =>
    have hT1 := s3 rfl
    obtain ⟨ρ2, f1, f2, f3, f4, f5, f6⟩ := r_figT hs hT1
    obtain ⟨n1, n2, n3⟩ := num_ok hs w1
    simp only at f1 f3 f4 f5 n1 n2 n3 w1 w2 hT1 ⊢
    rw [f1, fm_bi_s, R_ck, if_pos trivial]
    generalize num sg q = w at *
    obtain ⟨b, q2, v⟩ := w
    cases b with
    | false =>
      obtain ⟨ρ3, g1, g2, g3, g4⟩ := r_mustW (f5 rfl) 32
      rw [g1, fm_b1_s, R_ck, if_neg Bool.false_ne_true]
      exact r_muchW g3 (rFc_f (rF_t s2 (rF_t f2 g2))) _
    | true =>
      have hT2 := f4 rfl
      obtain ⟨n4, n5⟩ := n3 rfl
      simp only at n1 n2 n4 n5 hT2 ⊢
      obtain ⟨ρ3, g1, g2, g3, g4, g5, g6⟩ := r_mustT hs hT2 (show (32 : Int32) ≠ -1 by decide)
      rw [g1, fm_b1_s, R_ck, if_pos trivial, if_neg ht0, if_neg ht1]
      by_cases h32 : sg q2 = 32
      · have hT3 := g4 h32
        have hqz := sgI_n hs (show sg q2 ≠ -1 by rw [h32]; decide)
        obtain ⟨ρ4, x1, x2, x3, x4, x5⟩ := (r_lvl (m := m) hs 5 (by omega) 39).2.2 ρ3 (q2 + 1) c hT3 (by omega)
        have x1' : m_X12_some fm_RF kR lR 0 (ρ3, nR) = some (ρ4, nR) := x1
        obtain ⟨e1, e2, e3⟩ := ei_gd hs (pa_gd hs 5) (q2 + 1) (by omega)
        rw [x1', fm_b1_s, R_ck, if_pos h32]
        generalize ei sg (pa sg 5) (q2 + 1) = r at *
        obtain ⟨b, q3, ops⟩ := r
        cases b with
        | false =>
          have hW := x5 rfl
          rw [r_emW hW, fm_b1_s]
          exact ⟨ρ4, rfl, rFc_f (rF_t s2 (rF_t f2 (rF_t g2 x2))), fun h => absurd h (by simp), fun _ => hW⟩
        | true =>
          obtain ⟨x6, x7⟩ := x4 rfl
          obtain ⟨e4, e5, e6⟩ := e3 rfl
          simp only at x6 x7 e1 e4 e5 e6
          obtain ⟨ρ5, y1, y2, y3, y4, y5⟩ := r_emT x6 (show c + ops.length < 140 by omega) (a1 - nI v)
          have hF : rF m ρ ρ5 := rF_t s2 (rF_t f2 (rF_t g2 (rF_t x2 y2)))
          have h31 : ρ3 1 = ρ 1 := g6.trans (f6.trans s5)
          rw [y1, fm_b1_s]
          refine ⟨ρ5, rfl, rFc_f hF, fun _ => ⟨c + ops.length + 1, y4, ⟨?_, ?_, hf, hw⟩, ?_, ?_, ?_⟩, fun h => absurd h (by simp)⟩
          · simp only [List.length_append, List.length_singleton]
            omega
          · simp only [List.length_append, List.length_singleton]
            omega
          · rw [hF.2.2 (211 + m) (by omega) (by omega)]; exact h211
          · rw [hF.2.2 (216 + m) (by omega) (by omega)]; exact h216
          · rw [show 226 + 140 * m + (c + ops.length + 1) = 226 + 140 * m + c + ops.length + 1 by omega]
            refine clR_app st.1 _ _ (clR_c _ _ _ (fun y y1' y2' => ?_) hcl) (cdR_c _ _ (fun y y1' y2' => ?_) x7) (e6 0 (by omega)) n5 ?_
            · obtain ⟨i, rfl⟩ : ∃ i, y = 226 + 140 * m + i := ⟨y - (226 + 140 * m), by omega⟩
              rw [y3 i (by omega), x3 i (by omega), h31]
            · simp only at y2'
              obtain ⟨i, rfl⟩ : ∃ i, y = 226 + 140 * m + i := ⟨y - (226 + 140 * m), by omega⟩
              exact y3 i (by omega)
            · rw [show 226 + 140 * m + c + ops.length = 226 + 140 * m + (c + ops.length) by omega, y5]
              exact ha v
      · rw [if_neg h32]
        exact r_muchW (g5 h32) (rFc_f (rF_t s2 (rF_t f2 g2))) _
theorem r_tellC (hs : sgI z sg) {ρ : Nat → Nat → Int32} {p c t b0 : Nat} {st : Ts} (h : uT m z sg ρ p c st) (ht : (t = 0 ∧ b0 = 211) ∨ (t = 1 ∧ b0 = 216)) (hwi : wi (sg p) = t) : uR m z sg ρ (cls sg p st) (m_X12_tellsHere kR lR 0 (nI b0) t (ρ, nR)) := by
  obtain ⟨hT, ⟨hcp, hl10, hf, hw⟩, h211, h216, hcl⟩ := h
  have hz := hT.1.1
  have ht6 : t < 6 := by omega
  obtain ⟨ρ1, s1, s2, s3, s4, s5⟩ := r_spells hs ht6 hT
  obtain ⟨w1, w2⟩ := wdl_ok hs ht6 (fm_sl t) 0 p (by omega) hz.2.2
  have w1 : (wd sg t p).2 ≤ z := w1
  have w2 : p ≤ (wd sg t p).2 := w2
  unfold m_X12_tellsHere cls
  rw [R_ck, s1, fm_b1_s, R_ck, hwi]
  generalize wd sg t p = w at *
  obtain ⟨b, q⟩ := w
  cases b with
  | false =>
    obtain ⟨v, ρ2, f1, f2, f3, f4⟩ := r_figW (s4 rfl)
    rw [f1, fm_bi_s, R_gi, f3.2, if_neg (show ¬ (1 : Int32) = 0 by decide), if_neg Bool.false_ne_true]
    exact ⟨ρ2, rfl, rFc_f (rF_t s2 f2), fun h => absurd h (by simp), fun _ => f3⟩
  | true =>
    have hT1 := s3 rfl
    obtain ⟨ρ2, f1, f2, f3, f4, f5, f6⟩ := r_figT hs hT1
    obtain ⟨n1, n2, n3⟩ := num_ok hs w1
    simp only at f1 f3 f4 f5 n1 n2 n3 w1 w2 hT1 ⊢
    rw [f1, fm_bi_s, if_pos trivial]
    generalize num sg q = w at *
    obtain ⟨b, q2, v⟩ := w
    cases b with
    | false =>
      have hW := f5 rfl
      rw [R_gi, hW.2, if_neg (show ¬ (1 : Int32) = 0 by decide), if_neg Bool.false_ne_true]
      exact ⟨ρ2, rfl, rFc_f (rF_t s2 f2), fun h => absurd h (by simp), fun _ => hW⟩
    | true =>
      have hT2 := f4 rfl
      obtain ⟨n4, n5⟩ := n3 rfl
      simp only at n1 n2 n4 n5 hT2 ⊢
      have h21 : ρ2 1 = ρ 1 := f6.trans s5
      have hF : rF m ρ ρ2 := rF_t s2 f2
      rw [R_gi, hT2.2.1, if_pos rfl, R_g1, R_gi, hT2.1.2.2.2.2.1, nI_add, R_ws (by omega), if_pos trivial]
      have hfin : ∀ (st' : Ts), st'.1 = st.1 → st'.2.1 < 100 → st'.2.2 < 100 → wm ρ2 1 (b0 + m) (nI v) 1 (211 + m) = nI st'.2.1 → wm ρ2 1 (b0 + m) (nI v) 1 (216 + m) = nI st'.2.2 → uR m z sg ρ (true, q2, st') (some (wm ρ2 1 (b0 + m) (nI v), nR)) := by
        intro st' e1 e2 e3 e4 e5
        refine ⟨_, rfl, rFc_t (rFc_f hF) ⟨fun r _ r1 => wm_r r1, fun y _ _ _ => by rw [wm_r (by omega)], fun y y1 y2 y3 y4 => wm_k (by omega)⟩, fun _ => ⟨c, ⟨⟨hT2.1.1, ?_, ?_, ?_, ?_, fun i hi => ?_⟩, ?_, ?_⟩, ⟨by rw [e1]; simp only; omega, by rw [e1]; exact hl10, e2, e3⟩, e4, e5, ?_⟩, fun h => absurd h (by simp)⟩
        · rw [wm_r (by omega)]; exact hT2.1.2.1
        · rw [wm_r (by omega)]; exact hT2.1.2.2.1
        · rw [wm_r (by omega)]; exact hT2.1.2.2.2.1
        · rw [wm_r (by omega)]; exact hT2.1.2.2.2.2.1
        · rw [wm_k (by omega)]; exact hT2.1.2.2.2.2.2 i hi
        · rw [wm_r (by omega)]; exact hT2.2.1
        · rw [wm_k (by omega)]; exact hT2.2.2
        · rw [e1]
          exact clR_c _ _ _ (fun y y1 y2 => by rw [wm_k (by omega), h21]) hcl
      rcases ht with ⟨rfl, rfl⟩ | ⟨rfl, rfl⟩
      · rw [if_pos rfl]
        refine hfin _ rfl n5 hw (wm_s _ _ _ _) ?_
        rw [wm_k (by omega), h21]
        exact h216
      · rw [if_neg (by decide), if_pos rfl]
        refine hfin _ rfl hf n5 ?_ (wm_s _ _ _ _)
        rw [wm_k (by omega), h21]
        exact h211
end L
