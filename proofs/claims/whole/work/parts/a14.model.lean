/-! methods, both sides: town; the reference -/
/-- the reference stands at place p -/
def rP (m z : Nat) (sg : Nat → Int32) (ρ : Nat → Nat → Int32) (p o : Nat) : Prop := (m < 5 ∧ z ≤ 100 ∧ p ≤ z) ∧ ρ 0 6 = nI p ∧ ρ 0 7 = nI z ∧ ρ 0 9 = nI o ∧ ρ 0 5 = nI m ∧ ∀ i, i < z → ρ 1 (111 + i) = sg i
def rT (m z : Nat) (sg : Nat → Int32) (ρ : Nat → Nat → Int32) (p c o : Nat) : Prop := rP m z sg ρ p o ∧ ρ 0 8 = 0 ∧ ρ 1 (221 + m) = nI c
def rW (m z : Nat) (sg : Nat → Int32) (ρ : Nat → Nat → Int32) (p o : Nat) : Prop := rP m z sg ρ p o ∧ ρ 0 8 = 1
def rF (m : Nat) (ρ ρ' : Nat → Nat → Int32) : Prop := (∀ r, r ≠ 0 → r ≠ 1 → ρ' r = ρ r) ∧ (∀ y, y ≠ 6 → y ≠ 8 → y ≠ 9 → ρ' 0 y = ρ 0 y) ∧ ∀ y, y ≠ 221 + m → (y < 226 + 140 * m ∨ 226 + 140 * m + 140 ≤ y) → ρ' 1 y = ρ 1 y
def rE (m c : Nat) (ρ ρ' : Nat → Nat → Int32) : Prop := ∀ i, i < c → ρ' 1 (226 + 140 * m + i) = ρ 1 (226 + 140 * m + i)
theorem rF_r (m : Nat) (ρ : Nat → Nat → Int32) : rF m ρ ρ := ⟨fun _ _ _ => rfl, fun _ _ _ _ => rfl, fun _ _ _ => rfl⟩
theorem rF_t {m : Nat} {ρ ρ1 ρ2 : Nat → Nat → Int32} (h : rF m ρ ρ1) (h2 : rF m ρ1 ρ2) : rF m ρ ρ2 := ⟨fun r a b => (h2.1 r a b).trans (h.1 r a b), fun y a b c => (h2.2.1 y a b c).trans (h.2.1 y a b c), fun y a b => (h2.2.2 y a b).trans (h.2.2 y a b)⟩
theorem rE_t {m c : Nat} {ρ ρ1 ρ2 : Nat → Nat → Int32} (h : rE m c ρ ρ1) (h2 : rE m c ρ1 ρ2) : rE m c ρ ρ2 := fun i hi => (h2 i hi).trans (h i hi)
theorem rF_0 {m : Nat} (ρ : Nat → Nat → Int32) {k : Nat} (x : Int32) (hk : k = 6 ∨ k = 8 ∨ k = 9) : rF m ρ (wm ρ 0 k x) := ⟨fun r a _ => wm_r a, fun y a b c => wm_k (by omega), fun y _ _ => by rw [wm_r (by omega)]⟩
theorem rE_0 {m c : Nat} (ρ : Nat → Nat → Int32) (k : Nat) (x : Int32) : rE m c ρ (wm ρ 0 k x) := fun i _ => by rw [wm_r (by omega)]
section L
variable {m z : Nat} {sg : Nat → Int32} {ρ : Nat → Nat → Int32} {p c o : Nat}
theorem rP_6 (h : rP m z sg ρ p o) {q : Nat} (hq : q ≤ z) : rP m z sg (wm ρ 0 6 (nI q)) q o := by
  obtain ⟨⟨a1, a2, a3⟩, b1, b2, b3, b4, b5⟩ := h
  exact ⟨⟨a1, a2, hq⟩, wm_s _ _ _ _, by rw [wm_k (by omega)]; exact b2, by rw [wm_k (by omega)]; exact b3, by rw [wm_k (by omega)]; exact b4, fun i hi => by rw [wm_r (by omega)]; exact b5 i hi⟩
theorem rP_8 (h : rP m z sg ρ p o) (x : Int32) : rP m z sg (wm ρ 0 8 x) p o := by
  obtain ⟨a, b1, b2, b3, b4, b5⟩ := h
  exact ⟨a, by rw [wm_k (by omega)]; exact b1, by rw [wm_k (by omega)]; exact b2, by rw [wm_k (by omega)]; exact b3, by rw [wm_k (by omega)]; exact b4, fun i hi => by rw [wm_r (by omega)]; exact b5 i hi⟩
theorem rP_9 (h : rP m z sg ρ p o) (q : Nat) : rP m z sg (wm ρ 0 9 (nI q)) p q := by
  obtain ⟨a, b1, b2, b3, b4, b5⟩ := h
  exact ⟨a, by rw [wm_k (by omega)]; exact b1, by rw [wm_k (by omega)]; exact b2, wm_s _ _ _ _, by rw [wm_k (by omega)]; exact b4, fun i hi => by rw [wm_r (by omega)]; exact b5 i hi⟩
theorem rT_6 (h : rT m z sg ρ p c o) {q : Nat} (hq : q ≤ z) : rT m z sg (wm ρ 0 6 (nI q)) q c o := ⟨rP_6 h.1 hq, by rw [wm_k (by omega)]; exact h.2.1, by rw [wm_r (by omega)]; exact h.2.2⟩
theorem rT_9 (h : rT m z sg ρ p c o) (q : Nat) : rT m z sg (wm ρ 0 9 (nI q)) p c q := ⟨rP_9 h.1 q, by rw [wm_k (by omega)]; exact h.2.1, by rw [wm_r (by omega)]; exact h.2.2⟩
theorem rT_8 (h : rT m z sg ρ p c o) : rT m z sg (wm ρ 0 8 0) p c o := ⟨rP_8 h.1 0, wm_s _ _ _ _, by rw [wm_r (by omega)]; exact h.2.2⟩
theorem rW_8 (h : rP m z sg ρ p o) : rW m z sg (wm ρ 0 8 1) p o := ⟨rP_8 h 1, wm_s _ _ _ _⟩
theorem rW_9 (h : rW m z sg ρ p o) (q : Nat) : rW m z sg (wm ρ 0 9 (nI q)) p q := ⟨rP_9 h.1 q, by rw [wm_k (by omega)]; exact h.2⟩
theorem rW_6 (h : rW m z sg ρ p o) : rW m z sg (wm ρ 0 6 (nI p)) p o := ⟨rP_6 h.1 h.1.1.2.2, by rw [wm_k (by omega)]; exact h.2⟩
theorem r_here (hs : sgI z sg) (h : rP m z sg ρ p o) : m_X12_here kR lR 0 (ρ, nR) = some (sg p) := by
  obtain ⟨⟨a1, a2, a3⟩, b1, b2, b3, b4, b5⟩ := h
  unfold m_X12_here
  rw [R_gi, R_gi, b1, b2]
  by_cases hp : p < z
  · rw [if_neg (nI_ge hp (by omega)), R_g1, R_gi, b1, show (111 : Int32) + nI p = nI (111 + p) from nI_add 111 p, R_s (by omega), b5 p hp]
  · rw [if_pos (nI_le (by omega) (by omega)), (hs p).2 (by omega)]
theorem r_mustT (hs : sgI z sg) (h : rT m z sg ρ p c o) {a : Int32} (ha : a ≠ -1) : ∃ ρ', m_X12_must kR lR 0 a (ρ, nR) = some (ρ', nR) ∧ rF m ρ ρ' ∧ rE m c ρ ρ' ∧ (sg p = a → rT m z sg ρ' (p + 1) c o) ∧ (¬ sg p = a → rW m z sg ρ' p o) ∧ ρ' 1 = ρ 1 := by
  have h1 := h.1.2.1
  unfold m_X12_must
  rw [R_gi, h.2.1, if_pos rfl, R_ck, r_here hs h.1, fm_b1_s]
  by_cases hp : sg p = a
  · have hz := sgI_n hs (show sg p ≠ -1 by rw [hp]; exact ha)
    rw [if_pos hp, R_pz _ _ (Or.inl rfl), R_gi, R_gi, wm_s, if_pos rfl, wm_k (by omega), h1, R_pi, nI_1]
    exact ⟨_, rfl, rF_t (rF_0 _ _ (by omega)) (rF_0 _ _ (by omega)), rE_t (rE_0 _ _ _) (rE_0 _ _ _), fun _ => rT_6 (rT_8 h) (by omega), fun h => absurd hp h, by rw [wm_r (by omega), wm_r (by omega)]⟩
  · rw [if_neg hp, R_pz _ _ (Or.inr rfl), R_gi, R_gi, wm_s, if_neg (by decide), wm_k (by omega), h1, R_pi, Int32.add_zero]
    exact ⟨_, rfl, rF_t (rF_0 _ _ (by omega)) (rF_0 _ _ (by omega)), rE_t (rE_0 _ _ _) (rE_0 _ _ _), fun h => absurd h hp, fun _ => rW_6 (rW_8 h.1), by rw [wm_r (by omega), wm_r (by omega)]⟩
theorem r_mustW (h : rW m z sg ρ p o) (a : Int32) : ∃ ρ', m_X12_must kR lR 0 a (ρ, nR) = some (ρ', nR) ∧ rF m ρ ρ' ∧ rW m z sg ρ' p o ∧ ρ' 1 = ρ 1 := by
  have h1 := h.1.2.1
  unfold m_X12_must
  rw [R_gi, h.2, if_neg (by decide), R_pz _ _ (Or.inr rfl), R_gi, R_gi, wm_s, if_neg (by decide), wm_k (by omega), h1, R_pi, Int32.add_zero]
  exact ⟨_, rfl, rF_t (rF_0 _ _ (by omega)) (rF_0 _ _ (by omega)), rW_6 (rW_8 h.1), by rw [wm_r (by omega), wm_r (by omega)]⟩
theorem r_emT (h : rT m z sg ρ p c o) (hc : c < 140) (x : Int32) : ∃ ρ', m_X12_emits kR lR 0 x (ρ, nR) = some (ρ', nR) ∧ rF m ρ ρ' ∧ rE m c ρ ρ' ∧ rT m z sg ρ' p (c + 1) o ∧ ρ' 1 (226 + 140 * m + c) = x := by
  obtain ⟨⟨⟨a1, a2, a3⟩, b1, b2, b3, b4, b5⟩, h8, h221⟩ := h
  refine ⟨wm (wm ρ 1 (226 + 140 * m + c) x) 1 (221 + m) (nI (c + 1)), ?_, ⟨fun r x y => by rw [wm_r y, wm_r y], fun y _ _ _ => by rw [wm_r (by omega), wm_r (by omega)], fun y y1 y2 => by rw [wm_k y1, wm_k (by omega)]⟩, fun i hi => by rw [wm_k (by omega), wm_k (by omega)], ⟨⟨⟨a1, a2, a3⟩, by rw [wm_r (by omega), wm_r (by omega)]; exact b1, by rw [wm_r (by omega), wm_r (by omega)]; exact b2, by rw [wm_r (by omega), wm_r (by omega)]; exact b3, by rw [wm_r (by omega), wm_r (by omega)]; exact b4, fun i hi => by rw [wm_k (by omega), wm_k (by omega)]; exact b5 i hi⟩, by rw [wm_r (by omega), wm_r (by omega)]; exact h8, wm_s _ _ _ _⟩, by rw [wm_k (by omega), wm_s]⟩
  unfold m_X12_emits
  have e1 : (226 : Int32) + 140 * nI m + nI c = nI (226 + 140 * m + c) := by
    rw [show (140 : Int32) = nI 140 from rfl, show (226 : Int32) = nI 226 from rfl, pk_mul, nI_add, nI_add]
  have e2 : (221 : Int32) + nI m = nI (221 + m) := nI_add 221 m
  rw [R_gi, h8, if_pos rfl, R_g1, R_gi, b4, R_g1, R_gi, b4, e2, R_s (by omega), h221, e1, R_ws (by omega), R_g1, R_gi, wm_r (by omega), b4, e2, R_s (by omega), wm_k (by omega), h221, R_ws (by omega), nI_1]
theorem r_emW (h : rW m z sg ρ p o) (x : Int32) : m_X12_emits kR lR 0 x (ρ, nR) = some (ρ, nR) := by
  unfold m_X12_emits
  rw [R_gi, h.2, if_neg (by decide)]
end L
