/-! the reference's bites -/
def opc (o : Op) : Int32 := if o.1 < 6 then nI (o.1 + 8 * o.2.1 + 32 * o.2.2) else if o.1 = 6 then (-1) else if o.1 = 7 then (-2) else (-3)
def cdR (f : Nat → Int32) : Nat → List Op → Prop
  | _, [] => True
  | i, o :: r => f i = opc o ∧ cdR f (i + 1) r
def trm (ch : Bool) (n : Nat) : Int32 := if ch = true then (-10) - nI n else (-200) - nI n
def clR (f : Nat → Int32) : Nat → List Cl → Nat → Prop
  | i, [], e => i = e
  | i, (t, ch, n) :: r, e => cdR f i t ∧ opH t 0 1 ∧ n < 100 ∧ f (i + t.length) = trm ch n ∧ clR f (i + t.length + 1) r e
def hdR (s : Nat → Int32) (cl : List Cl) (f t : Nat) : Prop := (s 27 = (-1) ∧ cl = [] ∧ f = 3 ∧ t = 2) ∨ ∃ j e, j < 5 ∧ s 27 = nI j ∧ s (221 + j) = nI e ∧ e ≤ 140 ∧ clR s (226 + 140 * j) cl (226 + 140 * j + e) ∧ s (211 + j) = nI f ∧ s (216 + j) = nI t ∧ f < 100 ∧ t < 100
theorem cdR_c {f g : Nat → Int32} : ∀ (l : List Op) (i : Nat), (∀ j, i ≤ j → j < i + l.length → g j = f j) → cdR f i l → cdR g i l
  | [], _, _, _ => trivial
  | o :: r, i, h, hc => ⟨(h i (Nat.le_refl _) (by simp)).trans hc.1, cdR_c r (i + 1) (fun j h1 h2 => h j (by omega) (by simp only [List.length_cons]; omega)) hc.2⟩
theorem clR_le {f : Nat → Int32} : ∀ (l : List Cl) (i e : Nat), clR f i l e → i ≤ e
  | [], i, e, h => Nat.le_of_eq h
  | (t, ch, n) :: r, i, e, h => Nat.le_trans (by omega) (clR_le r _ e h.2.2.2.2)
theorem clR_c {f g : Nat → Int32} : ∀ (l : List Cl) (i e : Nat), (∀ j, i ≤ j → j < e → g j = f j) → clR f i l e → clR g i l e
  | [], _, _, _, h => h
  | (t, ch, n) :: r, i, e, h, hc => by
    have hl := clR_le r _ e hc.2.2.2.2
    exact ⟨cdR_c t i (fun j h1 h2 => h j h1 (by omega)) hc.1, hc.2.1, hc.2.2.1, (h _ (by omega) (by omega)).trans hc.2.2.2.1, clR_c r _ e (fun j h1 h2 => h j (by omega) h2) hc.2.2.2.2⟩
theorem hdR_c {s s' : Nat → Int32} {cl : List Cl} {f t : Nat} (h : ∀ j, 21 ≤ j → s' j = s j) (hd : hdR s cl f t) : hdR s' cl f t := by
  rcases hd with ⟨h1, h2⟩ | ⟨j, e, h0, h1, h2, h3, h4, h5, h6, h7⟩
  · exact Or.inl ⟨(h _ (by omega)).trans h1, h2⟩
  · exact Or.inr ⟨j, e, h0, (h _ (by omega)).trans h1, (h _ (by omega)).trans h2, h3, clR_c _ _ _ (fun j h1 h2 => h j (by omega)) h4, (h _ (by omega)).trans h5, (h _ (by omega)).trans h6, h7⟩
theorem r_besides {μ : Nat → Nat → Int32} {p c ice : Nat} (hp : p < 6) (hc : c < 12) (h : μ 1 (3 + p) = nI ice) (hi : ice < 4096) : m_X12_besides kR lR 0 (nI p) (nI c) (μ, nR) = some (nI (bes ice c)) := by
  unfold m_X12_besides bes
  have e1 : ∀ c, c < 12 → (nI c ≤ 0 ↔ c = 0) := by decide
  have e2 : ∀ c, c < 12 → (11 ≤ nI c ↔ ¬ c < 11) := by decide
  by_cases h0 : c = 0
  · subst h0
    rw [if_pos (by decide), if_neg (by decide : ¬ 0 < 0), if_pos (by decide : 0 < 11)]
    simp only [R_let, R_g1, L_3]
    rw [if_neg (by decide), R_s (by omega), h, show nI 0 + 1 = nI 1 from rfl, sh_bit (by omega) (by omega), show (0 : Int32) = nI 0 from rfl, nI_add]
  · rw [if_neg (by rw [e1 c hc]; exact h0), if_pos (by omega : 0 < c)]
    simp only [R_let, R_g1, L_3]
    rw [R_s (by omega), h, show (1 : Int32) = nI 1 from rfl, pk_sub (by omega : 1 ≤ c), show nI 1 = (1 : Int32) from rfl, sh_bit (by omega) (by omega)]
    by_cases h1 : c < 11
    · rw [if_neg (by rw [e2 c hc]; omega), if_pos h1, nI_1, R_s (by omega), h, sh_bit (by omega) (by omega), nI_add]
    · rw [if_pos (by rw [e2 c hc]; omega), if_neg h1, show (0 : Int32) = nI 0 from rfl, nI_add]
theorem R_t5 {α : Type} {μ : Nat → Nat → Int32} {j : Nat} (h : j < 64) (K : Int32 → Option α) : fm_ld kR lR 14 5 (nI j) (μ, nR) K = K (μ 5 j) := R_ld rfl h (by decide) K
theorem R_r4 {α : Type} {μ : Nat → Nat → Int32} {j : Nat} (h : j < 6) (K : Int32 → Option α) : fm_ld kR lR 13 4 (nI j) (μ, nR) K = K (μ 4 j) := R_ld rfl h (by decide) K
theorem b2i_T : b2i true = 1 := rfl
theorem b2i_F : b2i false = 0 := rfl
theorem b2i_or (b : Bool) : b2i b = 0 ∨ b2i b = 1 := by cases b <;> decide
theorem r_stv {μ : Nat → Nat → Int32} {st : Nat → Nat → Bool} {c j k : Nat} {f : Nat → Bool} {x : Int32} (hx : x = b2i (f c)) (h : ∀ i, i < k → i ≠ j → μ 5 i = b2i (st i c)) : ∀ i, i < k → wm μ 5 j x 5 i = b2i (stS st j f i c) := by
  intro i hi
  by_cases hj : i = j
  · subst hj
    rw [wm_s, stS_s, hx]
  · rw [wm_k hj, stS_n hj, h i hi hj]
section STEP
variable {μ : Nat → Nat → Int32} {sum many from' : Int32} {e i k : Nat}
theorem r_opt {w h v x : Nat} (fuel : Nat) (he : from' + many = nI e) (he2 : e ≤ 926) (hi : i < e) (hx : μ 1 i = nI (w + 8 * h + 32 * v)) (h1 : w < 6) (h2 : h < 3) (h3 : v < 100) (hb : μ 4 w = nI x) (hw : x < 1000) (hk : k < 16) : b_X12_biteOf_122 kR lR (fuel + 1) 0 sum many from' (nI k) (nI i) (μ, nR) = b_X12_biteOf_122 kR lR fuel 0 sum many from' (nI (k + 1)) (nI (i + 1)) (wm μ 5 k (b2i (cmpB h v x)), nR) := by
  have hi2 : ¬ from' + many ≤ nI i := by
    rw [he]
    exact nI_ge (by omega) (by omega)
  have q1 : nI (w + 8 * h + 32 * v) - nI (w + 8 * h + 32 * v) / 8 * 8 = nI w := by
    rw [show (8 : Int32) = nI 8 from rfl, pk_rem (by omega) (by omega) (by omega)]
    congr 1
    omega
  have q2 : nI (w + 8 * h + 32 * v) / 8 = nI (h + 4 * v) := by
    rw [show (8 : Int32) = nI 8 from rfl, pk_div (by omega) (by omega) (by omega)]
    congr 1
    omega
  have q3 : nI (h + 4 * v) - nI (h + 4 * v) / 4 * 4 = nI h := by
    rw [show (4 : Int32) = nI 4 from rfl, pk_rem (by omega) (by omega) (by omega)]
    congr 1
    omega
  have q4 : nI (w + 8 * h + 32 * v) / 32 = nI v := by
    rw [show (32 : Int32) = nI 32 from rfl, pk_div (by omega) (by omega) (by omega)]
    congr 1
    omega
  rw [b_X12_biteOf_122]
  unfold k_X12_biteOf_122
  generalize b_X12_biteOf_122 kR lR fuel = go
  simp only [R_g1, R_g10, R_g11, R_let]
  rw [if_neg hi2, R_s (by omega), hx, if_neg (nI_pos (by omega)), q1, q2, q3, q4, R_r4 h1, hb, nI_1, nI_1]
  have h3 : h = 0 ∨ h = 1 ∨ h = 2 := by omega
  rcases h3 with rfl | rfl | rfl
  · rw [if_pos (show nI 0 = 0 from rfl)]
    by_cases h4 : x < v
    · rw [if_neg (nI_ge h4 (by omega)), R_sz (show k < 64 by omega) 1 (Or.inr rfl), cmpB, if_pos rfl, decide_eq_true h4, b2i_T]
    · rw [if_pos (nI_le (by omega) (by omega)), R_sz (show k < 64 by omega) 0 (Or.inl rfl), cmpB, if_pos rfl, decide_eq_false h4, b2i_F]
  · rw [if_neg (show ¬ nI 1 = 0 by decide), if_pos (show nI 1 = 1 from rfl)]
    by_cases h4 : x = v
    · rw [if_pos (by rw [h4]), R_sz (show k < 64 by omega) 1 (Or.inr rfl), cmpB, if_neg (by decide), if_pos rfl, decide_eq_true h4, b2i_T]
    · rw [if_neg (by rw [nI_eq (by omega) (by omega)]; exact h4), R_sz (show k < 64 by omega) 0 (Or.inl rfl), cmpB, if_neg (by decide), if_pos rfl, decide_eq_false h4, b2i_F]
  · rw [if_neg (show ¬ nI 2 = 0 by decide), if_neg (show ¬ nI 2 = 1 by decide)]
    by_cases h4 : v < x
    · rw [if_neg (nI_ge h4 (by omega)), R_sz (show k < 64 by omega) 1 (Or.inr rfl), cmpB, if_neg (by decide), if_neg (by decide), decide_eq_true h4, b2i_T]
    · rw [if_pos (nI_le (by omega) (by omega)), R_sz (show k < 64 by omega) 0 (Or.inl rfl), cmpB, if_neg (by decide), if_neg (by decide), decide_eq_false h4, b2i_F]
theorem r_opn {b : Bool} (fuel : Nat) (he : from' + many = nI e) (he2 : e ≤ 926) (hi : i < e) (hx : μ 1 i = (-1)) (hk : k < 16) (ht : μ 5 k = b2i b) : b_X12_biteOf_122 kR lR (fuel + 1) 0 sum many from' (nI (k + 1)) (nI i) (μ, nR) = b_X12_biteOf_122 kR lR fuel 0 sum many from' (nI (k + 1)) (nI (i + 1)) (wm μ 5 k (b2i (!b)), nR) := by
  have hi2 : ¬ from' + many ≤ nI i := by
    rw [he]
    exact nI_ge (by omega) (by omega)
  rw [b_X12_biteOf_122]
  unfold k_X12_biteOf_122
  generalize b_X12_biteOf_122 kR lR fuel = go
  simp only [R_g1, R_g10, R_g11, R_let]
  rw [if_neg hi2, R_s (by omega), hx, if_pos (show (-1 : Int32) < 0 by decide), if_pos rfl, nI_pred, R_t5 (show k < 64 by omega), ht, nI_1]
  cases b
  · rw [if_pos (show b2i false = 0 from rfl), R_sz (show k < 64 by omega) 1 (Or.inr rfl), Bool.not_false, b2i_T]
  · rw [if_neg (show ¬ b2i true = 0 by decide), R_sz (show k < 64 by omega) 0 (Or.inl rfl), Bool.not_true, b2i_F]
theorem r_opb {b b' : Bool} (fuel : Nat) (he : from' + many = nI e) (he2 : e ≤ 926) (hi : i < e) (hx : μ 1 i = (-2)) (hk : k < 16) (ht : μ 5 k = b2i b) (ht' : μ 5 (k + 1) = b2i b') : b_X12_biteOf_122 kR lR (fuel + 1) 0 sum many from' (nI (k + 2)) (nI i) (μ, nR) = b_X12_biteOf_122 kR lR fuel 0 sum many from' (nI (k + 1)) (nI (i + 1)) (wm μ 5 k (b2i (b && b')), nR) := by
  have hi2 : ¬ from' + many ≤ nI i := by
    rw [he]
    exact nI_ge (by omega) (by omega)
  rw [b_X12_biteOf_122]
  unfold k_X12_biteOf_122
  generalize b_X12_biteOf_122 kR lR fuel = go
  simp only [R_g1, R_g10, R_g11, R_let]
  rw [if_neg hi2, R_s (by omega), hx, if_pos (show (-2 : Int32) < 0 by decide), if_neg (show ¬ (-2 : Int32) = -1 by decide), if_neg (show ¬ (-2 : Int32) ≤ -10 by decide), if_pos rfl, pk_m1, nI_pred, R_t5 (show k < 64 by omega), R_t5 (show k + 1 < 64 by omega), ht, ht', nI_1]
  cases b
  · rw [if_pos (show b2i false = 0 from rfl), R_sz (show k < 64 by omega) 0 (Or.inl rfl), Bool.false_and, b2i_F]
  · rw [if_neg (show ¬ b2i true = 0 by decide), Bool.true_and]
    cases b'
    · rw [if_pos (show b2i false = 0 from rfl), R_sz (show k < 64 by omega) 0 (Or.inl rfl), b2i_F]
    · rw [if_neg (show ¬ b2i true = 0 by decide), R_sz (show k < 64 by omega) 1 (Or.inr rfl), b2i_T]
theorem r_ope {b b' : Bool} (fuel : Nat) (he : from' + many = nI e) (he2 : e ≤ 926) (hi : i < e) (hx : μ 1 i = (-3)) (hk : k < 16) (ht : μ 5 k = b2i b) (ht' : μ 5 (k + 1) = b2i b') : b_X12_biteOf_122 kR lR (fuel + 1) 0 sum many from' (nI (k + 2)) (nI i) (μ, nR) = b_X12_biteOf_122 kR lR fuel 0 sum many from' (nI (k + 1)) (nI (i + 1)) (wm μ 5 k (b2i (b || b')), nR) := by
  have hi2 : ¬ from' + many ≤ nI i := by
    rw [he]
    exact nI_ge (by omega) (by omega)
  rw [b_X12_biteOf_122]
  unfold k_X12_biteOf_122
  generalize b_X12_biteOf_122 kR lR fuel = go
  simp only [R_g1, R_g10, R_g11, R_let]
  rw [if_neg hi2, R_s (by omega), hx, if_pos (show (-3 : Int32) < 0 by decide), if_neg (show ¬ (-3 : Int32) = -1 by decide), if_neg (show ¬ (-3 : Int32) ≤ -10 by decide), if_neg (show ¬ (-3 : Int32) = -2 by decide), pk_m1, nI_pred, R_t5 (show k < 64 by omega), R_t5 (show k + 1 < 64 by omega), ht, ht', nI_1]
  cases b
  · rw [if_pos (show b2i false = 0 from rfl), Bool.false_or]
    cases b'
    · rw [if_pos (show b2i false = 0 from rfl), R_sz (show k < 64 by omega) 0 (Or.inl rfl), b2i_F]
    · rw [if_neg (show ¬ b2i true = 0 by decide), R_sz (show k < 64 by omega) 1 (Or.inr rfl), b2i_T]
  · rw [if_neg (show ¬ b2i true = 0 by decide), R_sz (show k < 64 by omega) 1 (Or.inr rfl), Bool.true_or, b2i_T]
end STEP
theorem r_ops (E : Nat → Nat → Nat) (c : Nat) (sum many from' : Int32) (e : Nat) (he : from' + many = nI e) (he2 : e ≤ 926) (hE : ∀ w, w < 6 → E c w < 1000) : ∀ (l : List Op) (i k k2 : Nat) (st : Nat → Nat → Bool) (fuel : Nat) (μ : Nat → Nat → Int32), cdR (μ 1) i l → opH l k k2 → (∀ w, w < 6 → μ 4 w = nI (E c w)) → (∀ j, j < k → μ 5 j = b2i (st j c)) → k ≤ 16 → i + l.length ≤ e → ∃ μ', b_X12_biteOf_122 kR lR (fuel + l.length) 0 sum many from' (nI k) (nI i) (μ, nR) = b_X12_biteOf_122 kR lR fuel 0 sum many from' (nI k2) (nI (i + l.length)) (μ', nR) ∧ (∀ r, r ≠ 5 → μ' r = μ r) ∧ (∀ j, j < k2 → μ' 5 j = b2i (opR E l k st j c)) := by
  intro l
  induction l with
  | nil =>
    intro i k k2 st fuel μ hc hh hb ht hk hi
    have : k = k2 := hh
    subst this
    exact ⟨μ, rfl, fun _ _ => rfl, ht⟩
  | cons o r ih =>
    intro i k k2 st fuel μ hc hh hb ht hk hi
    obtain ⟨w, h, v⟩ := o
    rw [List.length_cons] at hi ⊢
    have hc1 : μ 1 i = opc (w, h, v) := hc.1
    have hc2 := hc.2
    unfold opH at hh
    have h8 : i + 1 + r.length ≤ e := by omega
    rw [show i + (r.length + 1) = i + 1 + r.length by omega, ← Nat.add_assoc fuel]
    have key : ∀ (k' : Nat) (st' : Nat → Nat → Bool) (x : Int32) (j : Nat), opH r k' k2 → k' ≤ 16 → (∀ i, i < k' → wm μ 5 j x 5 i = b2i (st' i c)) → opR E ((w, h, v) :: r) k st = opR E r k' st' → b_X12_biteOf_122 kR lR (fuel + r.length + 1) 0 sum many from' (nI k) (nI i) (μ, nR) = b_X12_biteOf_122 kR lR (fuel + r.length) 0 sum many from' (nI k') (nI (i + 1)) (wm μ 5 j x, nR) → ∃ μ', b_X12_biteOf_122 kR lR (fuel + r.length + 1) 0 sum many from' (nI k) (nI i) (μ, nR) = b_X12_biteOf_122 kR lR fuel 0 sum many from' (nI k2) (nI (i + 1 + r.length)) (μ', nR) ∧ (∀ r, r ≠ 5 → μ' r = μ r) ∧ (∀ j, j < k2 → μ' 5 j = b2i (opR E ((w, h, v) :: r) k st j c)) := by
      intro k' st' x j h1 h2 h3 h4 h5
      obtain ⟨μ', a1, a2, a3⟩ := ih (i + 1) k' k2 st' fuel (wm μ 5 j x) (by rw [wm_r (by decide)]; exact hc2) h1 (by rw [wm_r (by decide)]; exact hb) h3 h2 h8
      exact ⟨μ', h5.trans a1, fun r hr => (a2 r hr).trans (wm_r hr), by rw [h4]; exact a3⟩
    by_cases h1 : w < 6
    · rw [if_pos h1] at hh
      have hx : μ 1 i = nI (w + 8 * h + 32 * v) := by
        rw [hc1, opc, if_pos h1]
      exact key (k + 1) (stS st k (fun c => cmpB h v (E c w))) (b2i (cmpB h v (E c w))) k hh.2.2.2 (by omega) (r_stv rfl (fun i h1 h2 => ht i (by omega))) (by rw [opR, if_pos h1]) (r_opt _ he he2 (by omega) hx h1 hh.1 hh.2.1 (hb w h1) (hE w h1) hh.2.2.1)
    · rw [if_neg h1] at hh
      by_cases h2 : w = 6
      · rw [if_pos h2] at hh
        obtain ⟨k, rfl⟩ : ∃ j, k = j + 1 := ⟨k - 1, by omega⟩
        have hx : μ 1 i = (-1) := by rw [hc1, opc, if_neg h1, if_pos h2]
        exact key (k + 1) (stS st k (fun c => !st k c)) (b2i (!st k c)) k hh.2 hk (r_stv rfl (fun i h1 h2 => ht i (by omega))) (by rw [opR, if_neg h1, if_pos h2, Nat.add_sub_cancel]) (r_opn _ he he2 (by omega) hx (by omega) (ht k (by omega)))
      · rw [if_neg h2] at hh
        obtain ⟨k, rfl⟩ : ∃ j, k = j + 2 := ⟨k - 2, by omega⟩
        have e2 : k + 2 - 2 = k := rfl
        have e1 : k + 2 - 1 = k + 1 := rfl
        rw [e1] at hh
        by_cases h3 : w = 7
        · have hx : μ 1 i = (-2) := by rw [hc1, opc, if_neg h1, if_neg h2, if_pos h3]
          exact key (k + 1) (stS st k (fun c => st k c && st (k + 1) c)) (b2i (st k c && st (k + 1) c)) k hh.2.2 (by omega) (r_stv rfl (fun i h1 h2 => ht i (by omega))) (by rw [opR, if_neg h1, if_neg h2, if_pos h3, e1, e2]) (r_opb _ he he2 (by omega) hx (by omega) (ht k (by omega)) (ht (k + 1) (by omega)))
        · have hx : μ 1 i = (-3) := by rw [hc1, opc, if_neg h1, if_neg h2, if_neg h3]
          exact key (k + 1) (stS st k (fun c => st k c || st (k + 1) c)) (b2i (st k c || st (k + 1) c)) k hh.2.2 (by omega) (r_stv rfl (fun i h1 h2 => ht i (by omega))) (by rw [opR, if_neg h1, if_neg h2, if_neg h3, e1, e2]) (r_ope _ he he2 (by omega) hx (by omega) (ht k (by omega)) (ht (k + 1) (by omega)))
