/-! the reference: clauses, bites, growth -/
def nn (x : Int32) (b : Nat) : Prop := ∃ n, n ≤ b ∧ x = nI n
def N (x : Int32) : Nat := x.toNatClampNeg
theorem N_nI {n : Nat} (h : n < 2 ^ 31) : N (nI n) = n := nI_clamp h
theorem nn_N {x : Int32} {b : Nat} (hb : b < 2 ^ 31) (h : nn x b) : x = nI (N x) ∧ N x ≤ b := by
  obtain ⟨n, h1, rfl⟩ := h
  rw [N_nI (by omega)]
  exact ⟨rfl, h1⟩
theorem nn_mk {n b : Nat} (h : n ≤ b) : nn (nI n) b := ⟨n, h, rfl⟩
/-- what the reference's panes hold -/
def rI (s : Nat → Int32) : Prop := nn (s 0) 20000 ∧ nn (s 1) 20 ∧ nn (s 21) 6 ∧ ∀ p, p < 6 → nn (s (3 + p)) 4095 ∧ nn (s (9 + p)) 1 ∧ nn (s (15 + p)) 9 ∧ nn (s (28 + p)) 6 ∧ nn (s (34 + p)) 9 ∧ ∀ i, i < 4 → nn (s (40 + 4 * p + i)) 9
def pq (s : Nat → Int32) (cl : List Cl) (p : Nat) : Pn := (p, N (s (28 + p)), N (s (34 + p)), N (s (15 + p)), N (s 1), (fun i => N (s (40 + 4 * p + i))), cl)
def rB (μ μ' : Nat → Nat → Int32) : Prop := ∀ r, r ≠ 4 → r ≠ 5 → μ' r = μ r
theorem rB_r (μ : Nat → Nat → Int32) : rB μ μ := fun _ _ _ => rfl
theorem rB_t {μ μ' μ2 : Nat → Nat → Int32} (h : rB μ μ') (h2 : rB μ' μ2) : rB μ μ2 := fun r a b => (h2 r a b).trans (h r a b)
theorem en_lt {p k w h : Nat} {b : Nat → Nat} {c : Nat} (hp : p < 1000) (hk : k < 1000) (hw : w < 1000) (hh : h < 1000) (hb : b c < 1000) (hc : c < 1000) : ∀ j, j < 6 → en p k w h b c j < 1000 := by
  intro j hj
  match j, hj with
  | 0, _ => exact hp
  | 1, _ => exact hk
  | 2, _ => exact hc
  | 3, _ => exact hb
  | 4, _ => exact hw
  | 5, _ => exact hh
theorem ss_i (a b : Int32) : a - (a - b) = b := by
  rw [Int32.sub_eq_add_neg, Int32.neg_sub, Int32.add_comm, Int32.sub_add_cancel]
theorem trm_f : ∀ n, n < 100 → (trm true n < 0 ∧ ¬ trm true n = (-1) ∧ trm true n ≤ (-10) ∧ ¬ trm true n ≤ (-200) ∧ (-200) < trm true n) ∧ (trm false n < 0 ∧ ¬ trm false n = (-1) ∧ trm false n ≤ (-10) ∧ trm false n ≤ (-200) ∧ ¬ (-200) < trm false n) := by decide +kernel
theorem r_trm {μ : Nat → Nat → Int32} {sum many from' : Int32} {e i : Nat} {b ch : Bool} {n k : Nat} (fuel : Nat) (he : from' + many = nI e) (he2 : e ≤ 926) (hi : i < e) (hx : μ 1 i = trm ch n) (hn : n < 100) (ht : μ 5 0 = b2i b) : b_X12_biteOf_122 kR lR (fuel + 1) 0 sum many from' (nI k) (nI i) (μ, nR) = b_X12_biteOf_122 kR lR fuel 0 (if b = true then (if ch = true then sum + nI n else sum - nI n) else sum) many from' (nI 0) (nI (i + 1)) (μ, nR) := by
  have hi2 : ¬ from' + many ≤ nI i := by
    rw [he]
    exact nI_ge (by omega) (by omega)
  have z1 : ∀ x : Int32, x + 0 = x := Int32.add_zero
  have z2 : ∀ x : Int32, x - 0 = x := Int32.sub_zero
  obtain ⟨⟨a1, a2, a3, a4, a5⟩, d1, d2, d3, d4, d5⟩ := trm_f n hn
  have h50 : ∀ K : Int32 → Option (Int32 × fm_M), fm_ld kR lR 14 5 0 (μ, nR) K = K (b2i b) := fun K => (R_t5 (j := 0) (by decide) K).trans (by rw [ht])
  rw [b_X12_biteOf_122]
  unfold k_X12_biteOf_122
  generalize b_X12_biteOf_122 kR lR fuel = go
  simp only [R_g1, R_g10, R_g11, R_let, h50]
  rw [if_neg hi2, R_s (by omega), hx, nI_1]
  cases ch
  · rw [if_pos d1, if_neg d2, if_pos d3]
    cases b
    · rw [if_pos (show b2i false = 0 from rfl), if_pos (show b2i false = 0 from rfl), z1, z2, if_neg (by decide)]
      rfl
    · rw [if_neg (show ¬ b2i true = 0 by decide), if_pos d4, if_neg (show ¬ b2i true = 0 by decide), if_neg d5, z1, if_pos rfl, if_neg (by decide), show trm false n = -200 - nI n from rfl, ss_i]
      rfl
  · rw [if_pos a1, if_neg a2, if_pos a3]
    cases b
    · rw [if_pos (show b2i false = 0 from rfl), if_pos (show b2i false = 0 from rfl), z1, z2, if_neg (by decide)]
      rfl
    · rw [if_neg (show ¬ b2i true = 0 by decide), if_neg a4, if_neg (show ¬ b2i true = 0 by decide), if_pos a5, z2, if_pos rfl, if_pos rfl, show trm true n = -10 - nI n from rfl, ss_i]
      rfl
theorem r_cls (E : Nat → Nat → Nat) (c : Nat) (many from' : Int32) (e : Nat) (he : from' + many = nI e) (he2 : e ≤ 926) (hE : ∀ w, w < 6 → E c w < 1000) : ∀ (cl : List Cl) (i : Nat) (sum : Int32) (fuel : Nat) (μ : Nat → Nat → Int32), clR (μ 1) i cl e → (∀ w, w < 6 → μ 4 w = nI (E c w)) → ∃ μ', b_X12_biteOf_122 kR lR (fuel + (e - i) + 1) 0 sum many from' (nI 0) (nI i) (μ, nR) = some (clB E c cl sum, (μ', nR)) ∧ (∀ r, r ≠ 5 → μ' r = μ r) := by
  intro cl
  induction cl with
  | nil =>
    intro i sum fuel μ hc hb
    have hc : i = e := hc
    subst hc
    refine ⟨μ, ?_, fun _ _ => rfl⟩
    rw [b_X12_biteOf_122]
    unfold k_X12_biteOf_122
    rw [if_pos (by rw [he]; exact Int32.le_refl _)]
    rfl
  | cons o r ih =>
    intro i sum fuel μ hc hb
    obtain ⟨t, ch, n⟩ := o
    obtain ⟨h1, h2, h3, h4, h5⟩ := hc
    have hl := clR_le r _ e h5
    obtain ⟨μ1, a1, a2, a3⟩ := r_ops E c sum many from' e he he2 hE t i 0 1 (fun _ _ => false) (fuel + (e - (i + t.length + 1)) + 1 + 1) μ h1 h2 hb (fun j hj => absurd hj (by omega)) (by omega) (by omega)
    have e1 : fuel + (e - i) + 1 = fuel + (e - (i + t.length + 1)) + 1 + 1 + t.length := by omega
    obtain ⟨μ2, d1, d2⟩ := ih (i + t.length + 1) (if okL E t c = true then (if ch = true then sum + nI n else sum - nI n) else sum) fuel μ1 (by rw [a2 1 (by decide)]; exact h5) (by rw [a2 4 (by decide)]; exact hb)
    refine ⟨μ2, ?_, fun r hr => (d2 r hr).trans (a2 r hr)⟩
    rw [e1, a1, r_trm (b := okL E t c) (ch := ch) (n := n) _ he he2 (by omega) (by rw [a2 1 (by decide)]; exact h4) h3 (a3 0 (by omega))]
    exact d1
theorem r_bite {μ : Nat → Nat → Int32} {p c : Nat} {cl : List Cl} {f t : Nat} (hI : rI (μ 1)) (hd : hdR (μ 1) cl f t) (hp : p < 6) (hc : c < 12) : ∃ μ', m_X12_biteOf kR lR 0 (nI p) (nI c) (μ, nR) = some (bite (pq (μ 1) cl p) (N (μ 1 0)) (N (μ 1 (3 + p))) c, (μ', nR)) ∧ rB μ μ' := by
  obtain ⟨i0, i1, i21, iP⟩ := hI
  obtain ⟨i3, i9, i15, i28, i34, i40⟩ := iP p hp
  obtain ⟨e0, l0⟩ := nn_N (by omega) i0
  obtain ⟨e1, l1⟩ := nn_N (by omega) i1
  obtain ⟨e3, l3⟩ := nn_N (by omega) i3
  obtain ⟨e15, l15⟩ := nn_N (by omega) i15
  obtain ⟨e28, l28⟩ := nn_N (by omega) i28
  have hb0 : ∀ (μ' : Nat → Nat → Int32), μ' 1 = μ 1 → m_X12_besides kR lR 0 (nI p) (nI c) (μ', nR) = some (nI (bes (N (μ 1 (3 + p))) c)) := fun μ' h => r_besides hp hc (by rw [h]; exact e3) (by omega)
  have q1 : nI (N (μ 1 0)) - nI (N (μ 1 0)) / 10 * 10 = nI (N (μ 1 0) % 10) := pk_rem (d := 10) (by omega) (by omega) (by omega)
  obtain ⟨μ2, hμ2⟩ : ∃ μ2, μ2 = wm (wm (wm (wm (wm (wm μ 4 0 (nI p)) 4 1 (μ 1 (28 + p))) 4 2 (nI c)) 4 3 (nI (bes (N (μ 1 (3 + p))) c))) 4 4 (μ 1 (15 + p))) 4 5 (nI (N (μ 1 0) % 10)) := ⟨_, rfl⟩
  have hb2 : rB μ μ2 := by
    intro r h4 h5
    rw [hμ2]
    simp only [wm_r (r := 4) h4]
  have h21 : μ2 1 = μ 1 := hb2 1 (by decide) (by decide)
  have hby : ∀ w, w < 6 → μ2 4 w = nI (en p (N (μ 1 (28 + p))) (N (μ 1 (15 + p))) (N (μ 1 0) % 10) (bes (N (μ 1 (3 + p)))) c w) := by
    intro w hw
    rw [hμ2]
    match w, hw with
    | 0, _ => rfl
    | 1, _ => exact e28
    | 2, _ => rfl
    | 3, _ => rfl
    | 4, _ => exact e15
    | 5, _ => rfl
  have hE : ∀ w, w < 6 → en p (N (μ 1 (28 + p))) (N (μ 1 (15 + p))) (N (μ 1 0) % 10) (bes (N (μ 1 (3 + p)))) c w < 1000 := en_lt (by omega) (by omega) (by omega) (by omega) (Nat.lt_of_le_of_lt (bes_le _ _) (by omega)) (by omega)
  have hstart : m_X12_biteOf kR lR 0 (nI p) (nI c) (μ, nR) = fm_b1 (m_X12_tellsOf kR lR 0 221 0 (μ2, nR)) fun x93 => fm_ld kR lR 13 1 27 (μ2, nR) fun x110 => b_X12_biteOf_122 kR lR fm_LF 0 (μ 1 1 - μ 1 (15 + p)) x93 (226 + (140 * x110)) 0 (226 + (140 * x110)) (μ2, nR) := by
    unfold m_X12_biteOf
    simp (disch := omega) only [R_g10, R_g1, R_b0, R_b1, R_b2, R_ck, L_28, R_s, wm_r (r := 4) (r' := 1)]
    rw [hb0 _ (by simp (disch := omega) only [wm_r])]
    simp (disch := omega) only [R_g10, R_g1, R_b3, R_b4, R_b5, R_ck, L_15, R_s, R_s0, R_s1, R_let, fm_b1_s, wm_r (r := 4) (r' := 1)]
    rw [e0, q1, ← hμ2]
  rw [hstart]
  unfold bite
  rw [show Pn.c (pq (μ 1) cl p) = N (μ 1 1) from rfl, show Pn.w (pq (μ 1) cl p) = N (μ 1 (15 + p)) from rfl, ← e1, ← e15]
  rw [← h21] at hd
  rcases hd with ⟨d1, d2, d3, d4⟩ | ⟨j, e, d0, d1, d2, d3, d4, d5⟩
  · rw [r_tells0 d1]
    simp only [fm_b1_s]
    rw [R_s27, d1]
    obtain ⟨μ3, a1, a2⟩ := r_cls (en p (N (μ 1 (28 + p))) (N (μ 1 (15 + p))) (N (μ 1 0) % 10) (bes (N (μ 1 (3 + p))))) c 0 (226 + 140 * (-1)) 86 (by decide) (by omega) hE cl 86 (μ 1 1 - μ 1 (15 + p)) 999 μ2 (by rw [d2]; exact rfl) hby
    exact ⟨μ3, a1, fun r h4 h5 => (a2 r h5).trans (hb2 r h4 h5)⟩
  · rw [show (221 : Int32) = nI 221 from rfl, r_tells (j := 221) d0 (by omega) d1]
    simp only [fm_b1_s]
    rw [R_s27, d1, d2, M_140, L_226]
    have he2 := clR_le _ _ _ d4
    obtain ⟨μ3, a1, a2⟩ := r_cls (en p (N (μ 1 (28 + p))) (N (μ 1 (15 + p))) (N (μ 1 0) % 10) (bes (N (μ 1 (3 + p))))) c (nI e) (nI (226 + 140 * j)) (226 + 140 * j + e) (by rw [nI_add]) (by omega) hE cl (226 + 140 * j) (μ 1 1 - μ 1 (15 + p)) (999 - (226 + 140 * j + e - (226 + 140 * j))) μ2 d4 hby
    refine ⟨μ3, ?_, fun r h4 h5 => (a2 r h5).trans (hb2 r h4 h5)⟩
    rw [show 999 - (226 + 140 * j + e - (226 + 140 * j)) + (226 + 140 * j + e - (226 + 140 * j)) + 1 = fm_LF by unfold fm_LF; omega] at a1
    exact a1
theorem N_lt {s : Nat → Int32} (hI : rI s) {p : Nat} (hp : p < 6) : N (s (3 + p)) < 4096 := Nat.lt_of_le_of_lt (nn_N (by omega) (hI.2.2.2 p hp).1).2 (by omega)
theorem r_grow {μ : Nat → Nat → Int32} {p c : Nat} {cl : List Cl} {f t : Nat} (hI : rI (μ 1)) (hd : hdR (μ 1) cl f t) (hp : p < 6) (hc : c < 12) : ∃ μ', m_X12_growsOf kR lR 0 (nI p) (nI c) (μ, nR) = some (grow (pq (μ 1) cl p) (N (μ 1 0)) (N (μ 1 (3 + p))) c, (μ', nR)) ∧ rB μ μ' := by
  obtain ⟨μ2, b1, b2⟩ := r_bite hI hd hp hc
  have h21 : μ2 1 = μ 1 := b2 1 (by decide) (by decide)
  refine ⟨μ2, ?_, b2⟩
  obtain ⟨i0, i1, i21, iP⟩ := hI
  obtain ⟨i3, i9, i15, i28, i34, i40⟩ := iP p hp
  obtain ⟨e0, l0⟩ := nn_N (by omega) i0
  obtain ⟨e3, l3⟩ := nn_N (by omega) i3
  obtain ⟨e28, l28⟩ := nn_N (by omega) i28
  obtain ⟨e34, l34⟩ := nn_N (by omega) i34
  obtain ⟨e40, l40⟩ := nn_N (by omega) (i40 (c % 4) (by omega))
  have hb0 : m_X12_besides kR lR 0 (nI p) (nI c) (μ2, nR) = some (nI (bes (N (μ 1 (3 + p))) c)) := r_besides hp hc (by rw [h21]; exact e3) (by omega)
  have q1 : ∀ h, h < 100000 → nI h - nI h / 4 * 4 = nI (h % 4) := fun h hh => pk_rem (d := 4) (by omega) (by omega) (by omega)
  have q3 : nI c - nI c / 3 * 3 = nI (c % 3) := pk_rem (d := 3) (by omega) (by omega) (by omega)
  have q5 : (2 : Int32) * nI (bes (N (μ 1 (3 + p))) c) = nI (2 * bes (N (μ 1 (3 + p))) c) := pk_mul 2 _
  have main : ∀ (x y : Int32), b_X12_growsOf_32 kR lR fm_LF 0 (nI p) (nI c) x y x (μ2, nR) = some (growK (N (μ 1 (28 + p))) (N (μ 1 (34 + p))) (N (μ 1 (40 + 4 * p + c % 4))) (bes (N (μ 1 (3 + p))) c) c x y, (μ2, nR)) := by
    intro x y
    show k_X12_growsOf_32 kR lR (b_X12_growsOf_32 kR lR 999) 0 (nI p) (nI c) x y x (μ2, nR) = _
    unfold k_X12_growsOf_32
    generalize b_X12_growsOf_32 kR lR 999 = go
    simp (disch := omega) only [R_let, R_ck, hb0, fm_b1_s, R_g1, L_28, L_34, M_4, L_40, R_s, h21, q5, q3]
    rw [q1 c (by omega), nI_add, R_s (by omega), h21]
    have h3 : (nI (c % 3) = 2 ↔ c % 3 = 2) := nI_eq (b := 2) (by omega) (by omega)
    generalize N (μ 1 (28 + p)) = k at e28 l28 ⊢
    generalize N (μ 1 (34 + p)) = v at e34 ⊢
    generalize N (μ 1 (40 + 4 * p + c % 4)) = r at e40 ⊢
    rw [e28, e34, e40]
    match k, l28 with
    | 0, _ => rfl
    | 1, _ => rfl
    | 2, _ => rfl
    | 3, _ => rfl
    | 4, _ =>
      rw [if_neg (by decide), if_neg (by decide), if_neg (by decide), if_pos (by decide)]
      unfold growK
      by_cases h : c % 3 = 2
      · rw [if_pos (h3.2 h)]
        simp only [if_pos h]
      · rw [if_neg (fun a => h (h3.1 a))]
        simp only [if_neg h]
    | 5, _ => rfl
    | 6, _ => rfl
  unfold m_X12_growsOf
  simp (disch := omega) only [R_ck, b1, fm_bi_s, R_g1, R_s0, h21, L_34, R_s]
  rw [e0, q1 _ (by omega), ← e0]
  have h4 : (nI (N (μ 1 0) % 4) = 0 ↔ N (μ 1 0) % 4 = 0) := nI_eq (b := 0) (by omega) (by omega)
  unfold grow
  by_cases h : N (μ 1 0) % 4 = 0
  · rw [if_pos (h4.2 h), if_pos h, main, show Pn.v (pq (μ 1) cl p) = N (μ 1 (34 + p)) from rfl, ← e34]
    rfl
  · rw [if_neg (fun a => h (h4.1 a)), if_neg h, main]
    rfl
