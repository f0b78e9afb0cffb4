/-! the reference: hours -/
theorem nI_or (a b : Nat) : nI a ||| nI b = nI (a ||| b) := by
  apply Int32.toBitVec_inj.1
  apply BitVec.eq_of_toNat_eq
  show (BitVec.ofNat 32 a ||| BitVec.ofNat 32 b).toNat = (BitVec.ofNat 32 (a ||| b)).toNat
  rw [BitVec.toNat_or, BitVec.toNat_ofNat, BitVec.toNat_ofNat, BitVec.toNat_ofNat, Nat.or_mod_two_pow]
theorem or_pow {x c : Nat} (h : x < 2 ^ c) : x ||| 2 ^ c = x + 2 ^ c := by
  have := Nat.two_pow_add_eq_or_of_lt h 1
  rw [Nat.mul_one] at this
  rw [Nat.or_comm, ← this, Nat.add_comm]
def shB (s : Nat → Int32) (p : Nat) : Bool := decide (N (s (9 + p)) ≠ 0)
def rS (μ μ' : Nat → Nat → Int32) : Prop := ∀ r, r ≠ 1 → r ≠ 4 → r ≠ 5 → μ' r = μ r
theorem rS_r (μ : Nat → Nat → Int32) : rS μ μ := fun _ _ _ _ => rfl
theorem rS_t {μ μ' μ2 : Nat → Nat → Int32} (h : rS μ μ') (h2 : rS μ' μ2) : rS μ μ2 := fun r a b c => (h2 r a b c).trans (h r a b c)
theorem rS_B {μ μ' : Nat → Nat → Int32} (h : rB μ μ') : rS μ μ' := fun r _ b c => h r b c
theorem rS_w (μ : Nat → Nat → Int32) (j : Nat) (x : Int32) : rS μ (wm μ 1 j x) := fun r h _ _ => wm_r h
theorem r_will {μ : Nat → Nat → Int32} {p c : Nat} {cl : List Cl} {f t : Nat} (hI : rI (μ 1)) (hd : hdR (μ 1) cl f t) (hp : p < 6) (hc : c < 12) : ∃ μ', m_X12_willBe kR lR 0 (nI p) (nI c) (μ, nR) = some (b2i (will (pq (μ 1) cl p) (N (μ 1 0)) (N (μ 1 (3 + p))) c), (μ', nR)) ∧ rB μ μ' := by
  obtain ⟨μ2, b1, b2⟩ := r_grow hI hd hp hc
  refine ⟨μ2, ?_, b2⟩
  have h21 : μ2 1 = μ 1 := b2 1 (by decide) (by decide)
  obtain ⟨e3, l3⟩ := nn_N (by omega) (hI.2.2.2 p hp).1
  have hb0 : m_X12_besides kR lR 0 (nI p) (nI c) (μ2, nR) = some (nI (bes (N (μ 1 (3 + p))) c)) := r_besides hp hc (by rw [h21]; exact e3) (by omega)
  have h1 : (nI (bit (N (μ 1 (3 + p))) c) = 1 ↔ bit (N (μ 1 (3 + p))) c = 1) := nI_eq (b := 1) (Nat.lt_of_lt_of_le (bit_lt _ _) (by omega)) (by omega)
  have h2 : (nI c = 0 ↔ c = 0) := nI_eq (b := 0) (by omega) (by omega)
  have h3 : (nI (bes (N (μ 1 (3 + p))) c) ≤ 0 ↔ bes (N (μ 1 (3 + p))) c ≤ 0) := nI_leI (b := 0) (Nat.lt_of_le_of_lt (bes_le _ _) (by omega)) (by omega)
  have hx : (nI (N (μ 1 (3 + p))) >>> (nI c &&& 31)) &&& 1 = nI (bit (N (μ 1 (3 + p))) c) := sh_bit (by omega) (by omega)
  unfold m_X12_willBe will
  simp (disch := omega) only [R_g1, L_3, R_s, R_let, R_ck, b1, fm_bi_s, hb0, fm_b1_s, fm_z0, fm_z1]
  generalize grow (pq (μ 1) cl p) (N (μ 1 0)) (N (μ 1 (3 + p))) c = g
  rw [e3, hx, ← e3]
  by_cases k1 : bit (N (μ 1 (3 + p))) c = 1
  · rw [if_pos (h1.2 k1), if_pos k1, if_neg (by decide)]
    by_cases k2 : g ≤ -10
    · rw [if_pos k2, decide_eq_false (fun h => h k2)]
      rfl
    · rw [if_neg k2, decide_eq_true k2]
      rfl
  · rw [if_neg (fun a => k1 (h1.1 a)), if_neg k1, if_pos trivial]
    by_cases k2 : g ≤ 0
    · rw [if_pos k2, decide_eq_false (fun h => h k2)]
      rfl
    · rw [if_neg k2, decide_eq_true k2]
      by_cases k3 : c = 0
      · rw [if_pos (h2.2 k3), decide_eq_true k3]
        rfl
      · rw [if_neg (fun a => k3 (h2.1 a)), decide_eq_false k3]
        by_cases k4 : bes (N (μ 1 (3 + p))) c ≤ 0
        · rw [if_pos (h3.2 k4), decide_eq_false (by omega)]
          rfl
        · rw [if_neg (fun a => k4 (h3.1 a)), decide_eq_true (by omega)]
          rfl
theorem rI_c {s s' : Nat → Int32} (hI : rI s) (h0 : nn (s' 0) 20000) (h3 : ∀ p, p < 6 → nn (s' (3 + p)) 4095) (h : ∀ j, j ≠ 0 → (j < 3 ∨ 9 ≤ j) → s' j = s j) : rI s' := by
  refine ⟨h0, ?_, ?_, fun p hp => ⟨h3 p hp, ?_, ?_, ?_, ?_, fun i hi => ?_⟩⟩
  · rw [h 1 (by omega) (by omega)]; exact hI.2.1
  · rw [h 21 (by omega) (by omega)]; exact hI.2.2.1
  · rw [h (9 + p) (by omega) (by omega)]; exact (hI.2.2.2 p hp).2.1
  · rw [h (15 + p) (by omega) (by omega)]; exact (hI.2.2.2 p hp).2.2.1
  · rw [h (28 + p) (by omega) (by omega)]; exact (hI.2.2.2 p hp).2.2.2.1
  · rw [h (34 + p) (by omega) (by omega)]; exact (hI.2.2.2 p hp).2.2.2.2.1
  · rw [h (40 + 4 * p + i) (by omega) (by omega)]; exact (hI.2.2.2 p hp).2.2.2.2.2 i hi
theorem pq_c {s s' : Nat → Int32} (cl : List Cl) (p : Nat) (h : ∀ j, j = 1 ∨ 15 ≤ j → s' j = s j) : pq s' cl p = pq s cl p := by
  unfold pq
  rw [h (28 + p) (by omega), h (34 + p) (by omega), h (15 + p) (by omega), h 1 (by omega)]
  congr 6
  funext i
  rw [h (40 + 4 * p + i) (by omega)]
def frz (s : Nat → Int32) (cl : List Cl) (p : Nat) : Nat := goS (pq s cl p) (shB s p) 1 (N (s 0)) (N (s (3 + p)))
theorem nge12 : ∀ k, k < 12 → ¬ (12 : Int32) ≤ nI k := by decide
theorem r_freezes {μ : Nat → Nat → Int32} {p : Nat} {cl : List Cl} {f t : Nat} (hI : rI (μ 1)) (hd : hdR (μ 1) cl f t) (hp : p < 6) : ∃ μ', m_X12_freezes kR lR 0 (nI p) (μ, nR) = some (μ', nR) ∧ rS μ μ' ∧ μ' 1 = upd (μ 1) (3 + p) (nI (frz (μ 1) cl p)) := by
  obtain ⟨e9, l9⟩ := nn_N (by omega) (hI.2.2.2 p hp).2.1
  obtain ⟨e3, l3⟩ := nn_N (by omega) (hI.2.2.2 p hp).1
  have h9 : (nI (N (μ 1 (9 + p))) = 0 ↔ N (μ 1 (9 + p)) = 0) := nI_eq (b := 0) (by omega) (by omega)
  unfold m_X12_freezes
  simp only [R_let]
  have hLF : fm_LF = 987 + 12 + 1 := rfl
  by_cases hs : N (μ 1 (9 + p)) = 0
  · have hfr : frz (μ 1) cl p = icN (will (pq (μ 1) cl p) (N (μ 1 0)) (N (μ 1 (3 + p)))) 12 := by
      unfold frz goS shB
      rw [hs]
      rfl
    have main : ∀ (d k : Nat) (μ2 : Nat → Nat → Int32), k + d = 12 → rB μ μ2 → ∃ μ', b_X12_freezes_4 kR lR (987 + d + 1) 0 (nI p) (nI (icN (will (pq (μ 1) cl p) (N (μ 1 0)) (N (μ 1 (3 + p)))) k)) (nI k) (μ2, nR) = some (μ', nR) ∧ rS μ μ' ∧ μ' 1 = upd (μ 1) (3 + p) (nI (frz (μ 1) cl p)) := by
      intro d
      induction d with
      | zero =>
        intro k μ2 hk hb
        have hk : k = 12 := hk
        subst hk
        have h21 : μ2 1 = μ 1 := hb 1 (by decide) (by decide)
        refine ⟨wm μ2 1 (3 + p) (nI (frz (μ 1) cl p)), ?_, rS_t (rS_B hb) (rS_w _ _ _), by rw [wm_u, h21]⟩
        rw [b_X12_freezes_4]
        unfold k_X12_freezes_4
        rw [if_pos (by decide)]
        simp (disch := omega) only [R_g1, L_9, L_3, R_s, R_ws, h21]
        rw [e9, hs, if_pos (show nI 0 = 0 from rfl), hfr]
      | succ d ih =>
        intro k μ2 hk hb
        have h21 : μ2 1 = μ 1 := hb 1 (by decide) (by decide)
        obtain ⟨μ3, b1, b2⟩ := r_will (μ := μ2) (p := p) (c := k) (by rw [h21]; exact hI) (by rw [h21]; exact hd) hp (by omega)
        rw [h21] at b1
        obtain ⟨μ4, d1, d2, d3⟩ := ih (k + 1) μ3 (by omega) (rB_t hb b2)
        refine ⟨μ4, ?_, d2, d3⟩
        rw [show 987 + (d + 1) + 1 = 987 + d + 1 + 1 by omega, b_X12_freezes_4]
        unfold k_X12_freezes_4
        rw [if_neg (nge12 k (by omega))]
        revert d1
        generalize b_X12_freezes_4 kR lR (987 + d + 1) = go
        intro d1
        simp (disch := omega) only [R_g1, L_9, R_s, h21, R_ck, b1, fm_bi_s, R_let]
        rw [e9, hs, if_pos (show nI 0 = 0 from rfl)]
        have hw := icN_lt (will (pq (μ 1) cl p) (N (μ 1 0)) (N (μ 1 (3 + p)))) k
        rw [icN] at d1
        cases hx : will (pq (μ 1) cl p) (N (μ 1 0)) (N (μ 1 (3 + p))) k
        · rw [if_pos (by decide), Int32.or_zero, nI_1]
          rw [hx, if_neg (by decide), Nat.add_zero] at d1
          exact d1
        · rw [if_neg (by decide), nI_1, show (1 : Int32) = nI 1 from rfl, sh_shl (by omega) (by rw [Nat.one_mul]; exact Nat.pow_lt_pow_right (by omega) (by omega)), Nat.one_mul, nI_or, or_pow hw]
          rw [hx, if_pos rfl] at d1
          exact d1
    rw [hLF]
    exact main 12 0 μ (by omega) (rB_r μ)
  · have hfr : frz (μ 1) cl p = N (μ 1 (3 + p)) := by
      unfold frz goS shB
      rw [if_pos (decide_eq_true hs)]
    refine ⟨wm μ 1 (3 + p) (nI (frz (μ 1) cl p)), ?_, rS_w _ _ _, wm_u _ _ _ _⟩
    rw [hLF, b_X12_freezes_4]
    unfold k_X12_freezes_4
    rw [if_neg (by decide)]
    simp (disch := omega) only [R_g1, L_9, L_3, R_s, R_ws]
    have hs2 : ¬ nI (N (μ 1 (9 + p))) = 0 := fun h => hs (h9.1 h)
    rw [e9, if_neg hs2, if_neg hs2, hfr, ← e3]
theorem frz_lt {s : Nat → Int32} (hI : rI s) (cl : List Cl) {p : Nat} (hp : p < 6) : frz s cl p < 4096 := goS_lt _ _ _ _ _ (N_lt hI hp)
