/-! the class: growth, hours -/
theorem bes_bit (ice c : Nat) (hi : ice < 4096) (hc : c < 12) : bit (ice * 2) c + bit (ice / 2) c = bes ice c := by
  rw [bes_tb, bit_01, bit_01, show ice * 2 = ice * 2 ^ 1 by omega, Nat.testBit_mul_two_pow, show ice / 2 = ice / 2 ^ 1 by omega, Nat.testBit_div_two_pow]
  have h11 : ¬ c < 11 → ice.testBit (c + 1) = false := fun h => tb_hi hi (by omega)
  by_cases h1 : 0 < c
  · rw [decide_eq_true (show 1 ≤ c by omega), Bool.true_and]
    by_cases h2 : c < 11
    · simp only [h1, h2, true_and]
    · rw [h11 h2]
      simp only [h1, h2, true_and, false_and]
      rfl
  · rw [decide_eq_false (show ¬ 1 ≤ c by omega), Bool.false_and]
    by_cases h2 : c < 11
    · simp only [h1, h2, true_and, false_and]
      rfl
    · rw [h11 h2]
      simp only [h1, h2, false_and]
      rfl
section G
variable {Kd : Nat → Nat} {n : Nat → Nat → Option Nat} {μ : Nat → Nat → Int32} {j i h ice : Nat} {q : Pn} {sh : Bool} {c : Nat}
theorem k_bes (h6 : μ (103 + 6 * j) 6 = nI ice) (hi : ice < 4096) (hc : c < 12) : m_X1_frozenBeside (kC Kd) lC (103 + 6 * j) (nI c) (μ, n) = some (nI (bes ice c)) := by
  unfold m_X1_frozenBeside
  simp only [C_gic]
  rw [h6, show nI ice <<< ((1 : Int32) &&& 31) = nI (ice * 2) from sh_shl (n := ice) (c := 1) (by omega) (by omega), show nI ice >>> ((1 : Int32) &&& 31) = nI (ice / 2) from sh_shr (n := ice) (c := 1) (by omega) (by omega), sh_bit (by omega) (by omega), sh_bit (by omega) (by omega), nI_add, bes_bit ice c hi hc]
theorem k_g5 (hI : cI Kd μ n j i q h ice sh) (hc : c < 12) (r0 : Nat) : m_X5_growth (kC Kd) lC r0 (103 + 6 * j) (nI c) (μ, n) = some (μ (104 + 6 * j) c) := by
  obtain ⟨⟨⟨p1, p2, p3, p4, p5, p6⟩, _, tt⟩, _⟩ := hI
  unfold m_X5_growth
  simp only [C_grc p5, C_lb hc]
theorem k_g3 (hI : cI Kd μ n j i q h ice sh) (hc : c < 12) (hk : Pn.k q = 1 ∨ Pn.k q = 4) : m_X3_growth (kC Kd) lC (100 + 6 * j) (103 + 6 * j) (nI c) (μ, n) = some (μ (104 + 6 * j) c - nI (if h % 4 = 0 then Pn.v q else 0)) := by
  have h5 := k_g5 hI hc (100 + 6 * j)
  obtain ⟨_, ⟨f2, f3, f4, f5, f6, f7⟩, ⟨g0, g1, g2, _⟩, b1, b2, b3, b4, b5, b6, b7, b8⟩ := hI
  have e4 : nI h - nI h / 4 * 4 = nI (h % 4) := pk_rem (d := 4) (by omega) (by omega) (by omega)
  have z4 : (nI (h % 4) = 0 ↔ h % 4 = 0) := nI_eq (b := 0) (by omega) (by omega)
  have hck : fm_isC (kC Kd (100 + 6 * j)) 3 = true := by
    rw [kC_o, g2]
    rcases hk with hk | hk <;> rw [hk] <;> rfl
  unfold m_X3_growth
  simp only [C_gic, R_let, h5, fm_b1_s, C_ck hck]
  rw [f5, f4, e4]
  by_cases hz : h % 4 = 0
  · rw [if_pos (z4.2 hz), if_pos hz]
  · rw [if_neg (fun a => hz (z4.1 a)), if_neg hz]
    rfl
theorem k_g4 (hI : cI Kd μ n j i q h ice sh) (hc : c < 12) (hk : Pn.k q = 2 ∨ Pn.k q = 5) : m_X4_growth (kC Kd) lC (100 + 6 * j) (103 + 6 * j) (nI c) (μ, n) = some (μ (104 + 6 * j) c / 2) := by
  have h5 := k_g5 hI hc (100 + 6 * j)
  have hck : fm_isC (kC Kd (100 + 6 * j)) 4 = true := by
    rw [kC_o, hI.2.2.1.2.2.1]
    rcases hk with hk | hk <;> rw [hk] <;> rfl
  unfold m_X4_growth
  simp only [h5, fm_b1_s, C_ck hck]
theorem k_g7 (hI : cI Kd μ n j i q h ice sh) (hc : c < 12) (hk : Pn.k q = 3 ∨ Pn.k q = 6) : m_X7_growth (kC Kd) lC (100 + 6 * j) (103 + 6 * j) (nI c) (μ, n) = some (μ (104 + 6 * j) c + nI (2 * bes ice c)) := by
  have h5 := k_g5 hI hc (100 + 6 * j)
  have hb := k_bes (Kd := Kd) (n := n) hI.2.1.2.2.2.2.1 hI.2.2.2.2.2.2.2.1 hc
  have hck : fm_isC (kC Kd (100 + 6 * j)) 7 = true := by
    rw [kC_o, hI.2.2.1.2.2.1]
    rcases hk with hk | hk <;> rw [hk] <;> rfl
  unfold m_X7_growth
  simp only [h5, fm_b1_s, C_ck hck, C_ckc, hb]
  rw [show (2 : Int32) * nI (bes ice c) = nI (2 * bes ice c) from pk_mul 2 _]
theorem k_growth (hI : cI Kd μ n j i q h ice sh) (hc : c < 12) (hb : μ (104 + 6 * j) c = bite q h ice c) : v_growth (kC Kd) lC (100 + 6 * j) (103 + 6 * j) (nI c) (μ, n) = some (grow q h ice c) := by
  have hK : kC Kd (100 + 6 * j) = ckK (Pn.k q) := by rw [kC_o, hI.2.2.1.2.2.1]
  have hk6 : Pn.k q ≤ 6 := hI.2.2.2.2.2.2.2.2.1
  have e3 : nI c - nI c / 3 * 3 = nI (c % 3) := pk_rem (d := 3) (by omega) (by omega) (by omega)
  have e4 : nI c - nI c / 4 * 4 = nI (c % 4) := pk_rem (d := 4) (by omega) (by omega) (by omega)
  have z3 : (nI (c % 3) = 2 ↔ c % 3 = 2) := nI_eq (b := 2) (by omega) (by omega)
  unfold v_growth grow
  rw [hK, ← hb]
  have hcase : Pn.k q = 0 ∨ Pn.k q = 1 ∨ Pn.k q = 2 ∨ Pn.k q = 3 ∨ Pn.k q = 4 ∨ Pn.k q = 5 ∨ Pn.k q = 6 := by omega
  rcases hcase with hk | hk | hk | hk | hk | hk | hk
  · rw [hk, show ckK 0 = 5 from rfl, if_neg (by decide), if_neg (by decide), if_neg (by decide), if_neg (by decide), if_pos rfl, k_g5 hI hc]
    rfl
  · rw [hk, show ckK 1 = 3 from rfl, if_neg (by decide), if_neg (by decide), if_pos rfl, k_g3 hI hc (Or.inl hk)]
    rfl
  · rw [hk, show ckK 2 = 4 from rfl, if_neg (by decide), if_neg (by decide), if_neg (by decide), if_pos rfl, k_g4 hI hc (Or.inl hk)]
    rfl
  · rw [hk, show ckK 3 = 7 from rfl, if_neg (by decide), if_neg (by decide), if_neg (by decide), if_neg (by decide), if_neg (by decide), if_pos rfl, k_g7 hI hc (Or.inl hk)]
    rfl
  · rw [hk, show ckK 4 = 2 from rfl, if_neg (by decide), if_pos rfl]
    have hck : fm_isC (kC Kd (100 + 6 * j)) 2 = true := by rw [hK, hk]; rfl
    unfold m_X2_growth growK
    simp only [k_g3 hI hc (Or.inr hk), fm_b1_s, C_ck hck]
    rw [e3]
    by_cases h3 : c % 3 = 2
    · rw [if_pos (z3.2 h3), if_pos h3]
    · rw [if_neg (fun a => h3 (z3.1 a)), if_neg h3]
  · rw [hk, show ckK 5 = 0 from rfl, if_pos rfl]
    have hck : fm_isC (kC Kd (100 + 6 * j)) 0 = true := by rw [hK, hk]; rfl
    unfold m_X0_growth
    simp only [k_g4 hI hc (Or.inr hk), fm_b1_s, C_ck hck, C_gic]
    rw [hI.2.1.2.2.1]
    rfl
  · rw [hk, show ckK 6 = 9 from rfl, if_neg (by decide), if_neg (by decide), if_neg (by decide), if_neg (by decide), if_neg (by decide), if_neg (by decide), if_pos rfl]
    have hck : fm_isC (kC Kd (100 + 6 * j)) 9 = true := by rw [hK, hk]; rfl
    unfold m_X9_growth
    simp only [k_g7 hI hc (Or.inr hk), fm_b1_s, C_ck hck, C_gr hck hI.1.1.2.1]
    rw [e4, C_lp (by omega), hI.2.2.1.2.2.2 hk _ (by omega)]
    rfl
end G
theorem gh18_s (kap lam : Nat → Nat) (f : Nat) : b_X1_goHour_18 kap lam (f + 1) = k_X1_goHour_18 kap lam (b_X1_goHour_18 kap lam f) (b_X1_goHour_50 kap lam f) := rfl
theorem gh50_s (kap lam : Nat → Nat) (f : Nat) : b_X1_goHour_50 kap lam (f + 1) = k_X1_goHour_50 kap lam (b_X1_goHour_18 kap lam f) (b_X1_goHour_50 kap lam f) := rfl
/-- the next ICE as it comes to be: cells below x as they will be, the others as they are -/
def mixF (f : Nat → Bool) (ice x : Nat) : Nat → Bool := fun c => if c < x then f c else ice.testBit c
theorem mix_or (f : Nat → Bool) (ice x : Nat) (hx : x < 12) (hf : f x = true) : icN (mixF f ice x) 12 ||| 2 ^ x = icN (mixF f ice (x + 1)) 12 := by
  apply icN_eq
  intro c
  rw [Nat.testBit_or, icN_tb, Nat.testBit_two_pow]
  unfold mixF
  by_cases hcx : x = c
  · subst hcx
    rw [decide_eq_true rfl, decide_eq_true hx, if_pos (by omega : x < x + 1), hf]
    simp
  · rw [decide_eq_false hcx, Bool.or_false]
    congr 1
    by_cases h1 : c < x
    · rw [if_pos h1, if_pos (by omega)]
    · rw [if_neg h1, if_neg (by omega)]
theorem mix_and (f : Nat → Bool) (ice x : Nat) (hx : x < 12) (hf : f x = false) : icN (mixF f ice x) 12 &&& (2 ^ x ^^^ 4294967295) = icN (mixF f ice (x + 1)) 12 := by
  apply icN_eq
  intro c
  rw [Nat.testBit_and, icN_tb, Nat.testBit_xor, Nat.testBit_two_pow, show (4294967295 : Nat).testBit c = decide (c < 32) from Nat.testBit_two_pow_sub_one 32 c]
  unfold mixF
  by_cases hcx : x = c
  · subst hcx
    rw [decide_eq_true rfl, decide_eq_true hx, decide_eq_true (show x < 32 by omega), if_pos (by omega : x < x + 1), hf]
    simp
  · rw [decide_eq_false hcx, Bool.false_xor]
    by_cases h12 : c < 12
    · rw [decide_eq_true h12, decide_eq_true (show c < 32 by omega), Bool.and_true]
      congr 1
      by_cases h1 : c < x
      · rw [if_pos h1, if_pos (by omega)]
      · rw [if_neg h1, if_neg (by omega)]
    · rw [decide_eq_false h12, Bool.false_and, Bool.false_and, Bool.false_and]
theorem mix_same (f : Nat → Bool) (ice x : Nat) (hf : f x = ice.testBit x) : icN (mixF f ice x) 12 = icN (mixF f ice (x + 1)) 12 := by
  apply icN_c
  intro c _
  unfold mixF
  by_cases h1 : c < x
  · rw [if_pos h1, if_pos (by omega)]
  · rw [if_neg h1]
    by_cases h2 : c = x
    · subst h2
      rw [if_pos (by omega), hf]
    · rw [if_neg (by omega)]
theorem mix_0 (f : Nat → Bool) (ice : Nat) (hi : ice < 4096) : icN (mixF f ice 0) 12 = ice := (icN_c 12 (f := mixF f ice 0) (g := fun c => ice.testBit c) (fun c _ => if_neg (by omega))).trans (icN_m ice hi)
theorem mix_12 (f : Nat → Bool) (ice : Nat) : icN (mixF f ice 12) 12 = icN f 12 := icN_c 12 (fun c hc => if_pos hc)
theorem lt_nle (x y : Int32) : x < y ↔ ¬ y ≤ x := by
  rw [Int32.not_le]
theorem k_gh {Kd : Nat → Nat} {n : Nat → Nat → Option Nat} {μ : Nat → Nat → Int32} {j i h ice : Nat} {q : Pn} {sh : Bool} (hI : cI Kd μ n j i q h ice sh) (hb : ∀ c, c < 12 → μ (104 + 6 * j) c = bite q h ice c) : ∀ (d x fuel : Nat), x + d = 12 → b_X1_goHour_18 (kC Kd) lC (fuel + 2 * d + 1) (103 + 6 * j) (nI (icN (mixF (will q h ice) ice x) 12)) (nI x) (μ, n) = some (wm (wm μ (103 + 6 * j) 6 (nI (nxt q h ice))) (103 + 6 * j) 5 (nI (h + 1)), n) := by
  have hn := hI.1
  obtain ⟨f2, f3, f4, f5, f6, f7⟩ := hI.2.1
  have hi : ice < 4096 := hI.2.2.2.2.2.2.2.1
  intro d
  induction d with
  | zero =>
    intro x fuel hx
    have hx : x = 12 := hx
    subst hx
    rw [gh18_s]
    unfold k_X1_goHour_18
    rw [if_pos (show (12 : Int32) ≤ nI 12 by decide), C_pic, C_gic, C_pic, wm_k (by omega), f5, nI_1, mix_12]
    rfl
  | succ d ih =>
    intro x fuel hx
    have hi2 := ih (x + 1) fuel (by omega)
    obtain ⟨⟨p1, p2, p3, p4, p5, p6⟩, _, tt⟩ := hn
    have hg := k_growth hI (show x < 12 by omega) (hb x (by omega))
    have hbes := k_bes (Kd := Kd) (n := n) (c := x) f6 hi (by omega)
    have hz := bit_z (m := ice) (x := x) hi (by omega)
    have hx0 : (nI x = 0 ↔ x = 0) := nI_eq (b := 0) (by omega) (by omega)
    have hb0 : (nI (bes ice x) ≤ 0 ↔ bes ice x ≤ 0) := nI_leI (b := 0) (Nat.lt_of_le_of_lt (bes_le _ _) (by omega)) (by omega)
    have hor : (nI (icN (mixF (will q h ice) ice x) 12) ||| ((1 : Int32) <<< (nI x &&& 31))) = nI (icN (mixF (will q h ice) ice x) 12 ||| 2 ^ x) := by
      rw [show (1 : Int32) = nI 1 from rfl, sh_shl (by omega) (by rw [Nat.one_mul]; exact Nat.pow_lt_pow_right (by omega) (by omega)), Nat.one_mul, nI_or]
    have hand : (nI (icN (mixF (will q h ice) ice x) 12) &&& (((1 : Int32) <<< (nI x &&& 31)) ^^^ (-1))) = nI (icN (mixF (will q h ice) ice x) 12 &&& (2 ^ x ^^^ 4294967295)) := by
      rw [show (-1 : Int32) = nI 4294967295 by decide, show (1 : Int32) = nI 1 from rfl, sh_shl (by omega) (by rw [Nat.one_mul]; exact Nat.pow_lt_pow_right (by omega) (by omega)), Nat.one_mul, nI_xor, nI_and]
    rw [show fuel + 2 * (d + 1) + 1 = fuel + 2 * d + 1 + 1 + 1 by omega, gh18_s, gh50_s]
    unfold k_X1_goHour_18
    rw [if_neg (nge12 x (by omega)), C_grc p4, hg, fm_b1_s, C_gic, f6]
    revert hi2
    generalize b_X1_goHour_18 (kC Kd) lC (fuel + 2 * d + 1) = go
    intro hi2
    have hw : will q h ice x = if ice.testBit x = true then decide (¬ grow q h ice x ≤ -10) else decide (¬ grow q h ice x ≤ 0) && (decide (x = 0) || decide (0 < bes ice x)) := by
      unfold will
      rw [bit_tb]
      by_cases hbb : bit ice x = 1
      · rw [if_pos hbb, decide_eq_true hbb, if_pos rfl]
      · rw [if_neg hbb, decide_eq_false hbb, if_neg (by decide)]
    cases ht : ice.testBit x
    · rw [if_pos (hz.2 ht)]
      unfold k_X1_goHour_50
      rw [if_pos rfl, if_pos rfl]
      simp only [R_let, C_ckc, hbes, fm_b1_s]
      rw [hor, nI_1]
      rw [ht, if_neg (by decide)] at hw
      by_cases k2 : grow q h ice x ≤ 0
      · rw [decide_eq_false (fun h => h k2), Bool.false_and] at hw
        rw [if_pos k2, mix_same _ _ _ (hw.trans ht.symm)]
        exact hi2
      · rw [decide_eq_true k2, Bool.true_and] at hw
        rw [if_neg k2]
        by_cases k3 : x = 0
        · rw [decide_eq_true k3, Bool.true_or] at hw
          rw [if_pos (hx0.2 k3), mix_or _ _ _ (by omega) hw]
          exact hi2
        · rw [decide_eq_false k3, Bool.false_or] at hw
          rw [if_neg (fun a => k3 (hx0.1 a))]
          by_cases k4 : bes ice x ≤ 0
          · rw [decide_eq_false (by omega)] at hw
            rw [if_pos (hb0.2 k4), mix_same _ _ _ (hw.trans ht.symm)]
            exact hi2
          · rw [decide_eq_true (by omega)] at hw
            rw [if_neg (fun a => k4 (hb0.1 a)), mix_or _ _ _ (by omega) hw]
            exact hi2
    · rw [if_neg (fun a => by rw [hz.1 a] at ht; exact absurd ht (by decide))]
      unfold k_X1_goHour_50
      rw [if_neg (show ¬ (1 : Int32) = 0 by decide), if_neg (show ¬ (1 : Int32) = 0 by decide)]
      simp only [R_let]
      rw [hand, nI_1]
      rw [ht, if_pos rfl] at hw
      by_cases k2 : grow q h ice x ≤ -10
      · rw [decide_eq_false (fun h => h k2)] at hw
        rw [if_neg (fun a => (lt_nle _ _).1 a k2), mix_and _ _ _ (by omega) hw]
        exact hi2
      · rw [decide_eq_true k2] at hw
        rw [if_pos ((lt_nle _ _).2 k2), mix_same _ _ _ (hw.trans ht.symm)]
        exact hi2
