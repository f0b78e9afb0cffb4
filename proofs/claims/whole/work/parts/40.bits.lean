/-! bits of twelve cells, for the class -/
theorem nI_and (a b : Nat) : nI a &&& nI b = nI (a &&& b) := by
  apply Int32.toBitVec_inj.1
  apply BitVec.eq_of_toNat_eq
  show (BitVec.ofNat 32 a &&& BitVec.ofNat 32 b).toNat = (BitVec.ofNat 32 (a &&& b)).toNat
  rw [BitVec.toNat_and, BitVec.toNat_ofNat, BitVec.toNat_ofNat, BitVec.toNat_ofNat, Nat.and_mod_two_pow]
theorem nI_xor (a b : Nat) : nI a ^^^ nI b = nI (a ^^^ b) := by
  apply Int32.toBitVec_inj.1
  apply BitVec.eq_of_toNat_eq
  show (BitVec.ofNat 32 a ^^^ BitVec.ofNat 32 b).toNat = (BitVec.ofNat 32 (a ^^^ b)).toNat
  rw [BitVec.toNat_xor, BitVec.toNat_ofNat, BitVec.toNat_ofNat, BitVec.toNat_ofNat, Nat.xor_mod_two_pow]
theorem bit_tb (n c : Nat) : n.testBit c = decide (bit n c = 1) := Nat.testBit_eq_decide_div_mod_eq
theorem bit_01 (n c : Nat) : bit n c = if n.testBit c = true then 1 else 0 := by
  have h := bit_lt n c
  rw [bit_tb]
  by_cases h1 : bit n c = 1
  · rw [decide_eq_true h1, if_pos rfl, h1]
  · rw [decide_eq_false h1, if_neg (by decide)]
    omega
theorem icN_tb (f : Nat → Bool) : ∀ n c, (icN f n).testBit c = (decide (c < n) && f c)
  | 0, c => by
    show (0 : Nat).testBit c = _
    rw [Nat.zero_testBit]
    rfl
  | n + 1, c => by
    have h := icN_lt f n
    have ih := icN_tb f n c
    unfold icN
    by_cases hc : c = n
    · subst hc
      rw [show decide (c < c + 1) = true from decide_eq_true (by omega), Bool.true_and]
      by_cases hf : f c = true
      · rw [if_pos hf, ← or_pow h, Nat.testBit_or, Nat.testBit_two_pow, decide_eq_true rfl, Bool.or_true, hf]
      · rw [if_neg hf, Nat.add_zero, Nat.testBit_lt_two_pow h]
        exact (Bool.eq_false_iff.2 hf).symm
    · rw [show decide (c < n + 1) = decide (c < n) from decide_eq_decide.2 (by omega), ← ih]
      by_cases hf : f n = true
      · rw [if_pos hf, ← or_pow h, Nat.testBit_or, Nat.testBit_two_pow, decide_eq_false (fun h => hc h.symm), Bool.or_false]
      · rw [if_neg hf, Nat.add_zero]
theorem icN_eq {f : Nat → Bool} {m : Nat} (n : Nat) (h : ∀ c, m.testBit c = (decide (c < n) && f c)) : m = icN f n := Nat.eq_of_testBit_eq (fun c => by rw [icN_tb, h])
theorem icN_c {f g : Nat → Bool} : ∀ n, (∀ c, c < n → f c = g c) → icN f n = icN g n
  | 0, _ => rfl
  | n + 1, h => by
    unfold icN
    rw [icN_c n (fun c hc => h c (by omega)), h n (by omega)]
theorem icN_and (f g : Nat → Bool) (n : Nat) : icN f n &&& icN g n = icN (fun c => f c && g c) n := icN_eq n (fun c => by
  rw [Nat.testBit_and, icN_tb, icN_tb]
  cases decide (c < n) <;> simp)
theorem icN_or (f g : Nat → Bool) (n : Nat) : icN f n ||| icN g n = icN (fun c => f c || g c) n := icN_eq n (fun c => by
  rw [Nat.testBit_or, icN_tb, icN_tb]
  cases decide (c < n) <;> simp)
theorem tb_4095 (c : Nat) : (4095 : Nat).testBit c = decide (c < 12) := Nat.testBit_two_pow_sub_one 12 c
theorem icN_not (f : Nat → Bool) : icN f 12 ^^^ 4095 = icN (fun c => !f c) 12 := icN_eq 12 (fun c => by
  rw [Nat.testBit_xor, icN_tb, tb_4095]
  cases decide (c < 12) <;> cases f c <;> rfl)
theorem icN_T : icN (fun _ => true) 12 = 4095 := by decide
theorem icN_F : icN (fun _ => false) 12 = 0 := by decide
theorem icN_m (m : Nat) (h : m < 4096) : icN (fun c => m.testBit c) 12 = m := (icN_eq 12 (fun c => by
  by_cases hc : c < 12
  · rw [decide_eq_true hc, Bool.true_and]
  · rw [decide_eq_false hc, Bool.false_and]
    exact Nat.testBit_lt_two_pow (Nat.lt_of_lt_of_le h (Nat.pow_le_pow_right (n := 2) (i := 12) (by omega) (by omega))))).symm
theorem tb_hi {m c : Nat} (h : m < 4096) (hc : 12 ≤ c) : m.testBit c = false := Nat.testBit_lt_two_pow (Nat.lt_of_lt_of_le h (Nat.pow_le_pow_right (n := 2) (i := 12) (by omega) hc))
/-- the mask of the values that are so -/
def msk (h v : Nat) : Nat := icN (cmpB h v) 12
theorem msk_lt (h v : Nat) : msk h v < 4096 := icN_lt _ 12
theorem msk_tb (h v c : Nat) (hc : c < 12) : (msk h v).testBit c = cmpB h v c := by
  unfold msk
  rw [icN_tb, decide_eq_true hc, Bool.true_and]
theorem bes_tb (ice c : Nat) : bes ice c = (if 0 < c ∧ ice.testBit (c - 1) = true then 1 else 0) + (if c < 11 ∧ ice.testBit (c + 1) = true then 1 else 0) := by
  unfold bes
  rw [bit_01, bit_01]
  by_cases h1 : 0 < c <;> by_cases h2 : c < 11 <;> simp [h1, h2]
/-- the cells beside which so many are frozen -/
theorem bes_msk (ice : Nat) (hi : ice < 4096) (h v : Nat) : ((if (msk h v).testBit 0 = true then 4095 &&& (((ice * 2 &&& 4095) ||| ice / 2) ^^^ 4294967295) else 0) ||| (if (msk h v).testBit 1 = true then (ice * 2 &&& 4095) ^^^ (ice / 2) else 0)) ||| (if (msk h v).testBit 2 = true then (ice * 2 &&& 4095) &&& (ice / 2) else 0) = icN (fun c => cmpB h v (bes ice c)) 12 := by
  apply icN_eq
  intro c
  rw [msk_tb h v 0 (by omega), msk_tb h v 1 (by omega), msk_tb h v 2 (by omega), bes_tb]
  have e1 : ∀ c, (ice * 2 &&& 4095).testBit c = (decide (0 < c) && ice.testBit (c - 1) && decide (c < 12)) := by
    intro c
    rw [Nat.testBit_and, tb_4095, show ice * 2 = ice * 2 ^ 1 by omega, Nat.testBit_mul_two_pow]
    congr 1
  have e2 : ∀ c, (ice / 2).testBit c = ice.testBit (c + 1) := fun c => Nat.testBit_div_two_pow (n := 1) ice c
  have e3 : ∀ b : Bool, ∀ x : Nat, (if b = true then x else 0).testBit c = (b && x.testBit c) := by
    intro b x
    cases b
    · rw [if_neg (by decide), Nat.zero_testBit, Bool.false_and]
    · rw [if_pos rfl, Bool.true_and]
  have e4 : (4294967295 : Nat).testBit c = decide (c < 32) := Nat.testBit_two_pow_sub_one 32 c
  generalize (ice * 2 &&& 4095) = A at e1 ⊢
  generalize ice / 2 = B at e2 ⊢
  rw [Nat.testBit_or, Nat.testBit_or, e3, e3, e3, Nat.testBit_and, Nat.testBit_xor, Nat.testBit_or, Nat.testBit_xor, Nat.testBit_and, e1, e2, tb_4095, e4]
  by_cases hc : c < 12
  · rw [decide_eq_true hc, decide_eq_true (show c < 32 by omega)]
    have h11 : c = 11 → ice.testBit (c + 1) = false := fun h => tb_hi hi (by omega)
    by_cases h1 : 0 < c
    · by_cases h2 : c < 11
      · rw [decide_eq_true h1]
        simp only [h1, h2, true_and]
        cases ice.testBit (c - 1) <;> cases ice.testBit (c + 1) <;> simp
      · rw [decide_eq_true h1, h11 (by omega)]
        simp only [h1, h2, true_and, false_and]
        cases ice.testBit (c - 1) <;> simp
    · have h2 : c < 11 := by omega
      rw [decide_eq_false h1]
      simp only [h1, h2, true_and, false_and]
      cases ice.testBit (c + 1) <;> simp
  · rw [decide_eq_false hc, tb_hi hi (show 12 ≤ c + 1 by omega)]
    simp
