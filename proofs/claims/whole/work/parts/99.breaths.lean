/-! methods, both sides: breaths; the reference's rows, one after another -/
theorem dg_n {b k x a i : Nat} (ha : a < b) (hi : i < k) : dg b (k + 1) (x * b + a) i = dg b k x i := by
  unfold dg
  have hb : 0 < b := by omega
  rw [show k + 1 - 1 - i = k - 1 - i + 1 by omega, Nat.pow_succ, Nat.mul_comm (b ^ (k - 1 - i)) b, ← Nat.div_div_eq_div_mul, Nat.add_comm (x * b) a, Nat.add_mul_div_right a x hb, Nat.div_eq_of_lt ha, Nat.zero_add]
theorem dg_l {b k x a : Nat} (ha : a < b) : dg b (k + 1) (x * b + a) k = a := by
  unfold dg
  rw [show k + 1 - 1 - k = 0 by omega, Nat.pow_zero, Nat.div_one, Nat.add_comm (x * b) a, Nat.add_mul_mod_self_right, Nat.mod_eq_of_lt ha]
section L
variable {s : Nat → Int32} {cl : List Cl} {f t np n : Nat}
theorem Tk_le (hf : f < 100) (ht : t < 100) (r k : Nat) : Tk s cl f t np n r k ≤ 2400 := by
  unfold Tk
  split
  · exact of_le _ _ _ hf ht
  · omega
theorem sumN_le {g : Nat → Nat} {c : Nat} (h : ∀ p, g p ≤ c) : ∀ n, sumN g n ≤ c * n
  | 0 => Nat.le_refl _
  | n + 1 => by
    have h1 := sumN_le h n
    have h2 := h n
    show sumN g n + g n ≤ c * (n + 1)
    rw [Nat.mul_succ]
    omega
/-- the first r rows have been gone through -/
def lI (s : Nat → Int32) (cl : List Cl) (f t np n r : Nat) (ρ : Nat → Nat → Int32) : Prop := ρ 0 15 = (bsR (vR s cl f t np n) r).1 ∧ (0 < r → ∀ k, k < n → ρ 8 k = nI (mp np (dg (np + 1) n (bsR (vR s cl f t np n) r).2 k)))
/-- rows of lines alone have changed -/
def lF (ρ ρ' : Nat → Nat → Int32) : Prop := (∀ r, r ≠ 0 → r ≠ 7 → r ≠ 8 → ρ' r = ρ r) ∧ ∀ y, y ≠ 15 → ρ' 0 y = ρ 0 y
theorem lF_t {ρ ρ1 ρ2 : Nat → Nat → Int32} (h : lF ρ ρ1) (h2 : lF ρ1 ρ2) : lF ρ ρ2 := ⟨fun r a b c => (h2.1 r a b c).trans (h.1 r a b c), fun y hy => (h2.2 y hy).trans (h.2 y hy)⟩
theorem r_keepsLine (h6 : np ≤ 6) (hn : n ≤ 3) (hf : f < 100) (ht : t < 100) {ρ : Nat → Nat → Int32} {r : Nat} (hq : qr s cl f t np ρ) (hl : ∀ i, i < n → ρ 7 i = nI (mp np (dg (np + 1) n r i))) (hI : lI s cl f t np n r ρ) : ∃ ρ', m_X12_keepsLine kR lR 0 (nI n) (ρ, nR) = some (ρ', nR) ∧ lI s cl f t np n (r + 1) ρ' ∧ lF ρ ρ' ∧ ρ' 7 = ρ 7 := by
  have hv : vR s cl f t np n r ≤ 2400 * n := sumN_le (fun k => Tk_le hf ht r k) n
  unfold m_X12_keepsLine
  rw [R_ck, r_paidBy h6 hn hq hl, fm_b1_s, R_gi, hI.1]
  by_cases h : nI (vR s cl f t np n r) ≤ (bsR (vR s cl f t np n) r).1
  · rw [if_pos h]
    have hr : 0 < r := by
      by_cases h0 : r = 0
      · subst h0
        exact absurd (Int32.le_trans (show (0 : Int32) ≤ nI (vR s cl f t np n 0) from nI_le (a := 0) (by omega) (by omega)) h) (show ¬ (0 : Int32) ≤ -1 by decide)
      · omega
    have hb : bsR (vR s cl f t np n) (r + 1) = bsR (vR s cl f t np n) r := by rw [bsR_s, if_pos h]
    refine ⟨ρ, rfl, ⟨?_, fun _ => ?_⟩, ⟨fun _ _ _ _ => rfl, fun _ _ => rfl⟩, rfl⟩
    · rw [hb]; exact hI.1
    · rw [hb]; exact hI.2 hr
  · rw [if_neg h, R_pi, R_let]
    have hb : bsR (vR s cl f t np n) (r + 1) = (nI (vR s cl f t np n r), r) := by rw [bsR_s, if_neg h]
    obtain ⟨ρ', a1, a2, a3, a4⟩ := r_kpl 3 0 996 (wm ρ 0 15 (nI (vR s cl f t np n r))) (by omega)
    refine ⟨ρ', a1, ⟨?_, fun _ k hk => ?_⟩, ⟨fun r r0 r7 r8 => (a2 r r8).trans (wm_r r0), fun y hy => ?_⟩, ?_⟩
    · rw [a2 0 (by omega), wm_s, hb]
    · rw [hb, a4 k (by omega) (by omega), wm_r (by omega)]
      exact hl k hk
    · rw [a2 0 (by omega), wm_k hy]
    · rw [a2 7 (by omega), wm_r (by omega)]
theorem r_lines (h6 : np ≤ 6) (hn : n ≤ 3) (hf : f < 100) (ht : t < 100) (h21 : s 21 = nI np) : ∀ (e M k x : Nat) (ρ : Nat → Nat → Int32), k + e = n → ρ 1 = s → qr s cl f t np ρ → (∀ i, i < k → ρ 7 i = nI (mp np (dg (np + 1) k x i))) → lI s cl f t np n (x * (np + 1) ^ e) ρ → ∃ ρ', grp_ln kR lR (M + e + 1) 0 (nI k) (nI n) (ρ, nR) = some (ρ', nR) ∧ lI s cl f t np n ((x + 1) * (np + 1) ^ e) ρ' ∧ lF ρ ρ' ∧ ∀ i, i < k → ρ' 7 i = ρ 7 i := by
  intro e
  induction e with
  | zero =>
    intro M k x ρ hk hr hq hl hI
    have hk : k = n := hk
    subst hk
    rw [Nat.pow_zero, Nat.mul_one] at hI
    obtain ⟨ρ', a1, a2, a3, a4⟩ := r_keepsLine h6 hn hf ht hq hl hI
    refine ⟨ρ', ?_, by rw [Nat.pow_zero, Nat.mul_one]; exact a2, a3, fun i _ => by rw [a4]⟩
    show s_X12_linesFrom kR lR (grp_ln kR lR (M + 0)) 0 (nI k) (nI k) (ρ, nR) = _
    unfold s_X12_linesFrom
    rw [if_pos rfl, R_ck, a1, fm_b1_s]
  | succ e ih =>
    intro M k x ρ hk hr hq hl hI
    have hne : ¬ nI k = nI n := fun h => absurd ((nI_eq (by omega) (by omega)).1 h) (by omega)
    have hstep : ∀ (a : Nat) (ρ : Nat → Nat → Int32), a < np + 1 → ρ 1 = s → qr s cl f t np ρ → (∀ i, i < k → ρ 7 i = nI (mp np (dg (np + 1) k x i))) → lI s cl f t np n ((x * (np + 1) + a) * (np + 1) ^ e) ρ → ∃ ρ', grp_ln kR lR (M + e + 1) 0 (nI (k + 1)) (nI n) (wm ρ 7 k (nI (mp np a)), nR) = some (ρ', nR) ∧ lI s cl f t np n ((x * (np + 1) + a + 1) * (np + 1) ^ e) ρ' ∧ lF ρ ρ' ∧ ∀ i, i < k → ρ' 7 i = ρ 7 i := by
      intro a ρ ha hr hq hl hI
      obtain ⟨ρ', a1, a2, a3, a4⟩ := ih M (k + 1) (x * (np + 1) + a) (wm ρ 7 k (nI (mp np a))) (by omega) ((wm_r (by omega)).trans hr) (fun p hp y hy z hz => by rw [wm_r (by omega)]; exact hq p hp y hy z hz) (fun i hi => by
        by_cases h : i = k
        · subst h
          rw [wm_s, dg_l ha]
        · rw [wm_k h, dg_n ha (by omega)]
          exact hl i (by omega)) ⟨by rw [wm_r (by omega)]; exact hI.1, fun h k hk => by rw [wm_r (by omega)]; exact hI.2 h k hk⟩
      refine ⟨ρ', a1, a2, lF_t ⟨fun r r0 r7 r8 => wm_r r7, fun y _ => by rw [wm_r (by omega)]⟩ a3, fun i hi => ?_⟩
      rw [a4 i (by omega), wm_k (by omega)]
    have hloop : ∀ (d a fuel : Nat) (ρ : Nat → Nat → Int32), a + d = np → ρ 1 = s → qr s cl f t np ρ → (∀ i, i < k → ρ 7 i = nI (mp np (dg (np + 1) k x i))) → lI s cl f t np n ((x * (np + 1) + a) * (np + 1) ^ e) ρ → ∃ ρ', b_X12_linesFrom_13 kR lR (grp_ln kR lR (M + e + 1)) (fuel + d + 1) 0 (nI k) (nI n) (nI a) (ρ, nR) = some (ρ', nR) ∧ lI s cl f t np n ((x * (np + 1) + np + 1) * (np + 1) ^ e) ρ' ∧ lF ρ ρ' ∧ ∀ i, i < k → ρ' 7 i = ρ 7 i := by
      intro d
      induction d with
      | zero =>
        intro a fuel ρ ha hr hq hl hI
        have ha : a = np := ha
        subst ha
        obtain ⟨ρ', a1, a2, a3, a4⟩ := hstep a ρ (by omega) hr hq hl hI
        refine ⟨ρ', ?_, a2, a3, a4⟩
        have e9 : mp a a = 9 := if_pos rfl
        rw [e9] at a1
        rw [b_X12_linesFrom_13]
        unfold k_X12_linesFrom_13
        rw [R_g1, R_s21, hr, h21, if_pos (Int32.le_refl _), R_g13, show (9 : Int32) = nI 9 from rfl, R_st (r := 7) rfl (show k < 3 by omega) (by decide), R_ck, nI_1, a1, fm_b1_s]
      | succ d ihd =>
        intro a fuel ρ ha hr hq hl hI
        obtain ⟨ρ1, a1, a2, a3, a4⟩ := hstep a ρ (by omega) hr hq hl hI
        have e9 : mp np a = a := if_neg (by omega)
        rw [e9] at a1
        obtain ⟨ρ', b1, b2, b3, b4⟩ := ihd (a + 1) fuel ρ1 (by omega) ((a3.1 1 (by omega) (by omega) (by omega)).trans hr) (fun p hp y hy z hz => by rw [a3.1 6 (by omega) (by omega) (by omega)]; exact hq p hp y hy z hz) (fun i hi => by rw [a4 i hi]; exact hl i hi) a2
        refine ⟨ρ', ?_, b2, lF_t a3 b3, fun i hi => (b4 i hi).trans (a4 i hi)⟩
        rw [← b1, show fuel + (d + 1) + 1 = fuel + d + 1 + 1 by omega, b_X12_linesFrom_13]
        generalize b_X12_linesFrom_13 kR lR (grp_ln kR lR (M + e + 1)) (fuel + d + 1) = G
        unfold k_X12_linesFrom_13
        rw [R_g1, R_s21, hr, h21, if_neg (nI_ge (show a < np by omega) (by omega)), R_g13, R_st (r := 7) rfl (show k < 3 by omega) (by decide), R_ck, nI_1, a1, fm_b1_s, R_let, nI_1]
    rw [Nat.pow_succ, Nat.mul_comm ((np + 1) ^ e), ← Nat.mul_assoc] at hI
    obtain ⟨ρ', a1, a2, a3, a4⟩ := hloop np 0 (999 - np) ρ (by omega) hr hq hl hI
    refine ⟨ρ', ?_, ?_, a3, a4⟩
    · show s_X12_linesFrom kR lR (grp_ln kR lR (M + (e + 1))) 0 (nI k) (nI n) (ρ, nR) = _
      unfold s_X12_linesFrom
      rw [if_neg hne, R_let, show M + (e + 1) = M + e + 1 by omega, show fm_LF = 999 - np + np + 1 by unfold fm_LF; omega]
      exact a1
    · rw [Nat.pow_succ, Nat.mul_comm ((np + 1) ^ e), ← Nat.mul_assoc, Nat.succ_mul]
      exact a2
end L
