/-! methods, both sides: breaths; the reference's rows -/
def mp (np d : Nat) : Nat := if d = np then 9 else d
theorem mp_i {np d d' : Nat} (h6 : np ≤ 6) (hd : d < np + 1) (hd' : d' < np + 1) : (mp np d = mp np d' ↔ d = d') := by
  unfold mp
  split <;> split <;> omega
theorem mp_lt {np d : Nat} (h6 : np ≤ 6) (hd : d < np + 1) : mp np d < 10 := by
  unfold mp
  split <;> omega
theorem py4_s (kap lam : Nat → Nat) (S : fm_M) (f : Nat) : b_X12_paidBy_4 kap lam S (f + 1) = k_X12_paidBy_4 kap lam S (b_X12_paidBy_4 kap lam S f) (b_X12_paidBy_15 kap lam S f) := rfl
theorem py15_s (kap lam : Nat → Nat) (S : fm_M) (f : Nat) : b_X12_paidBy_15 kap lam S (f + 1) = k_X12_paidBy_15 kap lam S (b_X12_paidBy_4 kap lam S f) (b_X12_paidBy_15 kap lam S f) := rfl
section L
variable {s : Nat → Int32} {cl : List Cl} {f t np n r : Nat} {ρ : Nat → Nat → Int32}
theorem r_py15 (h6 : np ≤ 6) (hn : n ≤ 3) (hq : qr s cl f t np ρ) (hl : ∀ i, i < n → ρ 7 i = nI (mp np (dg (np + 1) n r i))) {k acc : Nat} (hk : k < n) : ∀ (d i fuel : Nat), i + d = k → b_X12_paidBy_15 kR lR (ρ, nR) (fuel + d + 1) 0 (nI n) (nI acc) (nI k) (nI (sC (np + 1) n r (dg (np + 1) n r k) i)) (nI i) = b_X12_paidBy_4 kR lR (ρ, nR) fuel 0 (nI n) (nI (acc + Tk s cl f t np n r k)) (nI (k + 1)) := by
  have hdk := dg_lt (b := np + 1) n r k (by omega)
  intro d
  induction d with
  | zero =>
    intro i fuel hi
    have hi : i = k := hi
    subst hi
    have hs := sC_lt (np + 1) n r (dg (np + 1) n r i) i
    have h8 := p23 i (by omega)
    have hm := mp_lt h6 hdk
    rw [py15_s]
    unfold k_X12_paidBy_15
    rw [if_pos (Int32.le_refl _), R_g13, R_ld (r := 7) (t := 13) rfl (show i < 3 by omega) (by decide), hl i hk]
    by_cases hd : dg (np + 1) n r i = np
    · have e9 : mp np (dg (np + 1) n r i) = 9 := if_pos hd
      have eT : Tk s cl f t np n r i = 0 := if_neg (by omega)
      rw [e9, if_pos (show nI 9 = 9 from rfl), R_let, R_let, Int32.add_zero, nI_1, eT]
      rfl
    · have e9 : mp np (dg (np + 1) n r i) = dg (np + 1) n r i := if_neg hd
      have eT : Tk s cl f t np n r i = OV s cl f t (dg (np + 1) n r i) (sC (np + 1) n r (dg (np + 1) n r i) i) i := if_pos (by omega)
      rw [e9, if_neg (show ¬ nI (dg (np + 1) n r i) = 9 from fun h => absurd ((nI_eq (b := 9) (by omega) (by omega)).1 h) (by omega)), R_g12, R_g13, R_ld (r := 7) (t := 13) rfl (show i < 3 by omega) (by decide), hl i hk, e9, ix24, R_ld (r := 6) (t := 13) rfl (show 24 * dg (np + 1) n r i + 3 * sC (np + 1) n r (dg (np + 1) n r i) i + i < 144 by omega) (by decide), hq _ (by omega) _ (by omega) _ (by omega), R_let, R_let, nI_add, nI_1, eT]
  | succ d ih =>
    intro i fuel hi
    have hik : i < k := by omega
    have hs := sC_lt (np + 1) n r (dg (np + 1) n r k) i
    have h8 := p23 i (by omega)
    have hdi := dg_lt (b := np + 1) n r i (by omega)
    have hm := mp_lt h6 hdk
    have hm2 := mp_lt h6 hdi
    have hS : sC (np + 1) n r (dg (np + 1) n r k) (i + 1) = if dg (np + 1) n r i = dg (np + 1) n r k then sC (np + 1) n r (dg (np + 1) n r k) i + 2 ^ i else sC (np + 1) n r (dg (np + 1) n r k) i := rfl
    rw [← ih (i + 1) fuel (by omega), show fuel + (d + 1) + 1 = fuel + d + 1 + 1 by omega, py15_s, hS]
    unfold k_X12_paidBy_15
    rw [if_neg (nI_ge hik (by omega)), R_g13, R_ld (r := 7) (t := 13) rfl (show i < 3 by omega) (by decide), R_g13, R_ld (r := 7) (t := 13) rfl (show k < 3 by omega) (by decide), hl i (by omega), hl k hk, or_b i (by omega) _ (by omega) hs, R_let, R_let, R_let, R_let, nI_1, Int32.or_zero]
    by_cases hd : dg (np + 1) n r i = dg (np + 1) n r k
    · rw [if_pos hd, if_pos (by rw [hd])]
    · rw [if_neg hd, if_neg (fun h => hd ((mp_i h6 hdi hdk).1 ((nI_eq (by omega) (by omega)).1 h)))]
theorem r_py4 (h6 : np ≤ 6) (hn : n ≤ 3) (hq : qr s cl f t np ρ) (hl : ∀ i, i < n → ρ 7 i = nI (mp np (dg (np + 1) n r i))) : ∀ (d k fuel : Nat), k + d = n → b_X12_paidBy_4 kR lR (ρ, nR) (fuel + 5 * d + 1) 0 (nI n) (nI (sumN (Tk s cl f t np n r) k)) (nI k) = some (nI (vR s cl f t np n r)) := by
  intro d
  induction d with
  | zero =>
    intro k fuel hk
    have hk : k = n := hk
    subst hk
    rw [py4_s]
    unfold k_X12_paidBy_4
    rw [if_pos (Int32.le_refl _)]
    rfl
  | succ d ih =>
    intro k fuel hk
    rw [← ih (k + 1) (fuel + 3 - k) (by omega), show fuel + 5 * (d + 1) + 1 = (fuel + 3 - k + 5 * d + 1) + k + 1 + 1 by omega, py4_s]
    unfold k_X12_paidBy_4
    rw [if_neg (nI_ge (show k < n by omega) (by omega)), R_let, R_let]
    exact r_py15 h6 hn hq hl (by omega) k 0 _ (by omega)
theorem r_paidBy (h6 : np ≤ 6) (hn : n ≤ 3) (hq : qr s cl f t np ρ) (hl : ∀ i, i < n → ρ 7 i = nI (mp np (dg (np + 1) n r i))) : m_X12_paidBy kR lR 0 (nI n) (ρ, nR) = some (nI (vR s cl f t np n r)) := by
  unfold m_X12_paidBy
  rw [R_let, R_let, show fm_LF = 999 - 5 * n + 5 * n + 1 by unfold fm_LF; omega]
  exact r_py4 h6 hn hq hl n 0 _ (by omega)
theorem r_kpl : ∀ (d i fuel : Nat) (ρ : Nat → Nat → Int32), i + d = 3 → ∃ ρ', b_X12_keepsLine_21 kR lR (fuel + d + 1) 0 (nI i) (ρ, nR) = some (ρ', nR) ∧ (∀ r, r ≠ 8 → ρ' r = ρ r) ∧ (∀ y, y < i → ρ' 8 y = ρ 8 y) ∧ ∀ y, i ≤ y → y < 3 → ρ' 8 y = ρ 7 y := by
  intro d
  induction d with
  | zero =>
    intro i fuel ρ hi
    have hi : i = 3 := hi
    subst hi
    refine ⟨ρ, ?_, fun _ _ => rfl, fun _ _ => rfl, fun y h1 h2 => absurd h2 (by omega)⟩
    rw [b_X12_keepsLine_21]
    unfold k_X12_keepsLine_21
    rw [if_pos (show (3 : Int32) ≤ nI 3 from Int32.le_refl _)]
  | succ d ih =>
    intro i fuel ρ hi
    obtain ⟨ρ', a1, a2, a3, a4⟩ := ih (i + 1) fuel (wm ρ 8 i (ρ 7 i)) (by omega)
    refine ⟨ρ', ?_, fun r hr => (a2 r hr).trans (wm_r hr), fun y hy => ?_, fun y h1 h2 => ?_⟩
    · rw [← a1, show fuel + (d + 1) + 1 = fuel + d + 1 + 1 by omega, b_X12_keepsLine_21]
      unfold k_X12_keepsLine_21
      rw [if_neg (show ¬ (3 : Int32) ≤ nI i from nI_ge (b := 3) (by omega) (by omega)), R_g14, R_g13, R_ld (r := 7) (t := 13) rfl (show i < 3 by omega) (by decide), R_st (r := 8) rfl (show i < 3 by omega) (by decide), R_let, nI_1]
    · rw [a3 y (by omega), wm_k (by omega)]
    · by_cases h : y = i
      · subst h
        rw [a3 y (by omega), wm_s]
      · rw [a4 y (by omega) h2, wm_r (by omega)]
end L
