/-! methods, both sides: breaths; the class's rows -/
section F
variable {Kd : Nat → Nat} {s : Nat → Int32} {np i f t n : Nat} {cl : List Cl} {μ : Nat → Nat → Int32} {nn : Nat → Nat → Option Nat}
theorem k_rob (hA : μ 0 2 = nI np) (hn : n ≤ 3) : ∀ (d k fuel : Nat), k + d = n → b_X11_rowsOfBreaths_4 (kC Kd) lC (μ, nn) (fuel + d + 1) 0 (nI n) (nI ((np + 1) ^ k)) (nI k) = some (nI ((np + 1) ^ n)) := by
  intro d
  induction d with
  | zero =>
    intro k fuel hk
    have hk : k = n := hk
    subst hk
    rw [b_X11_rowsOfBreaths_4]
    unfold k_X11_rowsOfBreaths_4
    rw [if_pos (Int32.le_refl _)]
  | succ d ih =>
    intro k fuel hk
    rw [← ih (k + 1) fuel (by omega), show fuel + (d + 1) + 1 = fuel + d + 1 + 1 by omega, b_X11_rowsOfBreaths_4]
    unfold k_X11_rowsOfBreaths_4
    rw [if_neg (nI_ge (show k < n by omega) (by omega)), C_g0, hA, R_let, R_let, nI_1, nI_1, pk_mul, Nat.pow_succ]
theorem k_bAt (hA : μ 0 2 = nI np) (h6 : np ≤ 6) {k : Nat} (hk : k < 3) : ∀ (d rest fuel : Nat), d ≤ 3 → rest < 2 ^ 31 → b_X11_breathedAt_8 (kC Kd) lC (μ, nn) (fuel + d + 1) 0 (nI k) (nI rest) (nI (k + d)) = some (nI (rest / (np + 1) ^ d % (np + 1))) := by
  intro d
  induction d with
  | zero =>
    intro rest fuel _ hr
    rw [b_X11_breathedAt_8]
    unfold k_X11_breathedAt_8
    rw [if_pos (show nI (k + 0) ≤ nI k from Int32.le_refl _), C_g0, hA, nI_1, if_neg (nI_ne0 (by omega) (by omega)), pk_rem hr (by omega) (by omega), Nat.pow_zero, Nat.div_one]
  | succ d ih =>
    intro rest fuel hd hr
    rw [show fuel + (d + 1) + 1 = fuel + d + 1 + 1 by omega, b_X11_breathedAt_8]
    unfold k_X11_breathedAt_8
    rw [if_neg (nI_ge (show k < k + (d + 1) by omega) (by omega)), C_g0, hA, nI_1, if_neg (nI_ne0 (by omega) (by omega)), pk_div hr (by omega) (by omega), R_let, R_let, show nI (k + (d + 1)) + (-1) = nI (k + d) by rw [show k + (d + 1) = k + d + 1 by omega, nI_d1, nI_s1], ih _ fuel (by omega) (Nat.lt_of_le_of_lt (Nat.div_le_self _ _) hr), Nat.div_div_eq_div_mul, Nat.pow_succ, Nat.mul_comm ((np + 1) ^ d)]
theorem k_breathedAt (hA : μ 0 2 = nI np) (h6 : np ≤ 6) {k r : Nat} (hn : n ≤ 3) (hk : k < n) (hr : r < 2 ^ 31) : m_X11_breathedAt (kC Kd) lC 0 (nI r) (nI k) (nI n) (μ, nn) = some (nI (dg (np + 1) n r k)) := by
  unfold m_X11_breathedAt dg
  obtain ⟨m, rfl⟩ : ∃ m, n = m + 1 := ⟨n - 1, by omega⟩
  rw [R_let, nI_s1, show m = k + (m - k) by omega, show fm_LF = 999 - (m - k) + (m - k) + 1 by unfold fm_LF; omega, k_bAt hA h6 (by omega) (m - k) r (999 - (m - k)) (by omega) hr, show k + (m - k) + 1 - 1 - k = m - k by omega]
theorem or_b : ∀ k, k < 3 → ∀ x, x < 8 → x < 2 ^ k → nI x ||| ((1 : Int32) <<< (nI k &&& 31)) = nI (x + 2 ^ k) := by decide
theorem pb5_s (kap lam : Nat → Nat) (S : fm_M) (f : Nat) : b_X11_paidByRow_5 kap lam S (f + 1) = k_X11_paidByRow_5 kap lam S (b_X11_paidByRow_5 kap lam S f) (b_X11_paidByRow_20 kap lam S f) := rfl
theorem pb20_s (kap lam : Nat → Nat) (S : fm_M) (f : Nat) : b_X11_paidByRow_20 kap lam S (f + 1) = k_X11_paidByRow_20 kap lam S (b_X11_paidByRow_5 kap lam S f) (b_X11_paidByRow_20 kap lam S f) := rfl
theorem k_pb20 (hA : μ 0 2 = nI np) (h16 : nn 0 16 = some 4) (h6 : np ≤ 6) (hn : n ≤ 3) (hP : ∀ p x, p < np → x < 2 ^ n → μ 4 (8 * p + x) = nI (PV s cl f t n p x)) {p r acc : Nat} (hp : p < np) (hr : r < 2 ^ 31) : ∀ (d k fuel : Nat), k + d = n → b_X11_paidByRow_20 (kC Kd) lC (μ, nn) (fuel + d + 1) 0 (nI r) (nI n) (nI acc) (nI p) (nI (sC (np + 1) n r p k)) (nI k) = b_X11_paidByRow_5 (kC Kd) lC (μ, nn) fuel 0 (nI r) (nI n) (nI (acc + PV s cl f t n p (sC (np + 1) n r p n))) (nI (p + 1)) := by
  intro d
  induction d with
  | zero =>
    intro k fuel hk
    have hk : k = n := hk
    subst hk
    have hs := sC_lt (np + 1) k r p k
    have h8 := p2le k hn
    rw [pb20_s]
    unfold k_X11_paidByRow_20
    rw [if_pos (Int32.le_refl _), C_r0 h16, p8 p (by omega), nI_add, C_ld (t := 13) (L := 48) rfl rfl (show 8 * p + sC (np + 1) k r p k < 48 by omega) (by decide), hP p _ hp hs, R_let, R_let, nI_add, nI_1]
  | succ d ih =>
    intro k fuel hk
    have hkn : k < n := by omega
    have hs := sC_lt (np + 1) n r p k
    have h8 := p23 k (by omega)
    have hS : sC (np + 1) n r p (k + 1) = if dg (np + 1) n r k = p then sC (np + 1) n r p k + 2 ^ k else sC (np + 1) n r p k := rfl
    have hdl := dg_lt (b := np + 1) n r k (by omega)
    rw [← ih (k + 1) fuel (by omega), show fuel + (d + 1) + 1 = fuel + d + 1 + 1 by omega, pb20_s, hS]
    unfold k_X11_paidByRow_20
    rw [if_neg (nI_ge hkn (by omega)), C_c0, k_breathedAt hA h6 hn hkn hr, fm_b1_s, or_b k (by omega) _ (by omega) hs, R_let, R_let, R_let, nI_1]
    by_cases hd : dg (np + 1) n r k = p
    · rw [if_pos hd, if_pos (by rw [hd])]
    · rw [if_neg hd, if_neg (fun h => hd ((nI_eq (by omega) (by omega)).1 h))]
theorem k_pb5 (hA : μ 0 2 = nI np) (h16 : nn 0 16 = some 4) (h6 : np ≤ 6) (hn : n ≤ 3) (hP : ∀ p x, p < np → x < 2 ^ n → μ 4 (8 * p + x) = nI (PV s cl f t n p x)) {r : Nat} (hr : r < 2 ^ 31) : ∀ (d p fuel : Nat), p + d = np → b_X11_paidByRow_5 (kC Kd) lC (μ, nn) (fuel + 5 * d + 1) 0 (nI r) (nI n) (nI (sumN (fun p => PV s cl f t n p (sC (np + 1) n r p n)) p)) (nI p) = some (nI (sumN (fun p => PV s cl f t n p (sC (np + 1) n r p n)) np)) := by
  intro d
  induction d with
  | zero =>
    intro p fuel hp
    have hp : p = np := hp
    subst hp
    rw [pb5_s]
    unfold k_X11_paidByRow_5
    rw [C_g0, hA, if_pos (Int32.le_refl _)]
  | succ d ih =>
    intro p fuel hp
    have hpn : p < np := by omega
    rw [← ih (p + 1) (fuel + 3 - n) (by omega), show fuel + 5 * (d + 1) + 1 = (fuel + 3 - n + 5 * d + 1) + n + 1 + 1 by omega, pb5_s]
    unfold k_X11_paidByRow_5
    rw [C_g0, hA, if_neg (nI_ge hpn (by omega)), R_let, R_let]
    exact k_pb20 hA h16 h6 hn hP hpn hr n 0 _ (by omega)
theorem k_paidByRow (hA : μ 0 2 = nI np) (h16 : nn 0 16 = some 4) (h6 : np ≤ 6) (hn : n ≤ 3) (hP : ∀ p x, p < np → x < 2 ^ n → μ 4 (8 * p + x) = nI (PV s cl f t n p x)) {r : Nat} (hr : r < 2 ^ 31) : m_X11_paidByRow (kC Kd) lC 0 (nI r) (nI n) (μ, nn) = some (nI (vR s cl f t np n r)) := by
  unfold m_X11_paidByRow
  rw [R_let, R_let, show fm_LF = 999 - 5 * np + 5 * np + 1 by unfold fm_LF; omega]
  unfold vR
  rw [← vR_m s cl f t np n r hn n (Nat.le_refl _)]
  exact k_pb5 hA h16 h6 hn hP hr np 0 _ (by omega)
theorem k_rows (hA : μ 0 2 = nI np) (hn : n ≤ 3) : m_X11_rowsOfBreaths (kC Kd) lC 0 (nI n) (μ, nn) = some (nI ((np + 1) ^ n)) := by
  unfold m_X11_rowsOfBreaths
  rw [R_let, R_let, show fm_LF = 999 - n + n + 1 by unfold fm_LF; omega]
  exact k_rob hA hn n 0 _ (by omega)
/-- the best of the first rows: what it pays, and its number -/
def bsR (v : Nat → Nat) : Nat → Int32 × Nat
  | 0 => (-1, 0)
  | r + 1 => if nI (v r) ≤ (bsR v r).1 then bsR v r else (nI (v r), r)
theorem bsR_s (v : Nat → Nat) (r : Nat) : bsR v (r + 1) = if nI (v r) ≤ (bsR v r).1 then bsR v r else (nI (v r), r) := rfl
theorem bsR_le (v : Nat → Nat) : ∀ r, (bsR v r).2 ≤ r
  | 0 => Nat.le_refl _
  | r + 1 => by
    have h := bsR_le v r
    rw [bsR_s]
    split
    · omega
    · exact Nat.le_succ r
theorem k_rowl (hA : μ 0 2 = nI np) (h16 : nn 0 16 = some 4) (h6 : np ≤ 6) (hn : n ≤ 3) (hP : ∀ p x, p < np → x < 2 ^ n → μ 4 (8 * p + x) = nI (PV s cl f t n p x)) {R : Nat} (hR : R < 2 ^ 31) {a2 : Int32} : ∀ (d r fuel : Nat), r + d = R → b_X11_breaths_53 (kC Kd) lC (fuel + d + 1) 0 (nI n) a2 (nI (bsR (vR s cl f t np n) r).2) (bsR (vR s cl f t np n) r).1 (nI R) (nI r) (μ, nn) = k_X11_breaths_53 (kC Kd) lC (fun _ _ _ _ _ _ _ _ => none) 0 (nI n) a2 (nI (bsR (vR s cl f t np n) R).2) (bsR (vR s cl f t np n) R).1 (nI R) (nI R) (μ, nn) := by
  intro d
  induction d with
  | zero =>
    intro r fuel hr
    have hr : r = R := hr
    subst hr
    rw [b_X11_breaths_53]
    unfold k_X11_breaths_53
    rw [if_pos (Int32.le_refl _), if_pos (Int32.le_refl _)]
  | succ d ih =>
    intro r fuel hr
    rw [← ih (r + 1) fuel (by omega), show fuel + (d + 1) + 1 = fuel + d + 1 + 1 by omega, b_X11_breaths_53, bsR_s]
    generalize b_X11_breaths_53 (kC Kd) lC (fuel + d + 1) = G
    unfold k_X11_breaths_53
    rw [if_neg (nI_ge (show r < R by omega) (by omega)), C_c0, k_paidByRow hA h16 h6 hn hP (by omega), fm_b1_s, R_let, R_let, nI_1]
    by_cases h : nI (vR s cl f t np n r) ≤ (bsR (vR s cl f t np n) r).1
    · rw [if_pos h, if_pos h]
    · rw [if_neg h, if_neg h]
end F
