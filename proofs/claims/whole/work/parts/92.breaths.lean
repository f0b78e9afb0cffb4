/-! methods, both sides: breaths; the numbers -/
def dg (b n r k : Nat) : Nat := r / b ^ (n - 1 - k) % b
theorem dg_lt {b : Nat} (n r k : Nat) (hb : 0 < b) : dg b n r k < b := Nat.mod_lt _ hb
/-- the hours at which a row breathes on p, as bits, up to k -/
def sC (b n r p : Nat) : Nat → Nat
  | 0 => 0
  | k + 1 => if dg b n r k = p then sC b n r p k + 2 ^ k else sC b n r p k
theorem sC_lt (b n r p : Nat) : ∀ k, sC b n r p k < 2 ^ k
  | 0 => (show (0 : Nat) < 1 by omega)
  | k + 1 => by
    have h := sC_lt b n r p k
    unfold sC
    rw [Nat.pow_succ]
    split <;> omega
theorem b3a : ∀ m, m < 3 → ∀ k, k < m → ∀ s, s < 8 → s < 2 ^ m → (s + 2 ^ m) / 2 ^ k % 2 = s / 2 ^ k % 2 := by decide
theorem b3b : ∀ m, m < 3 → ∀ s, s < 8 → s < 2 ^ m → (s + 2 ^ m) / 2 ^ m % 2 = 1 ∧ s / 2 ^ m % 2 = 0 := by decide
theorem p23 : ∀ m, m < 3 → 2 ^ m < 8 := by decide
theorem sC_bit (b n r p : Nat) : ∀ m, m ≤ 3 → ∀ k, k < m → sC b n r p m / 2 ^ k % 2 = if dg b n r k = p then 1 else 0
  | 0, _, k, hk => absurd hk (by omega)
  | m + 1, hm, k, hk => by
    have hs := sC_lt b n r p m
    have h8 := p23 m (by omega)
    show (if dg b n r m = p then sC b n r p m + 2 ^ m else sC b n r p m) / 2 ^ k % 2 = _
    by_cases hkm : k = m
    · subst hkm
      by_cases hd : dg b n r k = p
      · rw [if_pos hd, if_pos hd]
        exact (b3b k (by omega) _ (by omega) hs).1
      · rw [if_neg hd, if_neg hd]
        exact (b3b k (by omega) _ (by omega) hs).2
    · rw [← sC_bit b n r p m (by omega) k (by omega)]
      split
      · exact b3a m (by omega) k (by omega) _ (by omega) hs
      · rfl
/-- frozen ahead of hour k, where the hours in set are breathed on -/
def Ib (q : Pn) (sh : Bool) (h0 ice0 set : Nat) : Nat → Nat
  | 0 => ice0
  | k + 1 => goS q sh 1 (h0 + k) (if set / 2 ^ k % 2 = 1 then 0 else Ib q sh h0 ice0 set k)
theorem Ib_s (q : Pn) (sh : Bool) (h0 ice0 set k : Nat) : Ib q sh h0 ice0 set (k + 1) = goS q sh 1 (h0 + k) (if set / 2 ^ k % 2 = 1 then 0 else Ib q sh h0 ice0 set k) := rfl
theorem Ib_lt {q : Pn} {sh : Bool} {h0 ice0 set : Nat} (h : ice0 < 4096) : ∀ k, Ib q sh h0 ice0 set k < 4096
  | 0 => h
  | k + 1 => goS_lt _ _ _ _ _ (by
    split
    · omega
    · exact Ib_lt h k)
theorem Ib_c {q : Pn} {sh : Bool} {h0 ice0 set set' : Nat} : ∀ k, (∀ i, i < k → set / 2 ^ i % 2 = set' / 2 ^ i % 2) → Ib q sh h0 ice0 set k = Ib q sh h0 ice0 set' k
  | 0, _ => rfl
  | k + 1, h => by
    rw [Ib_s, Ib_s, Ib_c k (fun i hi => h i (by omega)), h k (by omega)]
/-- what breathing at the hours in set pays, up to k -/
def Pk (q : Pn) (sh : Bool) (f t h0 ice0 set : Nat) : Nat → Nat
  | 0 => 0
  | k + 1 => if set / 2 ^ k % 2 = 1 then Pk q sh f t h0 ice0 set k + offN f t (Ib q sh h0 ice0 set k) else Pk q sh f t h0 ice0 set k
theorem Pk_s (q : Pn) (sh : Bool) (f t h0 ice0 set k : Nat) : Pk q sh f t h0 ice0 set (k + 1) = if set / 2 ^ k % 2 = 1 then Pk q sh f t h0 ice0 set k + offN f t (Ib q sh h0 ice0 set k) else Pk q sh f t h0 ice0 set k := rfl
theorem sumN_add (g g' : Nat → Nat) : ∀ n, sumN (fun p => g p + g' p) n = sumN g n + sumN g' n
  | 0 => rfl
  | n + 1 => by
    show sumN (fun p => g p + g' p) n + (g n + g' n) = sumN g n + g n + (sumN g' n + g' n)
    rw [sumN_add g g' n]
    omega
theorem sumN_one (w : Nat → Nat) (d : Nat) : ∀ n, sumN (fun p => if d = p then w p else 0) n = if d < n then w d else 0
  | 0 => rfl
  | n + 1 => by
    show sumN (fun p => if d = p then w p else 0) n + (if d = n then w n else 0) = _
    rw [sumN_one w d n]
    by_cases h : d = n
    · subst h
      rw [if_neg (by omega), if_pos rfl, if_pos (by omega), Nat.zero_add]
    · rw [if_neg h]
      by_cases h2 : d < n
      · rw [if_pos h2, if_pos (by omega)]
        rfl
      · rw [if_neg h2, if_neg (by omega)]
/-- what the row's hour k pays -/
def Tk (s : Nat → Int32) (cl : List Cl) (f t np n r k : Nat) : Nat := if dg (np + 1) n r k < np then offN f t (Ib (pq s cl (dg (np + 1) n r k)) (shB s (dg (np + 1) n r k)) (N (s 0)) (N (s (3 + dg (np + 1) n r k))) (sC (np + 1) n r (dg (np + 1) n r k) k) k) else 0
def vR (s : Nat → Int32) (cl : List Cl) (f t np n r : Nat) : Nat := sumN (Tk s cl f t np n r) n
theorem vR_m (s : Nat → Int32) (cl : List Cl) (f t np n r : Nat) (hn : n ≤ 3) : ∀ m, m ≤ n → sumN (fun p => Pk (pq s cl p) (shB s p) f t (N (s 0)) (N (s (3 + p))) (sC (np + 1) n r p n) m) np = sumN (Tk s cl f t np n r) m
  | 0, _ => by
    show sumN (fun p => 0) np = 0
    induction np with
    | zero => rfl
    | succ m ih => exact ih
  | m + 1, hm => by
    have ih := vR_m s cl f t np n r hn m (by omega)
    show _ = sumN (Tk s cl f t np n r) m + Tk s cl f t np n r m
    rw [← ih]
    unfold Tk
    rw [← sumN_one (fun p => offN f t (Ib (pq s cl p) (shB s p) (N (s 0)) (N (s (3 + p))) (sC (np + 1) n r p m) m)), ← sumN_add]
    refine sumN_c np (fun p hp => ?_)
    have hb := sC_bit (np + 1) n r p n hn
    rw [Pk_s, hb m (by omega), Ib_c (set' := sC (np + 1) n r p m) m (fun i hi => by rw [hb i (by omega), sC_bit (np + 1) n r p m (by omega) i hi])]
    by_cases hd : dg (np + 1) n r m = p
    · rw [if_pos hd, if_pos rfl, if_pos hd]
    · rw [if_neg hd, if_neg (by decide), if_neg hd]
      rfl
