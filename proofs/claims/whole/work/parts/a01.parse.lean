/-! methods, both sides: town; a parser of the document's towns, over the signs sg (-1 behind them) -/
section P
variable (sg : Nat → Int32)
def isD (x : Int32) : Bool := decide (48 ≤ x) && decide (x ≤ 57)
def dv (x : Int32) : Nat := (x - 48).toNatClampNeg
def num (p : Nat) : Bool × Nat × Nat := if isD (sg p) = true then (if 0 < dv (sg p) ∧ isD (sg (p + 1)) = true then (true, p + 2, 10 * dv (sg p) + dv (sg (p + 1))) else (true, p + 1, dv (sg p))) else (false, p, 0)
def lt (x : Int32) : Nat := if x = 112 then 0 else if x = 107 then 1 else if x = 99 then 2 else if x = 110 then 3 else if x = 119 then 4 else if x = 104 then 5 else 6
def rl (x : Int32) : Nat := if x = 60 then 0 else if x = 61 then 1 else if x = 62 then 2 else 3
def tst (p : Nat) : Bool × Nat × List Op := if lt (sg p) = 6 then (false, p, []) else if rl (sg (p + 1)) = 3 then (false, p + 1, []) else ((num sg (p + 2)).1, (num sg (p + 2)).2.1, [(lt (sg p), rl (sg (p + 1)), (num sg (p + 2)).2.2)])
def lp (f : Nat → Bool × Nat × List Op) (c : Int32) (o : Op) : Nat → Bool × Nat × List Op → Bool × Nat × List Op
  | 0, st => st
  | n + 1, st => if st.1 = true ∧ sg st.2.1 = c then lp f c o n ((f (st.2.1 + 1)).1, (f (st.2.1 + 1)).2.1, st.2.2 ++ (f (st.2.1 + 1)).2.2 ++ [o]) else st
def bo (f : Nat → Bool × Nat × List Op) (p : Nat) : Bool × Nat × List Op := lp sg f 38 (7, 0, 0) 100 (f p)
def ei (f : Nat → Bool × Nat × List Op) (p : Nat) : Bool × Nat × List Op := lp sg (bo sg f) 124 (8, 0, 0) 100 (bo sg f p)
def pa : Nat → Nat → Bool × Nat × List Op
  | 0, p => if sg p = 33 ∨ sg p = 40 then (false, p, []) else tst sg p
  | L + 1, p => if sg p = 33 then ((pa L (p + 1)).1, (pa L (p + 1)).2.1, (pa L (p + 1)).2.2 ++ [(6, 0, 0)]) else if sg p = 40 then (if (ei sg (pa L) (p + 1)).1 = true ∧ sg (ei sg (pa L) (p + 1)).2.1 = 41 then (true, (ei sg (pa L) (p + 1)).2.1 + 1, (ei sg (pa L) (p + 1)).2.2) else (false, (ei sg (pa L) (p + 1)).2.1, [])) else tst sg p
end P
theorem dv_ok : ∀ x, x < 128 → isD (nI x) = true → dv (nI x) ≤ 9 ∧ nI x - 48 = nI (dv (nI x)) := by decide
/-- what is a sign -/
def sgI (z : Nat) (sg : Nat → Int32) : Prop := ∀ p, (p < z → ∃ x, x < 128 ∧ sg p = nI x) ∧ (z ≤ p → sg p = -1)
theorem sgI_n {z : Nat} {sg : Nat → Int32} (h : sgI z sg) {p : Nat} (hs : sg p ≠ -1) : p < z := by
  by_cases hp : p < z
  · exact hp
  · exact absurd ((h p).2 (by omega)) hs
theorem isD_n {x : Int32} (h : isD x = true) : x ≠ -1 := by
  intro hx
  subst hx
  exact absurd h (by decide)
theorem dv_9 {z : Nat} {sg : Nat → Int32} (h : sgI z sg) {p : Nat} (hd : isD (sg p) = true) : dv (sg p) ≤ 9 ∧ sg p - 48 = nI (dv (sg p)) ∧ p < z := by
  have hp := sgI_n h (isD_n hd)
  obtain ⟨x, hx, e⟩ := (h p).1 hp
  rw [e] at hd ⊢
  exact ⟨(dv_ok x hx hd).1, (dv_ok x hx hd).2, hp⟩
theorem num_ok {z : Nat} {sg : Nat → Int32} (h : sgI z sg) {p : Nat} (hp : p ≤ z) : (num sg p).2.1 ≤ z ∧ p ≤ (num sg p).2.1 ∧ ((num sg p).1 = true → p < (num sg p).2.1 ∧ (num sg p).2.2 < 100) := by
  unfold num
  by_cases h1 : isD (sg p) = true
  · obtain ⟨a1, a2, a3⟩ := dv_9 h h1
    rw [if_pos h1]
    by_cases h2 : 0 < dv (sg p) ∧ isD (sg (p + 1)) = true
    · obtain ⟨b1, b2, b3⟩ := dv_9 h h2.2
      rw [if_pos h2]
      exact ⟨by simp only; omega, by simp only; omega, fun _ => ⟨by simp only; omega, by simp only; omega⟩⟩
    · rw [if_neg h2]
      exact ⟨by simp only; omega, by simp only; omega, fun _ => ⟨by simp only; omega, by simp only; omega⟩⟩
  · rw [if_neg h1]
    exact ⟨hp, Nat.le_refl _, fun h => absurd h (by simp)⟩
/-- a reader of a part: never past the signs; no more signs of a test than signs; how high the test climbs -/
def gd (z H : Nat) (f : Nat → Bool × Nat × List Op) : Prop := ∀ p, p ≤ z → (f p).2.1 ≤ z ∧ p ≤ (f p).2.1 ∧ ((f p).1 = true → p < (f p).2.1 ∧ (f p).2.2.length + p ≤ (f p).2.1 ∧ ∀ k, k + H ≤ 16 → opH (f p).2.2 k (k + 1))
theorem lt_n {x : Int32} (h : ¬ lt x = 6) : x ≠ -1 ∧ lt x < 6 := by
  refine ⟨fun hx => h (by subst hx; rfl), ?_⟩
  revert h
  unfold lt
  split
  · omega
  split
  · omega
  split
  · omega
  split
  · omega
  split
  · omega
  split
  · omega
  · exact fun h => absurd rfl h
theorem rl_n {x : Int32} (h : ¬ rl x = 3) : x ≠ -1 ∧ rl x < 3 := by
  refine ⟨fun hx => h (by subst hx; rfl), ?_⟩
  revert h
  unfold rl
  split
  · omega
  split
  · omega
  split
  · omega
  · exact fun h => absurd rfl h
theorem tst_gd {z : Nat} {sg : Nat → Int32} (h : sgI z sg) {H : Nat} (hH : 1 ≤ H) : gd z H (tst sg) := by
  intro p hp
  unfold tst
  by_cases h1 : lt (sg p) = 6
  · rw [if_pos h1]
    exact ⟨hp, Nat.le_refl _, fun h => absurd h (by simp)⟩
  · rw [if_neg h1]
    have a1 := sgI_n h (lt_n h1).1
    by_cases h2 : rl (sg (p + 1)) = 3
    · rw [if_pos h2]
      exact ⟨by simp only; omega, by simp only; omega, fun h => absurd h (by simp)⟩
    · rw [if_neg h2]
      have a2 := sgI_n h (rl_n h2).1
      obtain ⟨b1, b2, b3⟩ := num_ok h (show p + 2 ≤ z by omega)
      refine ⟨b1, by simp only; omega, fun h => ?_⟩
      obtain ⟨b4, b5⟩ := b3 h
      refine ⟨by simp only; omega, by simp only [List.length_singleton]; omega, fun k hk => ?_⟩
      show opH [(lt (sg p), rl (sg (p + 1)), (num sg (p + 2)).2.2)] k (k + 1)
      unfold opH
      rw [if_pos (lt_n h1).2]
      exact ⟨(rl_n h2).2, b5, by omega, rfl⟩
