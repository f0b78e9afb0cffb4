/-! START: Rep where both are new -/
def muS (r i : Nat) : Int32 := if r = 0 then (if i = 8 then 5 else 0) else if i = 0 then (if r = 10 then nI 100 else if r = 13 then nI 5 else if r = 16 then nI 8 else if r = 19 then nI 8 else if r = 22 then nI 20 else if r = 25 then nI 2 else if 40 ≤ r ∧ r < 75 ∧ (r - 40) % 5 = 0 then nI 3 else 0) else if i = 1 ∧ 40 ≤ r ∧ r < 75 ∧ (r - 40) % 5 = 0 then nI 2 else 0
def nS (r i : Nat) : Option Nat := if r = 0 then ([some 1, some 2, none, some 65, some 3, none, some 10, some 30, none, none, none, some 13, some 16, some 19, some 22, some 25, some 4] : List (Option Nat)).getD i none else if r = 3 then (if i < 5 then some (40 + 5 * i) else none) else if r = 30 then (if i = 0 then some 31 else if i = 1 then some 70 else none) else if 10 ≤ r ∧ r < 28 ∧ (r - 10) % 3 = 0 then (if i = 1 then some (r + 1) else if i = 2 then some (r + 2) else none) else if 40 ≤ r ∧ r < 75 ∧ (r - 40) % 5 = 0 then (if i = 3 then some (r + 1) else if i = 4 then some (r + 2) else if i = 6 then some (r + 3) else if i = 7 then some (r + 4) else none) else none
def roS (r i : Nat) : Int32 := if r = 1 ∧ i = 27 then (-1) else if r = 1 ∧ i = 1 then 5 else 0
theorem roS_0 {i : Nat} (h1 : i ≠ 27) (h2 : i ≠ 1) : roS 1 i = 0 := by
  unfold roS
  rw [if_neg (by omega), if_neg (by omega)]
theorem nS_N : mN nS := by
  refine ⟨⟨rfl, rfl, rfl, rfl, rfl, rfl, rfl, rfl, rfl, rfl, rfl, rfl⟩, by decide, ?_, by decide, rfl⟩
  show ∀ t, t < 6 → (nS (40 + 5 * t) 3 = some (41 + 5 * t) ∧ nS (40 + 5 * t) 4 = some (42 + 5 * t) ∧ nS (40 + 5 * t) 6 = some (43 + 5 * t) ∧ nS (40 + 5 * t) 7 = some (44 + 5 * t))
  decide
theorem Rep_start (Kd : Nat → Nat) : Rep Kd muS nS roS := by
  refine ⟨0, 0, ⟨nS_N, fun j hj => absurd hj (by omega), ⟨rfl, rfl, rfl, rfl, rfl⟩, fun j hj => absurd hj (by omega), ?_, rfl, by omega⟩, ⟨⟨rfl, by omega, rfl, ⟨0, by omega, rfl⟩, ?_⟩, fun m hm => absurd hm (by omega), ?_⟩, ⟨?_, ?_, ?_, ?_⟩, ⟨rfl, rfl, rfl, rfl, rfl, rfl⟩, ⟨0, by omega, rfl, rfl, fun x hx => absurd hx (by omega)⟩, Or.inl ⟨rfl, rfl⟩⟩
  · refine ⟨⟨0, by omega, rfl⟩, ⟨5, by omega, rfl⟩, ⟨0, by omega, rfl⟩, fun p hp => ⟨?_, ?_, ?_, ?_, ?_, fun i hi => ?_⟩⟩
    all_goals rw [roS_0 (by omega) (by omega)]
    all_goals exact ⟨0, by omega, rfl⟩
  · show N (nI 0) ≤ 9999
    rw [N_nI (by omega)]
    omega
  · exact ⟨rfl, rfl, rfl, by decide, trivial, by omega, by omega⟩
  · exact ⟨0, by omega, rfl, rfl, fun x hx => absurd hx (by omega)⟩
  · exact ⟨0, by omega, rfl, rfl, fun x hx => absurd hx (by omega)⟩
  · exact ⟨0, by omega, rfl, rfl, fun x hx => absurd hx (by omega)⟩
  · exact ⟨0, by omega, rfl, rfl, fun x hx => absurd hx (by omega)⟩
