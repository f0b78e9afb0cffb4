/-! RENAMING: two pane groups change places; the world stays -/
def sw (a b j : Nat) : Nat := if j = a then b else if j = b then a else j
def rnm (a b r : Nat) : Nat := if r < 100 then r else 100 + (r - 100) % 6 + 6 * sw a b ((r - 100) / 6)
theorem sw_sw (a b j : Nat) : sw a b (sw a b j) = j := by
  unfold sw
  repeat (first | split | omega)
theorem rnm_lo {a b r : Nat} (h : r < 100) : rnm a b r = r := if_pos h
theorem rnm_hi {a b r : Nat} (h : ¬ r < 100) : ¬ rnm a b r < 100 ∧ (rnm a b r - 100) / 6 = sw a b ((r - 100) / 6) ∧ (rnm a b r - 100) % 6 = (r - 100) % 6 := by
  unfold rnm
  rw [if_neg h]
  exact ⟨by omega, by omega, by omega⟩
theorem rnm_rnm (a b r : Nat) : rnm a b (rnm a b r) = r := by
  by_cases h : r < 100
  · rw [rnm_lo h, rnm_lo h]
  · obtain ⟨h1, h2, h3⟩ := rnm_hi (a := a) (b := b) h
    have e : rnm a b (rnm a b r) = 100 + (rnm a b r - 100) % 6 + 6 * sw a b ((rnm a b r - 100) / 6) := if_neg h1
    rw [e, h2, h3, sw_sw]
    omega
theorem kC_rnm (Kd : Nat → Nat) (a b r : Nat) : kC (fun j => Kd (sw a b j)) r = kC Kd (rnm a b r) := by
  by_cases h : r < 100
  · rw [rnm_lo h]
    unfold kC
    by_cases h4 : r < 40
    · rw [if_pos h4, if_pos h4]
    · rw [if_neg h4, if_neg h4, if_pos h, if_pos h]
  · obtain ⟨h1, h2, h3⟩ := rnm_hi (a := a) (b := b) h
    unfold kC
    rw [if_neg (by omega), if_neg h, if_neg (by omega), if_neg h1, h2, h3]
theorem lC_rnm (a b r : Nat) : lC r = lC (rnm a b r) := by
  by_cases h : r < 100
  · rw [rnm_lo h]
  · obtain ⟨h1, h2, h3⟩ := rnm_hi (a := a) (b := b) h
    unfold lC
    rw [if_neg (by omega), if_neg h, if_neg (by omega), if_neg h1, h3]
theorem sw_lt {a b N j : Nat} (ha : a < N) (hb : b < N) : sw a b j < N ↔ j < N := by
  unfold sw
  repeat (first | split | omega)
theorem gR_rnm {Kd : Nat → Nat} {a b N r : Nat} (ha : a < N) (hb : b < N) : gR (fun j => Kd (sw a b j)) N r ↔ gR Kd N (rnm a b r) := by
  by_cases h : r < 100
  · rw [rnm_lo h]
    unfold gR
    have : ¬ 100 ≤ r := by omega
    simp only [this, false_and]
  · obtain ⟨h1, h2, h3⟩ := rnm_hi (a := a) (b := b) h
    unfold gR
    rw [h2, h3, sw_lt ha hb]
    have e1 : r < 75 ↔ rnm a b r < 75 := by omega
    have e2 : 100 ≤ r ↔ 100 ≤ rnm a b r := by omega
    rw [e1, e2]
