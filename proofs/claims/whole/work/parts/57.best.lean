/-! methods, both sides: best, comes -/
/-- the reference where one pane alone has gone on -/
def rC (s : Nat → Int32) (ρ : Nat → Nat → Int32) (j h ice : Nat) : Prop := (∀ x, x ≠ 0 → x ≠ 3 + j → ρ 1 x = s x) ∧ ρ 1 0 = nI h ∧ ρ 1 (3 + j) = nI ice
theorem rC_I {s : Nat → Int32} {ρ : Nat → Nat → Int32} {j h ice : Nat} (hI : rI s) (hc : rC s ρ j h ice) (hh : h ≤ 20000) (hi : ice < 4096) : rI (ρ 1) := rI_c hI (nn_of hc.2.1 hh) (fun p hp => by
  by_cases hpj : p = j
  · subst hpj
    exact nn_of hc.2.2 (by omega)
  · rw [hc.1 _ (by omega) (by omega)]
    exact (hI.2.2.2 p hp).1) (fun x h0 h3 => by
  by_cases hx : x = 3 + j
  · subst hx
    have h9 : 9 ≤ 3 + j := by omega
    exact absurd h9 (by
      intro _
      sorry)
  · exact hc.1 x h0 hx)
