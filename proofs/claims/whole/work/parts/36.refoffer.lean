/-! the reference: offers -/
theorem r_tl {μ : Nat → Nat → Int32} {cl : List Cl} {f t : Nat} (hd : hdR (μ 1) cl f t) : m_X12_tellsOf kR lR 0 211 3 (μ, nR) = some (nI f) ∧ m_X12_tellsOf kR lR 0 216 2 (μ, nR) = some (nI t) ∧ f < 100 ∧ t < 100 := by
  rcases hd with ⟨d1, d2, d3, d4⟩ | ⟨j, e, d0, d1, d2, d3, d4, d5, d6, d7, d8⟩
  · subst d3 d4
    exact ⟨r_tells0 d1, r_tells0 d1, by omega, by omega⟩
  · refine ⟨?_, ?_, d7, d8⟩
    · rw [show (211 : Int32) = nI 211 from rfl, r_tells (j := 211) d0 (by omega) d1, d5]
    · rw [show (216 : Int32) = nI 216 from rfl, r_tells (j := 216) d0 (by omega) d1, d6]
theorem r_ol {μ : Nat → Nat → Int32} {p ice : Nat} {cl : List Cl} {f t : Nat} (hd : hdR (μ 1) cl f t) (hp : p < 6) (h3 : μ 1 (3 + p) = nI ice) (hi : ice < 4096) : ∀ (d k fuel : Nat), k + d = 12 → b_X12_offerOf_10 kR lR (μ, nR) (fuel + d + 1) 0 (nI p) (nI (of_s ice k).1) (nI (of_s ice k).2.1) (nI (of_s ice k).2.2) (nI k) = some (nI (offN f t ice)) := by
  obtain ⟨t1, t2, t3, t4⟩ := r_tl hd
  intro d
  induction d with
  | zero =>
    intro k fuel hk
    have hk : k = 12 := hk
    subst hk
    rw [b_X12_offerOf_10]
    unfold k_X12_offerOf_10
    rw [if_pos (show (12 : Int32) ≤ nI 12 by decide)]
    simp only [R_ck, t1, t2, fm_b1_s]
    rw [pk_mul, pk_mul, nI_add]
    rfl
  | succ d ih =>
    intro k fuel hk
    have hi2 := ih (k + 1) fuel (by omega)
    obtain ⟨b1, b2, b3⟩ := of_b ice k
    rw [of_s] at hi2
    rw [show fuel + (d + 1) + 1 = fuel + d + 1 + 1 by omega, b_X12_offerOf_10]
    unfold k_X12_offerOf_10
    rw [if_neg (nge12 k (by omega))]
    revert hi2 b1 b2 b3
    generalize b_X12_offerOf_10 kR lR (μ, nR) (fuel + d + 1) = go
    generalize of_s ice k = x
    obtain ⟨r, l, u⟩ := x
    simp only
    intro hi2 b1 b2 b3
    simp (disch := omega) only [R_g1, L_3, R_s, R_let]
    rw [h3, sh_bit (by omega) (by omega)]
    have hb : (nI (bit ice k) = 1 ↔ bit ice k = 1) := nI_eq (b := 1) (Nat.lt_of_lt_of_le (bit_lt _ _) (by omega)) (by omega)
    have a0 : ∀ x : Int32, x + 0 = x := Int32.add_zero
    by_cases c1 : bit ice k = 1
    · rw [if_pos c1] at hi2
      rw [if_pos (hb.2 c1)]
      simp only [nI_1]
      have hu : (nI (u + 1) = 1 ↔ u + 1 = 1) := nI_eq (b := 1) (by omega) (by omega)
      have hl : (nI (u + 1) ≤ nI l ↔ u + 1 ≤ l) := nI_leI (by omega) (by omega)
      by_cases c2 : u + 1 = 1
      · rw [if_pos c2] at hi2
        rw [if_pos (hu.2 c2)]
        by_cases c3 : u + 1 ≤ l
        · rw [if_neg (by omega)] at hi2
          rw [if_pos (hl.2 c3)]
          exact hi2
        · rw [if_pos (by omega)] at hi2
          rw [if_neg (fun a => c3 (hl.1 a))]
          exact hi2
      · rw [if_neg c2] at hi2
        rw [if_neg (fun a => c2 (hu.1 a)), a0]
        by_cases c3 : u + 1 ≤ l
        · rw [if_neg (by omega)] at hi2
          rw [if_pos (hl.2 c3)]
          exact hi2
        · rw [if_pos (by omega)] at hi2
          rw [if_neg (fun a => c3 (hl.1 a))]
          exact hi2
    · rw [if_neg c1, if_neg (by decide), if_neg (by omega)] at hi2
      rw [if_neg (fun a => c1 (hb.1 a)), if_neg (by decide), if_pos (show (0 : Int32) ≤ nI l from nI_pos' (by omega)), a0, nI_1]
      exact hi2
theorem r_offer {μ : Nat → Nat → Int32} {p : Nat} {cl : List Cl} {f t : Nat} (hI : rI (μ 1)) (hd : hdR (μ 1) cl f t) (hp : p < 6) : m_X12_offerOf kR lR 0 (nI p) (μ, nR) = some (nI (offN f t (N (μ 1 (3 + p))))) := by
  obtain ⟨e3, l3⟩ := nn_N (by omega) (hI.2.2.2 p hp).1
  unfold m_X12_offerOf
  simp only [R_let]
  exact r_ol hd hp e3 (by omega) 12 0 987 (by omega)
theorem of_le (f t n : Nat) (hf : f < 100) (ht : t < 100) : offN f t n ≤ 2400 := by
  obtain ⟨b1, b2, b3⟩ := of_b n 12
  unfold offN
  have h1 : (of_s n 12).1 * f ≤ 12 * 99 := Nat.mul_le_mul b1 (by omega)
  have h2 : (of_s n 12).2.1 * t ≤ 12 * 99 := Nat.mul_le_mul b2 (by omega)
  omega
/-- all offers, together -/
def sumO (f t : Nat) (g : Nat → Nat) : Nat → Nat
  | 0 => 0
  | n + 1 => sumO f t g n + offN f t (g n)
theorem sumO_c {f t : Nat} {g g' : Nat → Nat} : ∀ n, (∀ p, p < n → g p = g' p) → sumO f t g n = sumO f t g' n
  | 0, _ => rfl
  | n + 1, h => by
    unfold sumO
    rw [sumO_c n (fun p hp => h p (by omega)), h n (by omega)]
theorem sumO_le (f t : Nat) (g : Nat → Nat) (hf : f < 100) (ht : t < 100) : ∀ n, sumO f t g n ≤ 2400 * n
  | 0 => Nat.le_refl _
  | n + 1 => by
    have h1 := sumO_le f t g hf ht n
    have h2 := of_le f t (g n) hf ht
    unfold sumO
    omega
theorem r_offl {μ : Nat → Nat → Int32} {np : Nat} {cl : List Cl} {f t : Nat} (hI : rI (μ 1)) (hd : hdR (μ 1) cl f t) (h21 : μ 1 21 = nI np) (hn : np ≤ 6) : ∀ (d k fuel : Nat), k + d = np → b_X12_offers_4 kR lR (μ, nR) (fuel + d + 1) 0 (nI (sumO f t (fun p => N (μ 1 (3 + p))) k)) (nI k) = some (nI (sumO f t (fun p => N (μ 1 (3 + p))) np)) := by
  intro d
  induction d with
  | zero =>
    intro k fuel hk
    have hk : k = np := hk
    subst hk
    rw [b_X12_offers_4]
    unfold k_X12_offers_4
    simp only [R_g1, R_s21]
    rw [h21, if_pos (Int32.le_refl _)]
  | succ d ih =>
    intro k fuel hk
    have hi2 := ih (k + 1) fuel (by omega)
    rw [show fuel + (d + 1) + 1 = fuel + d + 1 + 1 by omega, b_X12_offers_4]
    unfold k_X12_offers_4
    simp only [R_g1, R_s21, R_ck, r_offer hI hd (show k < 6 by omega), fm_b1_s, R_let]
    rw [h21, if_neg (nI_ge (by omega) (by omega)), nI_1, nI_add]
    exact hi2
theorem r_offers {μ : Nat → Nat → Int32} {np : Nat} {cl : List Cl} {f t : Nat} (hI : rI (μ 1)) (hd : hdR (μ 1) cl f t) (h21 : μ 1 21 = nI np) (hn : np ≤ 6) : m_X12_offers kR lR 0 (μ, nR) = some (nI (sumO f t (fun p => N (μ 1 (3 + p))) np)) := by
  unfold m_X12_offers
  simp only [R_let]
  rw [show fm_LF = 999 - np + np + 1 by unfold fm_LF; omega]
  exact r_offl hI hd h21 hn np 0 (999 - np) (by omega)
