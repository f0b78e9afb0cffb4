/-! the class: offers; its main object; a course from now -/
theorem k_ol {Kd : Nat → Nat} {n : Nat → Nat → Option Nat} {μ : Nat → Nat → Int32} {i f t ice : Nat} (hi6 : i < 6) (hf : μ (40 + 5 * i) 0 = nI f) (ht : μ (40 + 5 * i) 1 = nI t) (hi : ice < 4096) : ∀ (d k fuel : Nat), k + d = 12 → b_X10_offerOf_10 (kC Kd) lC (μ, n) (fuel + d + 1) (40 + 5 * i) (nI ice) (nI (of_s ice k).1) (nI (of_s ice k).2.2) (nI (of_s ice k).2.1) (nI k) = some (nI (offN f t ice)) := by
  intro d
  induction d with
  | zero =>
    intro k fuel hk
    have hk : k = 12 := hk
    subst hk
    rw [b_X10_offerOf_10]
    unfold k_X10_offerOf_10
    rw [if_pos (show (12 : Int32) ≤ nI 12 by decide)]
    simp only [C_git hi6]
    rw [hf, ht, pk_mul, pk_mul, nI_add, Nat.mul_comm f, Nat.mul_comm t]
    rfl
  | succ d ih =>
    intro k fuel hk
    have hi2 := ih (k + 1) fuel (by omega)
    obtain ⟨b1, b2, b3⟩ := of_b ice k
    rw [of_s] at hi2
    rw [show fuel + (d + 1) + 1 = fuel + d + 1 + 1 by omega, b_X10_offerOf_10]
    unfold k_X10_offerOf_10
    rw [if_neg (nge12 k (by omega))]
    revert hi2 b1 b2 b3
    generalize b_X10_offerOf_10 (kC Kd) lC (μ, n) (fuel + d + 1) = go
    generalize of_s ice k = x
    obtain ⟨r, l, u⟩ := x
    simp only
    intro hi2 b1 b2 b3
    have hz := bit_z (m := ice) (x := k) hi (by omega)
    have htb := bit_tb ice k
    have a0 : ∀ x : Int32, x + 0 = x := Int32.add_zero
    simp only [R_let]
    by_cases c1 : bit ice k = 1
    · rw [if_pos c1] at hi2
      rw [decide_eq_true c1] at htb
      rw [if_neg (fun a => by rw [hz.1 a] at htb; exact absurd htb (by decide))]
      simp only [nI_1]
      have hu : (nI (u + 1) = 1 ↔ u + 1 = 1) := nI_eq (b := 1) (by omega) (by omega)
      have hl : (nI l < nI (u + 1) ↔ l < u + 1) := nI_ltI (by omega) (by omega)
      have hm : (if nI l < nI (u + 1) then nI (u + 1) else nI l) = nI (if l < u + 1 then u + 1 else l) := by
        by_cases c3 : l < u + 1
        · rw [if_pos (hl.2 c3), if_pos c3]
        · rw [if_neg (fun a => c3 (hl.1 a)), if_neg c3]
      rw [hm]
      by_cases c2 : u + 1 = 1
      · rw [if_pos c2] at hi2
        rw [if_pos (hu.2 c2)]
        exact hi2
      · rw [if_neg c2] at hi2
        rw [if_neg (fun a => c2 (hu.1 a)), a0]
        exact hi2
    · rw [if_neg c1, if_neg (by decide), if_neg (by omega)] at hi2
      rw [decide_eq_false c1] at htb
      rw [if_pos (hz.2 htb), if_neg (by decide), if_neg (show ¬ nI l < (0 : Int32) from nI_pos (by omega)), a0, nI_1]
      exact hi2
theorem k_off {Kd : Nat → Nat} {n : Nat → Nat → Option Nat} {μ : Nat → Nat → Int32} {i f t ice : Nat} (hi6 : i < 6) (hf : μ (40 + 5 * i) 0 = nI f) (ht : μ (40 + 5 * i) 1 = nI t) (hi : ice < 4096) : m_X10_offerOf (kC Kd) lC (40 + 5 * i) (nI ice) (μ, n) = some (nI (offN f t ice)) := by
  unfold m_X10_offerOf
  simp only [R_let]
  exact k_ol hi6 hf ht hi 12 0 987 (by omega)
theorem k_offer {Kd : Nat → Nat} {n : Nat → Nat → Option Nat} {μ : Nat → Nat → Int32} {j i h ice f t : Nat} {q : Pn} {sh : Bool} (hI : cI Kd μ n j i q h ice sh) (ht : tC μ i (Pn.cl q) f t) : m_X1_offer (kC Kd) lC (103 + 6 * j) (μ, n) = some (nI (offN f t ice)) := by
  have hi : i < 6 := hI.2.2.2.2.2.2.2.2.2.2
  unfold m_X1_offer
  rw [C_grc hI.1.2.2, C_gic, hI.2.1.2.2.2.2.1, C_ckt hi, k_off hi ht.1 ht.2.1 hI.2.2.2.2.2.2.2.1, fm_b1_s]
def mN (n : Nat → Nat → Option Nat) : Prop := (n 0 0 = some 1 ∧ n 0 1 = some 2 ∧ n 0 3 = some 65 ∧ n 0 4 = some 3 ∧ n 0 6 = some 10 ∧ n 0 7 = some 30 ∧ n 0 11 = some 13 ∧ n 0 12 = some 16 ∧ n 0 13 = some 19 ∧ n 0 14 = some 22 ∧ n 0 15 = some 25 ∧ n 0 16 = some 4) ∧ (∀ t, t < 5 → n 3 t = some (40 + 5 * t)) ∧ (∀ t, t < 6 → nT n t) ∧ (∀ i, i < 6 → n (10 + 3 * i) 1 = some (11 + 3 * i) ∧ n (10 + 3 * i) 2 = some (12 + 3 * i)) ∧ n 30 0 = some 31
def mP (n : Nat → Nat → Option Nat) (np : Nat) : Prop := ∀ j, j < np → n 1 j = some (100 + 6 * j) ∧ n 2 j = some (103 + 6 * j) ∧ nP n j
def cA (μ : Nat → Nat → Int32) (s : Nat → Int32) : Prop := μ 0 2 = s 21 ∧ μ 0 5 = s 22 ∧ μ 0 8 = s 1 ∧ μ 0 9 = s 2 ∧ μ 0 10 = s 0
def cP (Kd : Nat → Nat) (μ : Nat → Nat → Int32) (s : Nat → Int32) (j : Nat) : Prop := μ (100 + 6 * j) 0 = s (28 + j) ∧ μ (100 + 6 * j) 1 = nI j ∧ μ (100 + 6 * j) 2 = s (34 + j) ∧ μ (100 + 6 * j) 3 = s (15 + j) ∧ μ (100 + 6 * j) 4 = s (3 + j) ∧ μ (100 + 6 * j) 5 = s (9 + j) ∧ Kd j = N (s (28 + j)) ∧ (N (s (28 + j)) = 6 → ∀ x, x < 4 → μ (101 + 6 * j) x = s (40 + 4 * j + x))
def hI (s : Nat → Int32) (i : Nat) : Prop := (s 22 = nI 0 ∧ i = 5) ∨ (i < 5 ∧ s 22 = nI (i + 1))
/-- class and reference say the same, as far as a course from now needs it -/
def gen (Kd : Nat → Nat) (μ : Nat → Nat → Int32) (n : Nat → Nat → Option Nat) (s : Nat → Int32) (np i : Nat) (cl : List Cl) (f t : Nat) : Prop := mN n ∧ mP n np ∧ cA μ s ∧ (∀ j, j < np → cP Kd μ s j) ∧ rI s ∧ s 21 = nI np ∧ np ≤ 6 ∧ hdR s cl f t ∧ tC μ i cl f t ∧ hI s i
/-- only courses have changed -/
def dQ (μ : Nat → Nat → Int32) (n : Nat → Nat → Option Nat) (μ' : Nat → Nat → Int32) (n' : Nat → Nat → Option Nat) : Prop := (∀ r, (r < 100 ∨ (r - 100) % 6 < 3) → μ' r = μ r) ∧ (∀ r k, (r < 100 ∨ (r - 100) % 6 < 3 ∨ k ≠ 1) → n' r k = n r k)
theorem dQ_r (μ : Nat → Nat → Int32) (n : Nat → Nat → Option Nat) : dQ μ n μ n := ⟨fun _ _ => rfl, fun _ _ _ => rfl⟩
theorem dQ_t {μ μ1 μ2 : Nat → Nat → Int32} {n n1 n2 : Nat → Nat → Option Nat} (h1 : dQ μ n μ1 n1) (h2 : dQ μ1 n1 μ2 n2) : dQ μ n μ2 n2 := ⟨fun r h => (h2.1 r h).trans (h1.1 r h), fun r k h => (h2.2 r k h).trans (h1.2 r k h)⟩
theorem dQ_3 {μ μ' : Nat → Nat → Int32} {n : Nat → Nat → Option Nat} {j : Nat} (h : ∀ r, r ≠ 103 + 6 * j → r ≠ 104 + 6 * j → r ≠ 105 + 6 * j → μ' r = μ r) : dQ μ n μ' n := ⟨fun r hr => h r (by omega) (by omega) (by omega), fun _ _ _ => rfl⟩
theorem mN_d {μ μ' : Nat → Nat → Int32} {n n' : Nat → Nat → Option Nat} (h : dQ μ n μ' n') (hn : mN n) : mN n' := by
  obtain ⟨⟨a1, a2, a3, a4, a5, a6, a7, a8, a9, a10, a11, a12⟩, b1, b2, b3, b4⟩ := hn
  have e : ∀ r k, r < 100 → n' r k = n r k := fun r k hr => h.2 r k (Or.inl hr)
  refine ⟨⟨?_, ?_, ?_, ?_, ?_, ?_, ?_, ?_, ?_, ?_, ?_, ?_⟩, fun t ht => ?_, fun t ht => ?_, fun i hi => ?_, ?_⟩
  all_goals first
    | (rw [e _ _ (by omega)]; assumption)
    | skip
  · rw [e _ _ (by omega)]; exact b1 t ht
  · obtain ⟨c1, c2, c3, c4⟩ := b2 t ht
    unfold nT
    rw [e _ _ (by omega), e _ _ (by omega), e _ _ (by omega), e _ _ (by omega)]
    exact ⟨c1, c2, c3, c4⟩
  · rw [e _ _ (by omega), e _ _ (by omega)]; exact b3 i hi
theorem mP_d {μ μ' : Nat → Nat → Int32} {n n' : Nat → Nat → Option Nat} {np : Nat} (h : dQ μ n μ' n') (hn : mP n np) : mP n' np := by
  intro j hj
  obtain ⟨a1, a2, c1, c2, c3, c4, c5, c6⟩ := hn j hj
  unfold nP
  rw [h.2 1 j (by omega), h.2 2 j (by omega), h.2 (100 + 6 * j) 9 (by omega), h.2 (100 + 6 * j) 10 (by omega), h.2 (100 + 6 * j) 11 (by omega), h.2 (103 + 6 * j) 0 (by omega), h.2 (103 + 6 * j) 8 (by omega), h.2 (103 + 6 * j) 9 (by omega)]
  exact ⟨a1, a2, c1, c2, c3, c4, c5, c6⟩
theorem cP_d {Kd : Nat → Nat} {μ μ' : Nat → Nat → Int32} {n n' : Nat → Nat → Option Nat} {s : Nat → Int32} {j : Nat} (h : dQ μ n μ' n') (hp : cP Kd μ s j) : cP Kd μ' s j := by
  unfold cP
  rw [h.1 (100 + 6 * j) (by omega), h.1 (101 + 6 * j) (by omega)]
  exact hp
theorem gen_d {Kd : Nat → Nat} {μ μ' : Nat → Nat → Int32} {n n' : Nat → Nat → Option Nat} {s : Nat → Int32} {np i : Nat} {cl : List Cl} {f t : Nat} (h : dQ μ n μ' n') (hg : gen Kd μ n s np i cl f t) : gen Kd μ' n' s np i cl f t := by
  obtain ⟨g1, g2, g3, g4, g5, g6, g7, g8, g9, g10⟩ := hg
  have hi6 : i < 6 := by rcases g10 with ⟨_, h⟩ | ⟨h, _⟩ <;> omega
  refine ⟨mN_d h g1, mP_d h g2, ?_, fun j hj => cP_d h (g4 j hj), g5, g6, g7, g8, tC_c (fun r x y => h.1 r (Or.inl y)) hi6 g9, g10⟩
  unfold cA
  rw [h.1 0 (by omega)]
  exact g3
theorem isC_11 (Kd : Nat → Nat) : fm_isC (kC Kd 0) 11 = true := rfl
theorem C_g0 {α : Type} {Kd : Nat → Nat} {μ : Nat → Nat → Int32} {n : Nat → Nat → Option Nat} (k : Nat) (F : Int32 → Option α) : fm_gi (kC Kd) 11 0 k (μ, n) F = F (μ 0 k) := C_gi (isC_11 Kd) F
theorem C_r0 {α : Type} {Kd : Nat → Nat} {μ : Nat → Nat → Int32} {n : Nat → Nat → Option Nat} {k q : Nat} (hq : n 0 k = some q) (F : Nat → Option α) : fm_gr (kC Kd) 11 0 k (μ, n) F = F q := C_gr (isC_11 Kd) hq F
theorem C_p0 {α : Type} {Kd : Nat → Nat} {μ : Nat → Nat → Int32} {n : Nat → Nat → Option Nat} (k : Nat) (x : Int32) (F : fm_M → Option α) : fm_pi (kC Kd) 11 0 k (μ, n) x F = F (wm μ 0 k x, n) := C_pi (isC_11 Kd) x F
theorem C_c0 {α : Type} {Kd : Nat → Nat} (F : Option α) : fm_ck (kC Kd 0 == 11) F = F := C_ck rfl F
theorem k_isWithin {kap lam : Nat → Nat} (x m : Int32) (S : fm_M) : m_X11_isWithin kap lam x m S = some (b2i (decide (0 ≤ x) && decide (x ≤ m))) := by
  unfold m_X11_isWithin
  by_cases h1 : x < 0
  · have h2 : ¬ 0 ≤ x := by simpa using h1
    rw [if_pos h1, fm_z0, decide_eq_false h2]
    rfl
  · have h2 : 0 ≤ x := by simpa using h1
    rw [if_neg h1, decide_eq_true h2]
    by_cases h3 : m < x
    · have h4 : ¬ x ≤ m := by simpa using h3
      rw [if_pos h3, fm_z0, decide_eq_false h4]
      rfl
    · have h4 : x ≤ m := by simpa using h3
      rw [if_neg h3, fm_z1, decide_eq_true h4]
      rfl
