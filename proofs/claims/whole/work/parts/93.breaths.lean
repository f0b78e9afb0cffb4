/-! methods, both sides: breaths; the class's pays -/
/-- courses and pays have changed -/
def fQ (μ : Nat → Nat → Int32) (n : Nat → Nat → Option Nat) (μ' : Nat → Nat → Int32) (n' : Nat → Nat → Option Nat) : Prop := (∀ r, (r < 100 ∨ (r - 100) % 6 < 3) → r ≠ 4 → μ' r = μ r) ∧ (∀ r k, (r < 100 ∨ (r - 100) % 6 < 3 ∨ k ≠ 1) → n' r k = n r k)
theorem fQ_r (μ : Nat → Nat → Int32) (n : Nat → Nat → Option Nat) : fQ μ n μ n := ⟨fun _ _ _ => rfl, fun _ _ _ => rfl⟩
theorem fQ_t {μ μ1 μ2 : Nat → Nat → Int32} {n n1 n2 : Nat → Nat → Option Nat} (h1 : fQ μ n μ1 n1) (h2 : fQ μ1 n1 μ2 n2) : fQ μ n μ2 n2 := ⟨fun r h h4 => (h2.1 r h h4).trans (h1.1 r h h4), fun r k h => (h2.2 r k h).trans (h1.2 r k h)⟩
theorem fQ_d {μ μ' : Nat → Nat → Int32} {n n' : Nat → Nat → Option Nat} (h : dQ μ n μ' n') : fQ μ n μ' n' := ⟨fun r hr _ => h.1 r hr, h.2⟩
theorem fQ_w (μ : Nat → Nat → Int32) (n : Nat → Nat → Option Nat) (k : Nat) (x : Int32) : fQ μ n (wm μ 4 k x) n := ⟨fun r _ h4 => wm_r h4, fun _ _ _ => rfl⟩
theorem fQ_k {μ μ' : Nat → Nat → Int32} {n n' : Nat → Nat → Option Nat} (h : fQ μ n μ' n') : kQ μ n μ' n' := ⟨fun r hr h4 _ _ => h.1 r hr h4, fun r k hr _ => h.2 r k hr⟩
theorem gen_f {Kd : Nat → Nat} {μ μ' : Nat → Nat → Int32} {n n' : Nat → Nat → Option Nat} {s : Nat → Int32} {np i : Nat} {cl : List Cl} {f t : Nat} (h : fQ μ n μ' n') (hg : gen Kd μ n s np i cl f t) : gen Kd μ' n' s np i cl f t := by
  obtain ⟨g1, g2, g3, g4, g5, g6, g7, g8, g9, g10⟩ := hg
  have hi6 : i < 6 := by rcases g10 with ⟨_, h⟩ | ⟨h, _⟩ <;> omega
  have hd : dQ μ n μ n' := ⟨fun _ _ => rfl, h.2⟩
  refine ⟨mN_d hd g1, kQ_P (kQ_d hd) g2, ?_, fun j hj => ?_, g5, g6, g7, g8, ?_, g10⟩
  · unfold cA
    rw [h.1 0 (by omega) (by omega)]
    exact g3
  · unfold cP
    rw [h.1 (100 + 6 * j) (by omega) (by omega), h.1 (101 + 6 * j) (by omega) (by omega)]
    exact g4 j hj
  · exact tC_c (fun r a b => h.1 r (by omega) (by omega)) hi6 g9
theorem k_brl {Kd : Nat → Nat} {nn : Nat → Nat → Option Nat} {j i f t h0 ice0 set n : Nat} {q : Pn} {sh : Bool} (hi : i < 6) (hs : set < 8) (hn : n ≤ 3) (hh : h0 ≤ 15000) : ∀ (d k fuel : Nat) (μ : Nat → Nat → Int32), k + d = n → cI Kd μ nn j i q (h0 + k) (Ib q sh h0 ice0 set k) sh → tC μ i (Pn.cl q) f t → ∃ μ', b_X1_goBreathed_5 (kC Kd) lC (fuel + d + 1) (103 + 6 * j) (nI n) (nI set) (nI (Pk q sh f t h0 ice0 set k)) (nI k) (μ, nn) = some (nI (Pk q sh f t h0 ice0 set n), (μ', nn)) ∧ ∀ r, r ≠ 103 + 6 * j → r ≠ 104 + 6 * j → r ≠ 105 + 6 * j → μ' r = μ r := by
  intro d
  induction d with
  | zero =>
    intro k fuel μ hk hc ht
    have hk : k = n := hk
    subst hk
    refine ⟨μ, ?_, fun _ _ _ _ => rfl⟩
    rw [b_X1_goBreathed_5]
    unfold k_X1_goBreathed_5
    rw [if_pos (Int32.le_refl _)]
  | succ d ih =>
    intro k fuel μ hk hc ht
    have hkn : k < n := by omega
    have hb := sh_bit (n := set) (c := k) (by omega) (by omega)
    unfold bit at hb
    have ih' := ih (k + 1) fuel
    rw [Pk_s, Ib_s] at ih'
    have hfr : ∀ {μ1 : Nat → Nat → Int32}, (∀ r, r ≠ 103 + 6 * j → r ≠ 104 + 6 * j → r ≠ 105 + 6 * j → μ1 r = μ r) → tC μ1 i (Pn.cl q) f t := fun h => tC_c (fun r a b => h r (by omega) (by omega) (by omega)) hi ht
    rw [show fuel + (d + 1) + 1 = fuel + d + 1 + 1 by omega, b_X1_goBreathed_5]
    unfold k_X1_goBreathed_5
    rw [if_neg (nI_ge hkn (by omega)), hb]
    by_cases hz : set / 2 ^ k % 2 = 1
    · rw [if_pos hz, if_pos hz] at ih'
      rw [hz, if_neg (show ¬ nI 1 = 0 by decide)]
      obtain ⟨a1, a2⟩ := k_breath hc ht
      have a3 : ∀ r, r ≠ 103 + 6 * j → r ≠ 104 + 6 * j → r ≠ 105 + 6 * j → wm μ (103 + 6 * j) 6 (nI 0) r = μ r := fun r x y z => wm_r x
      obtain ⟨μ1, b1, b2, b3⟩ := k_goHour a2 (hfr a3) (by omega)
      have b4 : ∀ r, r ≠ 103 + 6 * j → r ≠ 104 + 6 * j → r ≠ 105 + 6 * j → μ1 r = μ r := fun r x y z => (b3 r x y z).trans (a3 r x y z)
      obtain ⟨μ2, c1, c2⟩ := ih' μ1 (by omega) b2 (hfr b4)
      refine ⟨μ2, ?_, fun r x y z => (c2 r x y z).trans (b4 r x y z)⟩
      rw [C_ckc, a1, fm_bi_s, R_let, nI_add, C_ckc, b1, fm_b1_s, R_let, nI_1]
      exact c1
    · have hz0 : set / 2 ^ k % 2 = 0 := by omega
      rw [if_neg hz, if_neg hz] at ih'
      rw [hz0, if_pos (show nI 0 = 0 from rfl)]
      obtain ⟨μ1, b1, b2, b3⟩ := k_goHour hc ht (by omega)
      obtain ⟨μ2, c1, c2⟩ := ih' μ1 (by omega) b2 (hfr b3)
      refine ⟨μ2, ?_, fun r x y z => (c2 r x y z).trans (b3 r x y z)⟩
      rw [C_ckc, b1, fm_b1_s, R_let, nI_1]
      exact c1
theorem fp2_s (kap lam : Nat → Nat) (f : Nat) : b_X11_fillPays_2 kap lam (f + 1) = k_X11_fillPays_2 kap lam (b_X11_fillPays_2 kap lam f) (b_X11_fillPays_12 kap lam f) := rfl
theorem fp12_s (kap lam : Nat → Nat) (f : Nat) : b_X11_fillPays_12 kap lam (f + 1) = k_X11_fillPays_12 kap lam (b_X11_fillPays_2 kap lam f) (b_X11_fillPays_12 kap lam f) := rfl
/-- what the class's pays say -/
def PV (s : Nat → Int32) (cl : List Cl) (f t n p x : Nat) : Nat := Pk (pq s cl p) (shB s p) f t (N (s 0)) (N (s (3 + p))) x n
def pp (s : Nat → Int32) (cl : List Cl) (f t n p set : Nat) (μ : Nat → Nat → Int32) : Prop := ∀ p' x, (p' < p ∨ (p' = p ∧ x < set)) → x < 2 ^ n → μ 4 (8 * p' + x) = nI (PV s cl f t n p' x)
