/-! methods, both sides: breaths; the reference's pays -/
def OV (s : Nat → Int32) (cl : List Cl) (f t p set k : Nat) : Nat := offN f t (Ib (pq s cl p) (shB s p) (N (s 0)) (N (s (3 + p))) set k)
theorem lp2_s (kap lam : Nat → Nat) (f : Nat) : b_X12_looksForPay_2 kap lam (f + 1) = k_X12_looksForPay_2 kap lam (b_X12_looksForPay_2 kap lam f) (b_X12_looksForPay_14 kap lam f) := rfl
theorem lp14_s (kap lam : Nat → Nat) (f : Nat) : b_X12_looksForPay_14 kap lam (f + 1) = k_X12_looksForPay_14 kap lam (b_X12_looksForPay_2 kap lam f) (b_X12_looksForPay_14 kap lam f) := rfl
theorem ix24 (p x k : Nat) : (24 : Int32) * nI p + 3 * nI x + nI k = nI (24 * p + 3 * x + k) := by
  rw [show (24 : Int32) = nI 24 from rfl, show (3 : Int32) = nI 3 from rfl, pk_mul, pk_mul, nI_add, nI_add]
section L
variable {s : Nat → Int32} {cl : List Cl} {f t : Nat}
theorem r_lp14 (hI : rI s) (hd : hdR s cl f t) (h99 : N (s 0) ≤ 9999) {p set : Nat} (hp : p < 6) (hs : set < 8) : ∀ (d k fuel : Nat) (ρ : Nat → Nat → Int32), k + d = 3 → rC s ρ p (N (s 0) + k) (Ib (pq s cl p) (shB s p) (N (s 0)) (N (s (3 + p))) set k) → (∀ j, j < 21 → ρ 3 j = s j) → ∃ ρ', b_X12_looksForPay_14 kR lR (fuel + d + 1) 0 (nI p) (nI set) (nI k) (ρ, nR) = b_X12_looksForPay_2 kR lR fuel 0 (nI p) (nI (set + 1)) (ρ', nR) ∧ ρ' 1 = s ∧ (∀ r, r ≠ 1 → r ≠ 4 → r ≠ 5 → r ≠ 6 → ρ' r = ρ r) ∧ (∀ y, ¬ (24 * p + 3 * set + k ≤ y ∧ y < 24 * p + 3 * set + 3) → ρ' 6 y = ρ 6 y) ∧ ∀ k', k ≤ k' → k' < 3 → ρ' 6 (24 * p + 3 * set + k') = nI (OV s cl f t p set k') := by
  intro d
  induction d with
  | zero =>
    intro k fuel ρ hk hc h3
    have hk : k = 3 := hk
    subst hk
    obtain ⟨ρ', y1, y2, y3⟩ := r_goesBack ρ
    refine ⟨ρ', ?_, ?_, fun r r1 _ _ _ => y2 r r1, fun y _ => by rw [y2 6 (by omega)], fun k' h1 h2 => absurd h2 (by omega)⟩
    · rw [lp14_s]
      unfold k_X12_looksForPay_14
      rw [if_pos (show (3 : Int32) ≤ nI 3 from Int32.le_refl _), R_ck, y1, fm_b1_s, R_let, nI_1]
    · funext j
      by_cases h21 : j < 21
      · rw [(y3 j).2 h21, h3 j h21]
      · rw [(y3 j).1 (by omega), hc.1 j (by omega) (by omega)]
  | succ d ih =>
    intro k fuel ρ hk hc h3
    have hlt : ∀ k, Ib (pq s cl p) (shB s p) (N (s 0)) (N (s (3 + p))) set k < 4096 := Ib_lt (N_lt hI hp)
    have ho := rC_o hI hd hc hp (by omega) (hlt k)
    have hb := sh_bit (n := set) (c := k) (by omega) (by omega)
    unfold bit at hb
    have ih' := ih (k + 1) fuel
    rw [Ib_s] at ih'
    have hfin : ∀ ice', ice' < 4096 → (if set / 2 ^ k % 2 = 1 then 0 else Ib (pq s cl p) (shB s p) (N (s 0)) (N (s (3 + p))) set k) = ice' → ∃ ρ', (fm_b1 (m_X12_freezesOn kR lR 0 (nI p) 1 (wm (wm ρ 6 (24 * p + 3 * set + k) (nI (OV s cl f t p set k))) 1 (3 + p) (nI ice'), nR)) fun S71 => b_X12_looksForPay_14 kR lR (fuel + d + 1) 0 (nI p) (nI set) (nI (k + 1)) S71) = b_X12_looksForPay_2 kR lR fuel 0 (nI p) (nI (set + 1)) (ρ', nR) ∧ ρ' 1 = s ∧ (∀ r, r ≠ 1 → r ≠ 4 → r ≠ 5 → r ≠ 6 → ρ' r = ρ r) ∧ (∀ y, ¬ (24 * p + 3 * set + k ≤ y ∧ y < 24 * p + 3 * set + 3) → ρ' 6 y = ρ 6 y) ∧ ∀ k', k ≤ k' → k' < 3 → ρ' 6 (24 * p + 3 * set + k') = nI (OV s cl f t p set k') := by
      intro ice' hl he
      rw [he] at ih'
      have hc2 : rC s (wm (wm ρ 6 (24 * p + 3 * set + k) (nI (OV s cl f t p set k))) 1 (3 + p) (nI ice')) p (N (s 0) + k) ice' := by
        refine ⟨fun x x0 x3 => ?_, ?_, wm_s _ _ _ _⟩
        · rw [wm_k x3, wm_r (by omega)]; exact hc.1 x x0 x3
        · rw [wm_k (by omega), wm_r (by omega)]; exact hc.2.1
      obtain ⟨ρ2, c1, c2, c3⟩ := rC_n (n := 1) hI hd hc2 hp (by omega) hl (by omega)
      obtain ⟨ρ', d1, d2, d3, d4, d5⟩ := ih' ρ2 (by omega) c3 (fun j hj => by rw [c2 3 (by omega) (by omega) (by omega), wm_r (by omega), wm_r (by omega)]; exact h3 j hj)
      have e6 : ρ2 6 = wm ρ 6 (24 * p + 3 * set + k) (nI (OV s cl f t p set k)) 6 := by rw [c2 6 (by omega) (by omega) (by omega), wm_r (by omega)]
      refine ⟨ρ', ?_, d2, fun r r1 r4 r5 r6 => ?_, fun y hy => ?_, fun k' h1 h2 => ?_⟩
      · rw [show (1 : Int32) = nI 1 from rfl, c1, fm_b1_s]
        exact d1
      · rw [d3 r r1 r4 r5 r6, c2 r r1 r4 r5, wm_r r1, wm_r r6]
      · rw [d4 y (by omega), e6, wm_k (by omega)]
      · by_cases hkk : k' = k
        · subst hkk
          rw [d4 _ (by omega), e6, wm_s]
        · exact d5 k' (by omega) h2
    rw [show fuel + (d + 1) + 1 = fuel + d + 1 + 1 by omega, lp14_s]
    unfold k_X12_looksForPay_14
    rw [if_neg (show ¬ (3 : Int32) ≤ nI k from nI_ge (b := 3) (by omega) (by omega)), R_g12, R_ck, ho, fm_b1_s, ix24, R_st (r := 6) rfl (show 24 * p + 3 * set + k < 144 by omega) (by decide), R_g1, hb, L_3]
    by_cases hz : set / 2 ^ k % 2 = 1
    · rw [if_pos (show nI (set / 2 ^ k % 2) = 1 by rw [hz]; rfl), R_ws (by omega), R_ck]
      simp only [R_let, nI_1]
      exact hfin 0 (by omega) (if_pos hz)
    · rw [if_neg (show ¬ nI (set / 2 ^ k % 2) = 1 by rw [show set / 2 ^ k % 2 = 0 by omega]; decide), R_g1, R_s (by omega), wm_r (by omega), hc.2.2, R_ws (by omega), R_ck]
      simp only [R_let, nI_1]
      exact hfin _ (hlt k) (if_neg hz)
end L
