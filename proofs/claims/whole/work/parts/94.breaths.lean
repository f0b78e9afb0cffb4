/-! methods, both sides: breaths; the class's pays -/
theorem shl1 : ∀ n, n ≤ 3 → (1 : Int32) <<< (nI n &&& 31) = nI (2 ^ n) := by decide
theorem p2le : ∀ n, n ≤ 3 → 2 ^ n ≤ 8 := by decide
theorem p8 : ∀ p, p < 6 → nI p <<< ((3 : Int32) &&& 31) = nI (8 * p) := by decide
section F
variable {Kd : Nat → Nat} {s : Nat → Int32} {np i f t n : Nat} {cl : List Cl}
theorem k_fp12 (h99 : N (s 0) ≤ 9999) (hn : n ≤ 3) {p : Nat} (hp : p < np) : ∀ (d set fuel : Nat) (μ : Nat → Nat → Int32) (nn : Nat → Nat → Option Nat), set + d = 2 ^ n → gen Kd μ nn s np i cl f t → pp s cl f t n p set μ → ∃ μ' nn', b_X11_fillPays_12 (kC Kd) lC (fuel + d + 1) 0 (nI n) (nI p) (nI set) (μ, nn) = b_X11_fillPays_2 (kC Kd) lC fuel 0 (nI n) (nI (p + 1)) (μ', nn') ∧ gen Kd μ' nn' s np i cl f t ∧ fQ μ nn μ' nn' ∧ pp s cl f t n (p + 1) 0 μ' := by
  have h8 := p2le n hn
  intro d
  induction d with
  | zero =>
    intro set fuel μ nn hx hg hpp
    have hx : set = 2 ^ n := hx
    refine ⟨μ, nn, ?_, hg, fQ_r _ _, fun p' x h hx2 => hpp p' x ?_ hx2⟩
    · rw [fp12_s]
      unfold k_X11_fillPays_12
      rw [shl1 n hn, hx, if_pos (Int32.le_refl _), R_let, nI_1]
    · by_cases hpp' : p' = p
      · exact Or.inr ⟨hpp', by omega⟩
      · exact Or.inl (by omega)
  | succ d ih =>
    intro set fuel μ nn hx hg hpp
    have hg0 := hg
    obtain ⟨g1, g2, ⟨c1, c5, c8, c9, c10⟩, g4, g5, g6, g7, g8, g9, g10⟩ := hg
    have hi6 : i < 6 := by rcases g10 with ⟨_, h⟩ | ⟨h, _⟩ <;> omega
    obtain ⟨e1, l1⟩ := nn_N (by omega) g5.2.1
    obtain ⟨μ1, n1, a1, a2, a3⟩ := k_from hg0 hp l1
    have hg1 := gen_d a2 hg0
    have ht1 := hg1.2.2.2.2.2.2.2.2.1
    obtain ⟨μ2, b1, b3⟩ := k_brl (Kd := Kd) (nn := n1) (j := p) (i := i) (f := f) (t := t) (h0 := N (s 0)) (ice0 := N (s (3 + p))) (set := set) (n := n) (q := pq s cl p) (sh := shB s p) hi6 (by omega) hn (by omega) n 0 (999 - n) μ1 (by omega) a3 ht1
    have hd2 : dQ μ nn μ2 n1 := dQ_t a2 (dQ_3 b3)
    have hb1 : m_X1_goBreathed (kC Kd) lC (103 + 6 * p) (nI n) (nI set) (μ1, n1) = some (nI (PV s cl f t n p set), (μ2, n1)) := by
      unfold m_X1_goBreathed
      rw [R_let, R_let, show fm_LF = 999 - n + n + 1 by unfold fm_LF; omega]
      exact b1
    have hf : fQ μ nn (wm μ2 4 (8 * p + set) (nI (PV s cl f t n p set))) n1 := fQ_t (fQ_d hd2) (fQ_w _ _ _ _)
    obtain ⟨μ', nn', x1, x2, x3, x4⟩ := ih (set + 1) fuel _ n1 (by omega) (gen_f hf hg0) (fun p' x h hx2 => by
      by_cases he : p' = p ∧ x = set
      · obtain ⟨rfl, rfl⟩ := he
        exact wm_s _ _ _ _
      · rw [wm_k (by omega), hd2.1 4 (by omega)]
        exact hpp p' x (by omega) hx2)
    refine ⟨μ', nn', ?_, x2, fQ_t hf x3, x4⟩
    have n16 : n1 0 16 = some 4 := hg1.1.1.2.2.2.2.2.2.2.2.2.2.2
    rw [← x1, show fuel + (d + 1) + 1 = fuel + d + 1 + 1 by omega, fp12_s]
    unfold k_X11_fillPays_12
    rw [shl1 n hn, if_neg (nI_ge (show set < 2 ^ n by omega) (by omega)), C_g0, c8, C_c0, e1, a1, fm_bi_s, C_r0 n16, C_ckc, hb1, fm_bi_s, p8 p (by omega), nI_add, C_st (L := 48) rfl rfl (show 8 * p + set < 48 by omega) (by decide), R_let, nI_1]
theorem k_fp2 (h99 : N (s 0) ≤ 9999) (hn : n ≤ 3) : ∀ (d p fuel : Nat) (μ : Nat → Nat → Int32) (nn : Nat → Nat → Option Nat), p + d = np → gen Kd μ nn s np i cl f t → pp s cl f t n p 0 μ → ∃ μ' nn', b_X11_fillPays_2 (kC Kd) lC (fuel + 12 * d + 1) 0 (nI n) (nI p) (μ, nn) = some (μ', nn') ∧ gen Kd μ' nn' s np i cl f t ∧ fQ μ nn μ' nn' ∧ pp s cl f t n np 0 μ' := by
  have h8 := p2le n hn
  intro d
  induction d with
  | zero =>
    intro p fuel μ nn hx hg hpp
    have hx : p = np := hx
    subst hx
    refine ⟨μ, nn, ?_, hg, fQ_r _ _, hpp⟩
    rw [fp2_s]
    unfold k_X11_fillPays_2
    rw [C_g0, hg.2.2.1.1, hg.2.2.2.2.2.1, if_pos (Int32.le_refl _)]
  | succ d ih =>
    intro p fuel μ nn hx hg hpp
    have hpn : p < np := by omega
    have h6 := hg.2.2.2.2.2.2.1
    obtain ⟨μ1, n1, a1, a2, a3, a4⟩ := k_fp12 h99 hn hpn (2 ^ n) 0 (fuel + 10 - 2 ^ n + 12 * d + 1) μ nn (by omega) hg hpp
    obtain ⟨μ2, n2, b1, b2, b3, b4⟩ := ih (p + 1) (fuel + 10 - 2 ^ n) μ1 n1 (by omega) a2 a4
    refine ⟨μ2, n2, ?_, b2, fQ_t a3 b3, b4⟩
    rw [← b1, ← a1, show fuel + 12 * (d + 1) + 1 = (fuel + 10 - 2 ^ n + 12 * d + 1 + 2 ^ n + 1) + 1 by omega, fp2_s]
    unfold k_X11_fillPays_2
    rw [C_g0, hg.2.2.1.1, hg.2.2.2.2.2.1, if_neg (nI_ge hpn (by omega)), R_let]
    rfl
theorem k_fillPays (h99 : N (s 0) ≤ 9999) (hn : n ≤ 3) {μ : Nat → Nat → Int32} {nn : Nat → Nat → Option Nat} (hg : gen Kd μ nn s np i cl f t) : ∃ μ' nn', m_X11_fillPays (kC Kd) lC 0 (nI n) (μ, nn) = some (μ', nn') ∧ gen Kd μ' nn' s np i cl f t ∧ fQ μ nn μ' nn' ∧ ∀ p x, p < np → x < 2 ^ n → μ' 4 (8 * p + x) = nI (PV s cl f t n p x) := by
  have h6 := hg.2.2.2.2.2.2.1
  obtain ⟨μ', nn', a1, a2, a3, a4⟩ := k_fp2 h99 hn np 0 (999 - 12 * np) μ nn (by omega) hg (fun p' x h => absurd h (by omega))
  refine ⟨μ', nn', ?_, a2, a3, fun p x hp hx => a4 p x (Or.inl hp) hx⟩
  unfold m_X11_fillPays
  rw [R_let, show fm_LF = 999 - 12 * np + 12 * np + 1 by unfold fm_LF; omega]
  exact a1
end F
