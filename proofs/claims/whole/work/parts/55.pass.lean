/-! methods, both sides: pass, on -/
theorem r_back {ρ ρ1 ρ2 : Nat → Nat → Int32} (h1 : ∀ r, r ≠ 3 → ρ1 r = ρ r) (h2 : ∀ j, j < 21 → ρ1 3 j = ρ 1 j) (h3 : rS ρ1 ρ2) (h4 : ∀ j, 21 ≤ j → ρ2 1 j = ρ1 1 j) : ∃ ρ3, m_X12_goesBack kR lR 0 (ρ2, nR) = some (ρ3, nR) ∧ ρ3 1 = ρ 1 ∧ ∀ r, r ≠ 1 → r ≠ 3 → r ≠ 4 → r ≠ 5 → ρ3 r = ρ r := by
  obtain ⟨ρ3, b1, b2, b3⟩ := r_goesBack ρ2
  refine ⟨ρ3, b1, ?_, fun r x3 x1 x4 x5 => ?_⟩
  · funext j
    by_cases hj : j < 21
    · rw [(b3 j).2 hj, h3 3 (by omega) (by omega) (by omega), h2 j hj]
    · rw [(b3 j).1 (by omega), h4 j (by omega), h1 1 (by omega)]
  · rw [b2 r x3, h3 r x3 x4 x5, h1 r x1]
theorem rK_b {ρ ρ3 : Nat → Nat → Int32} (h1 : ρ3 1 = ρ 1) (h2 : ∀ r, r ≠ 1 → r ≠ 3 → r ≠ 4 → r ≠ 5 → ρ3 r = ρ r) : rK ρ ρ3 := ⟨h1, h2 2 (by omega) (by omega) (by omega) (by omega), h2 9 (by omega) (by omega) (by omega) (by omega), by rw [h2 0 (by omega) (by omega) (by omega) (by omega)], by rw [h2 0 (by omega) (by omega) (by omega) (by omega)]⟩
section X
variable {Kd : Nat → Nat} {μ : Nat → Nat → Int32} {n : Nat → Nat → Option Nat} {ρ : Nat → Nat → Int32}
theorem gen_np {s : Nat → Int32} {np i : Nat} {cl : List Cl} {f t : Nat} (hg : gen Kd μ n s np i cl f t) : np ≤ 6 := hg.2.2.2.2.2.2.1
theorem hI_u {s : Nat → Int32} {i i' : Nat} (h : hI s i) (h' : hI s i') : i = i' := by
  rcases h with ⟨a, b⟩ | ⟨a, b⟩ <;> rcases h' with ⟨c, d⟩ | ⟨c, d⟩
  · omega
  · rw [a, nI_eq (by omega) (by omega)] at d
    omega
  · rw [c, nI_eq (by omega) (by omega)] at b
    omega
  · rw [b, nI_eq (by omega) (by omega)] at d
    omega
/-- what an hour's number says does not hang on which reading of the newest TOWN was taken: both have the class's -/
theorem x_passl {s : Nat → Int32} {np i : Nat} {cl : List Cl} {f t N0 : Nat} (hN : N0 ≤ 60) (h6 : np ≤ 6) (hI0 : rI s) (h21 : s 21 = nI np) (hd : hdR s cl f t) (hhI : hI s i) (hhr : N (s 0) + N0 ≤ 9999) : ∀ (d k fuel : Nat) (μ : Nat → Nat → Int32) (n : Nat → Nat → Option Nat) (ρ : Nat → Nat → Int32), Rep Kd μ n ρ → tC μ i cl f t → k + d = np → (∀ j, (j < 3 ∨ 3 + k ≤ j) → ρ 1 j = s j) → (∀ p, p < k → ρ 1 (3 + p) = nI (goS (pq s cl p) (shB s p) N0 (N (s 0)) (N (s (3 + p))))) → ∃ μ' n' ρ', b_X11_pass_29 (kC Kd) lC (fuel + d + 1) 0 (nI N0) (nI k) (μ, n) = some (nI (N (s 0) + N0), (μ', n')) ∧ Rep Kd μ' n' ρ' ∧ ρ' 1 0 = nI (N (s 0) + N0) ∧ (∀ p, p < np → ρ' 1 (3 + p) = nI (goS (pq s cl p) (shB s p) N0 (N (s 0)) (N (s (3 + p))))) ∧ (∀ j, j ≠ 0 → (j < 3 ∨ 3 + np ≤ j) → ρ' 1 j = s j) ∧ (∀ r, r ≠ 1 → ρ' r = ρ r) := by
  intro d
  induction d with
  | zero =>
    intro k fuel μ n ρ hR ht hk ho hi
    have hk : k = np := hk
    subst hk
    obtain ⟨np2, i2, cl2, f2, t2, hg, h99⟩ := Rep_gen hR
    obtain ⟨g1, g2, g3, g4, g5, g6, g7, g8, g9, g10⟩ := hg
    obtain ⟨e0, l0⟩ := nn_N (by omega) hI0.1
    refine ⟨wm μ 0 10 (nI (N (s 0) + N0)), n, wm ρ 1 0 (nI (N (s 0) + N0)), ?_, Rep_0 hR (Or.inr (Or.inr ⟨rfl, rfl, nn_mk hhr⟩)), wm_s _ _ _ _, fun p hp => ?_, fun j j0 jo => ?_, fun r hr => wm_r hr⟩
    · rw [b_X11_pass_29]
      unfold k_X11_pass_29
      rw [C_g0, g3.1, ho 21 (by omega), h21, if_pos (Int32.le_refl _), C_g0, C_p0, C_g0, g3.2.2.2.2, ho 0 (by omega), e0, nI_add, ← e0, wm_s]
    · rw [wm_k (by omega)]; exact hi p hp
    · rw [wm_k (by omega)]; exact ho j jo
  | succ d ih =>
    intro k fuel μ n ρ hR ht hk ho hi
    obtain ⟨np2, i2, cl2, f2, t2, hg, h99⟩ := Rep_gen hR
    have hg0 : gen Kd μ n (ρ 1) np i cl f t := by
      obtain ⟨g1, g2, g3, g4, g5, g6, g7, g8, g9, g10⟩ := hg
      have : np2 = np := by
        rw [ho 21 (by omega), h21] at g6
        exact (np_eq g6 h6 g7).symm
      subst this
      refine ⟨g1, g2, g3, g4, g5, g6, g7, hdR_c (fun j hj => ho j (by omega)) hd, ht, ?_⟩
      unfold hI
      rw [ho 22 (by omega)]
      exact hhI
    have hpq : pq (ρ 1) cl k = pq s cl k := pq_c cl k (fun j hj => ho j (by omega))
    obtain ⟨μ1, n1, a1, a2⟩ := k_iceB (N0 := N0) hg0 (show k < np by omega) (by omega) (by omega)
    rw [hpq, shB_c (ho (9 + k) (by omega)), ho 0 (by omega), ho (3 + k) (by omega)] at a1
    have hR1 := Rep_k (kQ_d a2) (⟨rfl, rfl, rfl, rfl, rfl⟩ : rK ρ ρ) hR
    have hlt : goS (pq s cl k) (shB s k) N0 (N (s 0)) (N (s (3 + k))) < 4096 := goS_lt _ _ _ _ _ (N_lt hI0 (by omega))
    have hR2 := Rep_pane hR1 hg0.2.2.2.2.2.1 h6 (show k < np by omega) (Or.inr (Or.inl ⟨rfl, rfl, nn_mk (b := 4095) (Nat.le_of_lt_succ hlt)⟩))
    have hi5 : i < 6 := by rcases hhI with ⟨_, h⟩ | ⟨h, _⟩ <;> omega
    obtain ⟨μ2, n2, ρ2, b1, b2, b3, b4, b5, b6⟩ := ih (k + 1) fuel _ n1 _ hR2 (tC_c (fun r x y => by rw [wm_r (by omega), a2.1 r (Or.inl y)]) hi5 ht) (by omega) (fun j hj => by rw [wm_k (by omega)]; exact ho j (by omega)) (fun p hp => by
      by_cases hpk : p = k
      · subst hpk
        rw [wm_s]
      · rw [wm_k (by omega)]
        exact hi p (by omega))
    refine ⟨μ2, n2, ρ2, ?_, b2, b3, b4, b5, fun r hr => (b6 r hr).trans (wm_r hr)⟩
    rw [show fuel + (d + 1) + 1 = fuel + d + 1 + 1 by omega, b_X11_pass_29]
    unfold k_X11_pass_29
    rw [C_g0, hg0.2.2.1.1, ho 21 (by omega), h21, if_neg (nI_ge (by omega) (by omega)), C_r0 hg0.1.1.1, C_lr1 (by omega) (hg0.2.1 k (by omega)).1, C_c0, a1, fm_bi_s, C_pio, R_let, nI_1]
    exact b1
theorem x_pass (hR : Rep Kd μ n ρ) (a : Int32) : ∃ r μ' n' ρ', m_X11_pass (kC Kd) lC 0 a (μ, n) = some (r, (μ', n')) ∧ m_X12_pass kR lR 0 a (ρ, nR) = some (r, (ρ', nR)) ∧ Rep Kd μ' n' ρ' := by
  obtain ⟨np, i, cl, f, t, hg, h99⟩ := Rep_gen hR
  obtain ⟨g1, g2, g3, g4, g5, g6, g7, g8, g9, g10⟩ := hg
  obtain ⟨e0, l0⟩ := nn_N (by omega) g5.1
  unfold m_X11_pass m_X12_pass
  simp only [k_isWithin, r_in0, fm_b1_s, b2i_if]
  rw [show (60 : Int32) = nI 60 from rfl]
  rcases in_c a (m := 60) (by omega) with hc | ⟨N0, hN, rfl, hc⟩
  · rw [hc]
    exact ⟨_, _, _, _, rfl, rfl, hR⟩
  · rw [hc, if_pos rfl, if_pos rfl, C_g0, g3.2.2.2.2]
    simp only [R_g1, R_s0]
    have hle : (ρ 1 0 + nI N0 ≤ 9999 ↔ N (ρ 1 0) + N0 ≤ 9999) := by
      rw [e0, nI_add, N_nI (by omega)]
      exact nI_leI (b := 9999) (by omega) (by omega)
    by_cases hx : N (ρ 1 0) + N0 ≤ 9999
    · rw [if_pos (hle.2 hx), if_pos (hle.2 hx), R_let, R_ck]
      obtain ⟨μ1, n1, ρ1, b1, b2, b3, b4, b5, b6⟩ := x_passl (Kd := Kd) hN g7 g5 g6 g8 g10 hx np 0 (999 - np) μ n ρ hR g9 (by omega) (fun _ _ => rfl) (fun p hp => absurd hp (by omega))
      obtain ⟨ρ2, c1, c2, c3, c4, c5⟩ := r_goesOn (n := N0) g5 g8 g6 g7 (by omega) (by omega)
      have hs : ρ2 1 = ρ1 1 := by
        funext j
        by_cases h0 : j = 0
        · subst h0
          rw [c3, b3]
        · by_cases h3 : j < 3 ∨ 3 + np ≤ j
          · rw [c5 j h0 h3, b5 j h0 h3]
          · obtain ⟨p, rfl⟩ : ∃ p, j = 3 + p := ⟨j - 3, by omega⟩
            rw [c4 p (by omega), b4 p (by omega)]
      refine ⟨nI (N (ρ 1 0) + N0), μ1, n1, ρ2, ?_, by rw [c1, fm_b1_s]; simp only [R_g1, R_s0]; rw [c3], Rep_k ⟨fun _ _ _ _ _ => rfl, fun _ _ _ _ => rfl⟩ ⟨hs, ?_, ?_, ?_, ?_⟩ b2⟩
      · rw [show fm_LF = 999 - np + np + 1 by unfold fm_LF; omega]
        exact b1
      · rw [c2 2 (by omega) (by omega) (by omega), b6 2 (by omega)]
      · rw [c2 9 (by omega) (by omega) (by omega), b6 9 (by omega)]
      · rw [c2 0 (by omega) (by omega) (by omega), b6 0 (by omega)]
      · rw [c2 0 (by omega) (by omega) (by omega), b6 0 (by omega)]
    · rw [if_neg (fun a => hx (hle.1 a)), if_neg (fun a => hx (hle.1 a))]
      exact ⟨_, _, _, _, rfl, rfl, hR⟩
end X
