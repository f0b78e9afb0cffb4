/-! methods, both sides: done -/
theorem r_donel {s : Nat → Int32} {np : Nat} {cl : List Cl} {f t k : Nat} {a : Int32} (hI : rI s) (hd : hdR s cl f t) (h21 : s 21 = nI np) (h6 : np ≤ 6) (h99 : N (s 0) ≤ 9999) (hk : k ≤ 8) (h24 : s 24 = nI k) (hrow : ∀ x, x < k → nn (s (79 + x)) 3 ∧ (s (79 + x) ≠ 0 → ∃ j, j < np ∧ s (87 + x) = nI j)) : ∀ (d x fuel : Nat) (ρ : Nat → Nat → Int32), x + d = k → rD s np cl f t x ρ → ∃ ρ2 G, rS ρ ρ2 ∧ rD s np cl f t k ρ2 ∧ b_X12_done_17 kR lR (fuel + d + 1) 0 a (nI x) (ρ, nR) = k_X12_done_17 kR lR G 0 a (nI k) (ρ2, nR) := by
  intro d
  induction d with
  | zero =>
    intro x fuel ρ hx hD
    have hx : x = k := hx
    subst hx
    exact ⟨ρ, _, rS_r _, hD, rfl⟩
  | succ d ih =>
    intro x fuel ρ hx hD
    have hxk : x < k := by omega
    have ha := hD.1
    obtain ⟨ρ1, a1, a2, a3⟩ := r_by hI hd h21 h6 h99 (show x < 8 by omega) (hrow x hxk).1 (hrow x hxk).2 hD
    obtain ⟨ρ2, G, b1, b2, b3⟩ := ih (x + 1) fuel ρ1 (by omega) a3
    refine ⟨ρ2, G, rS_t a2 b1, b2, ?_⟩
    rw [← b3, show fuel + (d + 1) + 1 = fuel + d + 1 + 1 by omega, b_X12_done_17]
    unfold k_X12_done_17
    rw [R_g1, R_s24, ha 24 (by omega) (by omega) (by omega) (by omega), h24, if_neg (nI_ge hxk (by omega)), R_g1, L_79, R_s (by omega), ha (79 + x) (by omega) (by omega) (by omega) (by omega), R_g1, L_87, R_s (by omega), ha (87 + x) (by omega) (by omega) (by omega) (by omega), R_ck, a1, fm_b1_s, R_let, nI_1]
section X
variable {Kd : Nat → Nat} {μ : Nat → Nat → Int32} {n : Nat → Nat → Option Nat} {ρ : Nat → Nat → Int32}
theorem Rep_ql (hR : Rep Kd μ n ρ) {np : Nat} (h : ρ 1 21 = nI np) (h6 : np ≤ 6) : ∃ k, ql μ n (ρ 1) np k := by
  obtain ⟨np2, nt, ⟨h1, _, h3, _, _, w6, h7⟩, _, ⟨_, _, ⟨k, t1, t2, t3, t4⟩, _⟩, ⟨_, _, m0, _⟩, _⟩ := hR
  have := np_eq (w6.symm.trans h) h7 h6
  subst this
  obtain ⟨⟨_, _, _, _, _, _, _, n12, _⟩, _, _, hw, _⟩ := h1
  exact ⟨k, t1, t2, t3, m0, (hw 2 (by omega)).1, n12, t4⟩
theorem x_done (hR : Rep Kd μ n ρ) (a : Int32) : ∃ r μ' n' ρ', m_X11_done (kC Kd) lC 0 a (μ, n) = some (r, (μ', n')) ∧ m_X12_done kR lR 0 a (ρ, nR) = some (r, (ρ', nR)) ∧ Rep Kd μ' n' ρ' := by
  obtain ⟨np, i, cl, f, t, hg, h99⟩ := Rep_gen hR
  obtain ⟨k, hq⟩ := Rep_ql hR hg.2.2.2.2.2.1 hg.2.2.2.2.2.2.1
  have hg0 := hg
  obtain ⟨g1, g2, g3, g4, g5, g6, g7, g8, g9, g10⟩ := hg
  have hq0 := hq
  obtain ⟨hk8, h24, _, _, _, _, hrow⟩ := hq
  unfold m_X11_done m_X12_done
  simp only [R_let, R_ck, k_isWithin, r_in0, fm_b1_s, b2i_if]
  by_cases hd1' : ¬ (decide (0 ≤ a) && decide (a ≤ 1)) = true
  · rw [if_neg hd1', if_neg hd1']
    exact ⟨_, _, _, _, rfl, rfl, hR⟩
  have hd1 := Decidable.of_not_not hd1'
  rw [if_pos hd1, if_pos hd1, C_g0, g3.2.2.2.1]
  obtain ⟨μ1, n1, x1, x2⟩ := k_donel (Kd := Kd) (a := a) (X := ρ 1 2) h99 np 0 (999 - np) μ n (by omega) hg0 hq0
  obtain ⟨ρ1, k1, k2, k3⟩ := r_keeps ρ
  have hr1 : ρ1 1 = ρ 1 := k2 1 (by omega)
  have hD0 : rD (ρ 1) np cl f t 0 ρ1 := by
    refine ⟨fun y _ _ _ _ => by rw [hr1], by rw [hr1]; exact (nn_N (by omega) g5.1).1, ?_, fun p hp => ?_⟩
    · rw [hr1]
      have hz : ∀ m, sumN (fun p => (Zp (ρ 1) cl f t p 0).2.2.2) m = 0 := by
        intro m
        induction m with
        | zero => rfl
        | succ m ih =>
          show sumN (fun p => (Zp (ρ 1) cl f t p 0).2.2.2) m + 0 = 0
          rw [ih]
      rw [hz]
      exact (Int32.add_zero _).symm
    · rw [hr1]
      exact ⟨(nn_N (by omega) (g5.2.2.2 p (by omega)).1).1, shB_e g5 (by omega)⟩
  obtain ⟨ρ2, G, y1, y2, y3⟩ := r_donel (a := a) g5 g8 g6 g7 h99 hk8 h24 (fun x hx => (hrow x hx).2) k 0 (999 - k) ρ1 (by omega) hD0
  obtain ⟨ρ3, z1, z2, z3⟩ := r_back k2 k3 y1 (fun j hj => by rw [hr1]; exact y2.1 j (by omega) (by omega) (by omega) (by omega))
  have hI2 := rD_I g5 h99 hk8 g7 y2
  have hd2 : hdR (ρ2 1) cl f t := hdR_g (y2.1 27 (by omega) (by omega) (by omega) (by omega)) (fun y hy => y2.1 y (by omega) (by omega) (by omega) (by omega)) g8
  have ho := r_offers hI2 hd2 ((y2.1 21 (by omega) (by omega) (by omega) (by omega)).trans g6) g7
  have hs : sumO f t (fun p => N (ρ2 1 (3 + p))) np = sumN (fun p => offN f t (Zp (ρ 1) cl f t p k).2.1) np := by
    rw [sumO_N]
    exact sumN_c np (fun p hp => by
      have hlt : (Zp (ρ 1) cl f t p k).2.1 < 4096 := (Sx_b (q := pq (ρ 1) cl p) (f := f) (t := t) (A := fun x => N (ρ 1 (79 + x))) (M := fun x => decide (ρ 1 (87 + x) = nI p)) (z := (N (ρ 1 0), N (ρ 1 (3 + p)), shB (ρ 1) p, 0)) (N_lt g5 (by omega)) k).2
      rw [(y2.2.2.2 p hp).1, N_nI (Nat.lt_trans hlt (by omega))])
  rw [hs] at ho
  refine ⟨(if a = 0 then ρ 1 2 + nI (sumN (fun p => (Zp (ρ 1) cl f t p k).2.2.2) np) else nI (sumN (fun p => offN f t (Zp (ρ 1) cl f t p k).2.1) np)), μ1, n1, ρ3, ?_, ?_, Rep_k (kQ_d x2) (rK_b z2 z3) hR⟩
  · have e0 : ρ 1 2 + nI 0 = ρ 1 2 := Int32.add_zero _
    rw [← x1, show 999 - np + np + 1 = fm_LF by unfold fm_LF; omega]
    show _ = b_X11_done_20 (kC Kd) lC fm_LF 0 a (ρ 1 2 + nI 0) 0 0 (μ, n)
    rw [e0]
  · rw [k1, fm_b1_s, show (0 : Int32) = nI 0 from rfl, show fm_LF = 999 - k + k + 1 by unfold fm_LF; omega, y3]
    unfold k_X12_done_17
    rw [R_g1, R_s24, y2.1 24 (by omega) (by omega) (by omega) (by omega), h24, if_pos (Int32.le_refl _)]
    by_cases ha : a = 0
    · rw [if_pos ha, if_pos (show a = nI 0 from ha), R_g1, R_s2, R_ck, z1, fm_b1_s, y2.2.2.1]
    · rw [if_neg ha, if_neg (show ¬ a = nI 0 from ha), R_ck, ho, fm_b1_s, R_ck, z1, fm_b1_s]
end X
