/-! methods, both sides: done, the reference row by row -/
def hx (s : Nat → Int32) (h0 : Nat) : Nat → Nat
  | 0 => h0
  | x + 1 => if N (s (79 + x)) = 0 then hx s h0 x + 1 else hx s h0 x
theorem hx_le (s : Nat → Int32) (h0 : Nat) : ∀ x, hx s h0 x ≤ h0 + x
  | 0 => Nat.le_refl _
  | x + 1 => by
    have h := hx_le s h0 x
    unfold hx
    split <;> omega
theorem hx_s (s : Nat → Int32) (h0 x : Nat) : hx s h0 (x + 1) = if N (s (79 + x)) = 0 then hx s h0 x + 1 else hx s h0 x := rfl
theorem Zp_h {s : Nat → Int32} {cl : List Cl} {f t p : Nat} : ∀ x, (Zp s cl f t p x).1 = hx s (N (s 0)) x
  | 0 => rfl
  | x + 1 => by
    have h := Zp_h (s := s) (cl := cl) (f := f) (t := t) (p := p) x
    show (S1 (pq s cl p) f t (N (s (79 + x))) (decide (s (87 + x) = nI p)) (Zp s cl f t p x)).1 = (if N (s (79 + x)) = 0 then hx s (N (s 0)) x + 1 else hx s (N (s 0)) x)
    unfold S1
    by_cases h0 : N (s (79 + x)) = 0
    · rw [if_pos h0, if_pos h0, ← h]
    · rw [if_neg h0, if_neg h0, ← h]
      split
      · split <;> rfl
      · rfl
def rD (s : Nat → Int32) (np : Nat) (cl : List Cl) (f t x : Nat) (ρ : Nat → Nat → Int32) : Prop := (∀ y, y ≠ 0 → y ≠ 2 → ¬ (3 ≤ y ∧ y < 3 + np) → ¬ (9 ≤ y ∧ y < 9 + np) → ρ 1 y = s y) ∧ ρ 1 0 = nI (hx s (N (s 0)) x) ∧ ρ 1 2 = s 2 + nI (sumN (fun p => (Zp s cl f t p x).2.2.2) np) ∧ ∀ p, p < np → ρ 1 (3 + p) = nI (Zp s cl f t p x).2.1 ∧ ρ 1 (9 + p) = b2i (Zp s cl f t p x).2.2.1
theorem nn_b (b : Bool) : nn (b2i b) 1 := by
  cases b
  · exact ⟨0, by omega, rfl⟩
  · exact ⟨1, by omega, rfl⟩
theorem rD_I {s : Nat → Int32} {np : Nat} {cl : List Cl} {f t x : Nat} {ρ : Nat → Nat → Int32} (hI : rI s) (h99 : N (s 0) ≤ 9999) (hx8 : x ≤ 8) (h6 : np ≤ 6) (h : rD s np cl f t x ρ) : rI (ρ 1) := by
  obtain ⟨a, b, c, d⟩ := h
  obtain ⟨i0, i1, i21, iP⟩ := hI
  have hle := hx_le s (N (s 0)) x
  refine ⟨by rw [b]; exact nn_mk (by omega), by rw [a 1 (by omega) (by omega) (by omega) (by omega)]; exact i1, by rw [a 21 (by omega) (by omega) (by omega) (by omega)]; exact i21, fun p hp => ?_⟩
  obtain ⟨j3, j9, j15, j28, j34, j40⟩ := iP p hp
  refine ⟨?_, ?_, by rw [a (15 + p) (by omega) (by omega) (by omega) (by omega)]; exact j15, by rw [a (28 + p) (by omega) (by omega) (by omega) (by omega)]; exact j28, by rw [a (34 + p) (by omega) (by omega) (by omega) (by omega)]; exact j34, fun i hi => by rw [a (40 + 4 * p + i) (by omega) (by omega) (by omega) (by omega)]; exact j40 i hi⟩
  · by_cases hpn : p < np
    · rw [(d p hpn).1]
      have hz := (Sx_b (q := pq s cl p) (f := f) (t := t) (A := fun x => N (s (79 + x))) (M := fun x => decide (s (87 + x) = nI p)) (z := (N (s 0), N (s (3 + p)), shB s p, 0)) (N_lt ⟨i0, i1, i21, iP⟩ hp) x).2
      exact nn_mk (b := 4095) (Nat.le_of_lt_succ hz)
    · rw [a (3 + p) (by omega) (by omega) (by omega) (by omega)]; exact j3
  · by_cases hpn : p < np
    · rw [(d p hpn).2]
      exact nn_b _
    · rw [a (9 + p) (by omega) (by omega) (by omega) (by omega)]; exact j9
theorem shB_b {s : Nat → Int32} {p : Nat} {b : Bool} (h : s (9 + p) = b2i b) : shB s p = b := by
  unfold shB
  rw [h]
  cases b <;> rfl
theorem Zp_s (s : Nat → Int32) (cl : List Cl) (f t p x : Nat) : Zp s cl f t p (x + 1) = S1 (pq s cl p) f t (N (s (79 + x))) (decide (s (87 + x) = nI p)) (Zp s cl f t p x) := rfl
theorem r_by {s : Nat → Int32} {np : Nat} {cl : List Cl} {f t x : Nat} {ρ : Nat → Nat → Int32} (hI : rI s) (hd : hdR s cl f t) (h21 : s 21 = nI np) (h6 : np ≤ 6) (h99 : N (s 0) ≤ 9999) (hx8 : x < 8) (hA : nn (s (79 + x)) 3) (hP : s (79 + x) ≠ 0 → ∃ j, j < np ∧ s (87 + x) = nI j) (h : rD s np cl f t x ρ) : ∃ ρ', m_X12_goesBy kR lR 0 (s (79 + x)) (s (87 + x)) (ρ, nR) = some (ρ', nR) ∧ rS ρ ρ' ∧ rD s np cl f t (x + 1) ρ' := by
  have hI1 := rD_I hI h99 (by omega) h6 h
  obtain ⟨a, b, c, d⟩ := h
  have hle := hx_le s (N (s 0)) x
  have hd1 : hdR (ρ 1) cl f t := hdR_g (a 27 (by omega) (by omega) (by omega) (by omega)) (fun y hy => a y (by omega) (by omega) (by omega) (by omega)) hd
  have h211 : ρ 1 21 = nI np := (a 21 (by omega) (by omega) (by omega) (by omega)).trans h21
  have hlt : ∀ p, p < np → (Zp s cl f t p x).2.1 < 4096 := fun p hp => (Sx_b (q := pq s cl p) (f := f) (t := t) (A := fun x => N (s (79 + x))) (M := fun x => decide (s (87 + x) = nI p)) (z := (N (s 0), N (s (3 + p)), shB s p, 0)) (N_lt hI (by omega)) x).2
  obtain ⟨eA, lA⟩ := nn_N (by omega) hA
  unfold m_X12_goesBy
  by_cases h0 : s (79 + x) = 0
  · have hN0 : N (s (79 + x)) = 0 := by rw [h0]; rfl
    rw [if_pos h0, R_ck]
    obtain ⟨ρ', y1, y2, y3, y4, y5⟩ := r_goes hI1 hd1 h211 h6 (by rw [b, N_nI (by omega)]; omega)
    refine ⟨ρ', by rw [y1, fm_b1_s], y2, fun y k0 k2 k3 k9 => ?_, ?_, ?_, fun p hp => ?_⟩
    · rw [y5 y k0 (by omega)]
      exact a y k0 k2 k3 k9
    · rw [y3, b, N_nI (by omega), hx_s, if_pos hN0]
    · rw [y5 2 (by omega) (by omega), c]
      congr 2
      exact (sumN_c np (fun p hp => by
        rw [Zp_s]
        unfold S1
        rw [if_pos hN0])).symm
    · rw [y4 p hp, y5 (9 + p) (by omega) (by omega), (d p hp).2, Zp_s]
      unfold S1 frz
      rw [if_pos hN0, pq_c cl p (fun j hj => a j (by omega) (by omega) (by omega) (by omega)), shB_b (d p hp).2, b, N_nI (by omega), (d p hp).1, N_nI (Nat.lt_trans (hlt p hp) (by omega)), Zp_h]
      exact ⟨rfl, rfl⟩
  · have hN0 : ¬ N (s (79 + x)) = 0 := fun h => h0 (by rw [eA, h]; rfl)
    obtain ⟨j, hj, ej⟩ := hP h0
    have hM : ∀ p, p < np → (decide (s (87 + x) = nI p) = true ↔ p = j) := fun p hp => by
      rw [decide_eq_true_iff, ej, nI_eq (by omega) (by omega)]
      exact ⟨fun h => h.symm, fun h => h.symm⟩
    have hZn : ∀ p, p < np → p ≠ j → Zp s cl f t p (x + 1) = Zp s cl f t p x := fun p hp hpj => by
      rw [Zp_s]
      unfold S1
      rw [if_neg hN0, if_neg (fun h => hpj ((hM p hp).1 h))]
    have hZj : Zp s cl f t j (x + 1) = (if N (s (79 + x)) = 1 then ((Zp s cl f t j x).1, 0, (Zp s cl f t j x).2.2.1, (Zp s cl f t j x).2.2.2 + offN f t (Zp s cl f t j x).2.1) else ((Zp s cl f t j x).1, (Zp s cl f t j x).2.1, decide (N (s (79 + x)) = 2), (Zp s cl f t j x).2.2.2)) := by
      rw [Zp_s]
      unfold S1
      rw [if_neg hN0, if_pos ((hM j hj).2 rfl)]
    have h1 : (s (79 + x) = 1 ↔ N (s (79 + x)) = 1) := by
      rw [eA, show (1 : Int32) = nI 1 from rfl, nI_eq (by omega) (by omega), N_nI (by omega)]
    have h2 : (s (79 + x) = 2 ↔ N (s (79 + x)) = 2) := by
      rw [eA, show (2 : Int32) = nI 2 from rfl, nI_eq (by omega) (by omega), N_nI (by omega)]
    rw [if_neg h0, ej]
    by_cases hk1 : N (s (79 + x)) = 1
    · rw [if_pos hk1] at hZj
      rw [if_pos (h1.2 hk1)]
      have ho := r_offer hI1 hd1 (show j < 6 by omega)
      rw [(d j hj).1, N_nI (Nat.lt_trans (hlt j hj) (by omega))] at ho
      refine ⟨wm (wm ρ 1 2 (ρ 1 2 + nI (offN f t (Zp s cl f t j x).2.1))) 1 (3 + j) 0, ?_, fun r r1 _ _ => by rw [wm_r r1, wm_r r1], fun y k0 k2 k3 k9 => ?_, ?_, ?_, fun p hp => ?_⟩
      · unfold m_X12_breathes
        rw [R_ck, R_ck, ho, fm_b1_s, R_g1, R_s2, R_w2, R_g1, L_3, R_ws (by omega), fm_bi_s]
      · rw [wm_k (by omega), wm_k k2]
        exact a y k0 k2 k3 k9
      · rw [wm_k (by omega), wm_k (by omega), b, hx_s, if_neg hN0]
      · rw [wm_k (by omega), wm_s, c, Int32.add_assoc, nI_add]
        congr 2
        exact (sumN_a np hj (fun p hp hpj => by rw [hZn p hp hpj]) (by rw [hZj])).symm
      · by_cases hpj : p = j
        · subst hpj
          rw [wm_s, hZj, wm_k (by omega), wm_k (by omega)]
          exact ⟨rfl, (d p hp).2⟩
        · rw [wm_k (by omega), wm_k (by omega), wm_k (by omega), wm_k (by omega), hZn p hp hpj]
          exact d p hp
    · rw [if_neg hk1] at hZj
      have hfin : ∀ sh : Bool, decide (N (s (79 + x)) = 2) = sh → rD s np cl f t (x + 1) (wm ρ 1 (9 + j) (b2i sh)) := by
        intro sh hs
        refine ⟨fun y k0 k2 k3 k9 => ?_, ?_, ?_, fun p hp => ?_⟩
        · rw [wm_k (by omega)]
          exact a y k0 k2 k3 k9
        · rw [wm_k (by omega), b, hx_s, if_neg hN0]
        · rw [wm_k (by omega), c]
          congr 2
          exact (sumN_c np (fun p hp => by
            by_cases hpj : p = j
            · subst hpj
              rw [hZj]
            · rw [hZn p hp hpj])).symm
        · by_cases hpj : p = j
          · subst hpj
            rw [wm_s, hZj, wm_k (by omega), hs]
            exact ⟨(d p hp).1, rfl⟩
          · rw [wm_k (by omega), wm_k (by omega), hZn p hp hpj]
            exact d p hp
      rw [if_neg (fun h => hk1 (h1.1 h)), R_g1]
      by_cases hk2 : N (s (79 + x)) = 2
      · rw [if_pos (h2.2 hk2), L_9, R_ws (by omega)]
        exact ⟨_, rfl, fun r r1 _ _ => wm_r r1, hfin true (decide_eq_true hk2)⟩
      · rw [if_neg (fun h => hk2 (h2.1 h)), L_9, R_ws (by omega)]
        exact ⟨_, rfl, fun r r1 _ _ => wm_r r1, hfin false (decide_eq_false hk2)⟩
