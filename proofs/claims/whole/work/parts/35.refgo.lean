/-! the reference: hours go, of one, of all; its frame; offers -/
theorem upd_s (f : Nat → Int32) (k : Nat) (x : Int32) : upd f k x k = x := pk_us
theorem upd_n {f : Nat → Int32} {k j : Nat} {x : Int32} (h : j ≠ k) : upd f k x j = f j := pk_un h
theorem goS_add (q : Pn) (sh : Bool) (n h ice : Nat) : goS q sh n (h + 1) (goS q sh 1 h ice) = goS q sh (n + 1) h ice := by
  unfold goS
  cases sh
  · rfl
  · rfl
theorem goS_z (q : Pn) (sh : Bool) (h ice : Nat) : goS q sh 0 h ice = ice := by
  unfold goS
  cases sh <;> rfl
theorem nn_of {x : Int32} {n b : Nat} (h : x = nI n) (hb : n ≤ b) : nn x b := ⟨n, hb, h⟩
theorem shB_c {s s' : Nat → Int32} {p : Nat} (h : s' (9 + p) = s (9 + p)) : shB s' p = shB s p := by
  unfold shB
  rw [h]
theorem r_fon {p : Nat} {cl : List Cl} {f t : Nat} (hp : p < 6) : ∀ (d n k fuel : Nat) (μ : Nat → Nat → Int32), rI (μ 1) → hdR (μ 1) cl f t → k + d = n → n < 1000 → N (μ 1 0) + d ≤ 20000 → ∃ μ', b_X12_freezesOn_2 kR lR (fuel + d + 1) 0 (nI p) (nI n) (nI k) (μ, nR) = some (μ', nR) ∧ rS μ μ' ∧ μ' 1 0 = nI (N (μ 1 0) + d) ∧ μ' 1 (3 + p) = nI (goS (pq (μ 1) cl p) (shB (μ 1) p) d (N (μ 1 0)) (N (μ 1 (3 + p)))) ∧ ∀ j, j ≠ 0 → j ≠ 3 + p → μ' 1 j = μ 1 j := by
  intro d
  induction d with
  | zero =>
    intro n k fuel μ hI hd hk hn hh
    refine ⟨μ, ?_, rS_r μ, (nn_N (by omega) hI.1).1, ?_, fun _ _ _ => rfl⟩
    · rw [b_X12_freezesOn_2]
      unfold k_X12_freezesOn_2
      rw [if_pos (nI_le (by omega) (by omega))]
    · rw [goS_z]
      exact (nn_N (by omega) (hI.2.2.2 p hp).1).1
  | succ d ih =>
    intro n k fuel μ hI hd hk hn hh
    obtain ⟨μ2, a1, a2, a3⟩ := r_freezes hI hd hp
    obtain ⟨e0, l0⟩ := nn_N (by omega) hI.1
    have h20 : μ2 1 0 = nI (N (μ 1 0)) := by rw [a3, upd_n (by omega)]; exact e0
    obtain ⟨μ3, h3⟩ : ∃ μ3, μ3 = wm μ2 1 0 (nI (N (μ 1 0) + 1)) := ⟨_, rfl⟩
    have h30 : μ3 1 0 = nI (N (μ 1 0) + 1) := by rw [h3, wm_s]
    have h33 : μ3 1 (3 + p) = nI (frz (μ 1) cl p) := by rw [h3, wm_k (by omega), a3, upd_s]
    have h3o : ∀ j, j ≠ 0 → j ≠ 3 + p → μ3 1 j = μ 1 j := fun j j0 j3 => by rw [h3, wm_k j0, a3, upd_n j3]
    have hI3 : rI (μ3 1) := rI_c hI (nn_of h30 (by omega)) (fun p' hp' => by
      by_cases hpp : p' = p
      · subst hpp
        exact nn_of h33 (Nat.le_of_lt_succ (frz_lt hI cl hp))
      · rw [h3o _ (by omega) (by omega)]
        exact (hI.2.2.2 p' hp').1) (fun j j0 j3 => h3o j j0 (by omega))
    obtain ⟨μ4, c1, c2, c3, c4, c5⟩ := ih n (k + 1) fuel μ3 hI3 (hdR_c (fun j hj => h3o j (by omega) (by omega)) hd) (by omega) hn (by rw [h30, N_nI (by omega)]; omega)
    rw [h30, N_nI (by omega)] at c3 c4
    have hS : rS μ μ3 := rS_t a2 (by rw [h3]; exact rS_w _ _ _)
    refine ⟨μ4, ?_, rS_t hS c2, by rw [c3]; congr 1; omega, ?_, fun j j0 j3 => (c5 j j0 j3).trans (h3o j j0 j3)⟩
    · rw [show fuel + (d + 1) + 1 = fuel + d + 1 + 1 by omega, b_X12_freezesOn_2]
      unfold k_X12_freezesOn_2
      rw [if_neg (nI_ge (by omega) (by omega))]
      revert c1
      generalize b_X12_freezesOn_2 kR lR (fuel + d + 1) = go
      intro c1
      simp only [R_ck, a1, fm_b1_s, R_g1, R_s0, R_w0, R_let]
      rw [h20, nI_1, nI_1, ← h3]
      exact c1
    · rw [c4, h33, N_nI (Nat.lt_trans (frz_lt hI cl hp) (by omega)), pq_c cl p (fun j hj => h3o j (by omega) (by omega)), shB_c (h3o (9 + p) (by omega) (by omega))]
      unfold frz
      rw [goS_add]
theorem r_freezesOn {μ : Nat → Nat → Int32} {p n : Nat} {cl : List Cl} {f t : Nat} (hI : rI (μ 1)) (hd : hdR (μ 1) cl f t) (hp : p < 6) (hn : n < 200) (hh : N (μ 1 0) ≤ 15000) : ∃ μ', m_X12_freezesOn kR lR 0 (nI p) (nI n) (μ, nR) = some (μ', nR) ∧ rS μ μ' ∧ μ' 1 0 = nI (N (μ 1 0) + n) ∧ μ' 1 (3 + p) = nI (goS (pq (μ 1) cl p) (shB (μ 1) p) n (N (μ 1 0)) (N (μ 1 (3 + p)))) ∧ ∀ j, j ≠ 0 → j ≠ 3 + p → μ' 1 j = μ 1 j := by
  obtain ⟨μ', h1, h2⟩ := r_fon hp n n 0 (999 - n) μ hI hd (by omega) (by omega) (by omega)
  refine ⟨μ', ?_, h2⟩
  unfold m_X12_freezesOn
  simp only [R_let]
  rw [show fm_LF = 999 - n + n + 1 by unfold fm_LF; omega]
  exact h1
/-- all go an hour -/
theorem r_gl {cl : List Cl} {f t np : Nat} (hn : np ≤ 6) : ∀ (d k fuel : Nat) (μ : Nat → Nat → Int32), rI (μ 1) → hdR (μ 1) cl f t → μ 1 21 = nI np → k + d = np → N (μ 1 0) + 1 ≤ 20000 → ∃ μ', b_X12_goes_2 kR lR (fuel + d + 1) 0 (nI k) (μ, nR) = some (μ', nR) ∧ rS μ μ' ∧ μ' 1 0 = nI (N (μ 1 0) + 1) ∧ (∀ p, k ≤ p → p < np → μ' 1 (3 + p) = nI (frz (μ 1) cl p)) ∧ ∀ j, j ≠ 0 → (j < 3 + k ∨ 3 + np ≤ j) → μ' 1 j = μ 1 j := by
  intro d
  induction d with
  | zero =>
    intro k fuel μ hI hd h21 hk hh
    obtain ⟨e0, l0⟩ := nn_N (by omega) hI.1
    refine ⟨wm μ 1 0 (nI (N (μ 1 0) + 1)), ?_, rS_w _ _ _, wm_s _ _ _ _, fun p h1 h2 => absurd h2 (by omega), fun j j0 _ => wm_k j0⟩
    rw [b_X12_goes_2]
    unfold k_X12_goes_2
    simp only [R_g1, R_s21, R_s0, R_w0]
    rw [h21, if_pos (nI_le (by omega) (by omega)), e0, nI_1, ← e0]
  | succ d ih =>
    intro k fuel μ hI hd h21 hk hh
    obtain ⟨μ2, a1, a2, a3⟩ := r_freezes (p := k) hI hd (by omega)
    have ho : ∀ j, j ≠ 3 + k → μ2 1 j = μ 1 j := fun j hj => by rw [a3, upd_n hj]
    have hI2 : rI (μ2 1) := rI_c hI (by rw [ho 0 (by omega)]; exact hI.1) (fun p' hp' => by
      by_cases hpp : p' = k
      · subst hpp
        exact nn_of (by rw [a3, upd_s]) (Nat.le_of_lt_succ (frz_lt hI cl hp'))
      · rw [ho _ (by omega)]
        exact (hI.2.2.2 p' hp').1) (fun j j0 j3 => ho j (by omega))
    obtain ⟨μ4, c1, c2, c3, c4, c5⟩ := ih (k + 1) fuel μ2 hI2 (hdR_c (fun j hj => ho j (by omega)) hd) (by rw [ho 21 (by omega)]; exact h21) (by omega) (by rw [ho 0 (by omega)]; exact hh)
    rw [ho 0 (by omega)] at c3
    refine ⟨μ4, ?_, rS_t a2 c2, c3, fun p h1 h2 => ?_, fun j j0 j3 => (c5 j j0 (by omega)).trans (ho j (by omega))⟩
    · rw [show fuel + (d + 1) + 1 = fuel + d + 1 + 1 by omega, b_X12_goes_2]
      unfold k_X12_goes_2
      revert c1
      generalize b_X12_goes_2 kR lR (fuel + d + 1) = go
      intro c1
      simp only [R_g1, R_s21, R_ck, a1, fm_b1_s, R_let]
      rw [h21, if_neg (nI_ge (by omega) (by omega)), nI_1]
      exact c1
    · by_cases hpp : p = k
      · subst hpp
        rw [c5 _ (by omega) (by omega), a3, upd_s]
      · rw [c4 p (by omega) h2]
        unfold frz
        rw [pq_c cl p (fun j hj => ho j (by omega)), shB_c (ho (9 + p) (by omega)), ho 0 (by omega), ho (3 + p) (by omega)]
theorem r_goes {μ : Nat → Nat → Int32} {np : Nat} {cl : List Cl} {f t : Nat} (hI : rI (μ 1)) (hd : hdR (μ 1) cl f t) (h21 : μ 1 21 = nI np) (hn : np ≤ 6) (hh : N (μ 1 0) + 1 ≤ 20000) : ∃ μ', m_X12_goes kR lR 0 (μ, nR) = some (μ', nR) ∧ rS μ μ' ∧ μ' 1 0 = nI (N (μ 1 0) + 1) ∧ (∀ p, p < np → μ' 1 (3 + p) = nI (frz (μ 1) cl p)) ∧ ∀ j, j ≠ 0 → (j < 3 ∨ 3 + np ≤ j) → μ' 1 j = μ 1 j := by
  obtain ⟨μ', h1, h2, h3, h4, h5⟩ := r_gl hn np 0 (999 - np) μ hI hd h21 (by omega) hh
  refine ⟨μ', ?_, h2, h3, fun p => h4 p (Nat.zero_le _), h5⟩
  unfold m_X12_goes
  simp only [R_let]
  rw [show fm_LF = 999 - np + np + 1 by unfold fm_LF; omega]
  exact h1
theorem rI_g {s s' : Nat → Int32} {np : Nat} {cl : List Cl} (hI : rI s) {n : Nat} (h0 : s' 0 = nI n) (hn : n ≤ 20000) (h4 : ∀ p, p < np → ∃ m, m < 4096 ∧ s' (3 + p) = nI m) (hnp : np ≤ 6) (h5 : ∀ j, j ≠ 0 → (j < 3 ∨ 3 + np ≤ j) → s' j = s j) : rI s' := rI_c hI (nn_of h0 hn) (fun p hp => by
  by_cases hpp : p < np
  · obtain ⟨m, m1, m2⟩ := h4 p hpp
    exact nn_of m2 (by omega)
  · rw [h5 _ (by omega) (by omega)]
    exact (hI.2.2.2 p hp).1) (fun j j0 j3 => h5 j j0 (by omega))
theorem r_gon {cl : List Cl} {f t np : Nat} (hnp : np ≤ 6) : ∀ (d n k fuel : Nat) (μ : Nat → Nat → Int32), rI (μ 1) → hdR (μ 1) cl f t → μ 1 21 = nI np → k + d = n → n < 1000 → N (μ 1 0) + d ≤ 20000 → ∃ μ', b_X12_goesOn_2 kR lR (fuel + d + 1) 0 (nI n) (nI k) (μ, nR) = some (μ', nR) ∧ rS μ μ' ∧ μ' 1 0 = nI (N (μ 1 0) + d) ∧ (∀ p, p < np → μ' 1 (3 + p) = nI (goS (pq (μ 1) cl p) (shB (μ 1) p) d (N (μ 1 0)) (N (μ 1 (3 + p))))) ∧ ∀ j, j ≠ 0 → (j < 3 ∨ 3 + np ≤ j) → μ' 1 j = μ 1 j := by
  intro d
  induction d with
  | zero =>
    intro n k fuel μ hI hd h21 hk hn hh
    refine ⟨μ, ?_, rS_r μ, (nn_N (by omega) hI.1).1, fun p hp => ?_, fun _ _ _ => rfl⟩
    · rw [b_X12_goesOn_2]
      unfold k_X12_goesOn_2
      rw [if_pos (nI_le (by omega) (by omega))]
    · rw [goS_z]
      exact (nn_N (by omega) (hI.2.2.2 p (by omega)).1).1
  | succ d ih =>
    intro n k fuel μ hI hd h21 hk hn hh
    obtain ⟨μ3, a1, a2, a3, a4, a5⟩ := r_goes hI hd h21 hnp (by omega)
    have hI3 : rI (μ3 1) := rI_g (np := np) (cl := cl) hI a3 (by omega) (fun p hp => ⟨_, frz_lt hI cl (by omega), a4 p hp⟩) hnp a5
    obtain ⟨μ4, c1, c2, c3, c4, c5⟩ := ih n (k + 1) fuel μ3 hI3 (hdR_c (fun j hj => a5 j (by omega) (by omega)) hd) (by rw [a5 21 (by omega) (by omega)]; exact h21) (by omega) hn (by rw [a3, N_nI (by omega)]; omega)
    rw [a3, N_nI (by omega)] at c3
    refine ⟨μ4, ?_, rS_t a2 c2, by rw [c3]; congr 1; omega, fun p hp => ?_, fun j j0 j3 => (c5 j j0 j3).trans (a5 j j0 j3)⟩
    · rw [show fuel + (d + 1) + 1 = fuel + d + 1 + 1 by omega, b_X12_goesOn_2]
      unfold k_X12_goesOn_2
      rw [if_neg (nI_ge (by omega) (by omega))]
      revert c1
      generalize b_X12_goesOn_2 kR lR (fuel + d + 1) = go
      intro c1
      simp only [R_ck, a1, fm_b1_s, R_let]
      rw [nI_1]
      exact c1
    · rw [c4 p hp, a4 p hp, a3, N_nI (Nat.lt_trans (frz_lt hI cl (by omega)) (by omega)), N_nI (by omega), pq_c cl p (fun j hj => a5 j (by omega) (by omega)), shB_c (a5 (9 + p) (by omega) (by omega))]
      unfold frz
      rw [goS_add]
theorem r_goesOn {μ : Nat → Nat → Int32} {n np : Nat} {cl : List Cl} {f t : Nat} (hI : rI (μ 1)) (hd : hdR (μ 1) cl f t) (h21 : μ 1 21 = nI np) (hnp : np ≤ 6) (hn : n < 200) (hh : N (μ 1 0) ≤ 15000) : ∃ μ', m_X12_goesOn kR lR 0 (nI n) (μ, nR) = some (μ', nR) ∧ rS μ μ' ∧ μ' 1 0 = nI (N (μ 1 0) + n) ∧ (∀ p, p < np → μ' 1 (3 + p) = nI (goS (pq (μ 1) cl p) (shB (μ 1) p) n (N (μ 1 0)) (N (μ 1 (3 + p))))) ∧ ∀ j, j ≠ 0 → (j < 3 ∨ 3 + np ≤ j) → μ' 1 j = μ 1 j := by
  obtain ⟨μ', h1, h2⟩ := r_gon hnp n n 0 (999 - n) μ hI hd h21 (by omega) (by omega) (by omega)
  refine ⟨μ', ?_, h2⟩
  unfold m_X12_goesOn
  simp only [R_let]
  rw [show fm_LF = 999 - n + n + 1 by unfold fm_LF; omega]
  exact h1
/-! the frame -/
theorem r_kl : ∀ (d k fuel : Nat) (μ : Nat → Nat → Int32), k + d = 21 → ∃ μ', b_X12_keeps_2 kR lR (fuel + d + 1) 0 (nI k) (μ, nR) = some (μ', nR) ∧ (∀ r, r ≠ 3 → μ' r = μ r) ∧ ∀ j, (j < k → μ' 3 j = μ 3 j) ∧ (k ≤ j → j < 21 → μ' 3 j = μ 1 j) := by
  intro d
  induction d with
  | zero =>
    intro k fuel μ hk
    refine ⟨μ, ?_, fun _ _ => rfl, fun j => ⟨fun _ => rfl, fun h1 h2 => absurd h2 (by omega)⟩⟩
    rw [b_X12_keeps_2]
    unfold k_X12_keeps_2
    rw [if_pos (show (21 : Int32) ≤ nI k from nI_le (a := 21) (by omega) (by omega))]
  | succ d ih =>
    intro k fuel μ hk
    obtain ⟨μ4, c1, c2, c3⟩ := ih (k + 1) fuel (wm μ 3 k (μ 1 k)) (by omega)
    refine ⟨μ4, ?_, fun r hr => (c2 r hr).trans (wm_r hr), fun j => ⟨fun h => ((c3 j).1 (by omega)).trans (wm_k (by omega)), fun h1 h2 => ?_⟩⟩
    · rw [show fuel + (d + 1) + 1 = fuel + d + 1 + 1 by omega, b_X12_keeps_2]
      unfold k_X12_keeps_2
      rw [if_neg (show ¬ (21 : Int32) ≤ nI k from nI_ge (b := 21) (by omega) (by omega))]
      revert c1
      generalize b_X12_keeps_2 kR lR (fuel + d + 1) = go
      intro c1
      simp (disch := omega) only [R_g1, R_g3, R_s, R_let]
      rw [R_st (r := 3) rfl (show k < lR 3 by show k < 21; omega) (by decide), nI_1]
      exact c1
    · by_cases hj : j = k
      · subst hj
        rw [(c3 j).1 (by omega), wm_s]
      · rw [(c3 j).2 (by omega) h2, wm_r (by decide)]
theorem r_keeps (μ : Nat → Nat → Int32) : ∃ μ', m_X12_keeps kR lR 0 (μ, nR) = some (μ', nR) ∧ (∀ r, r ≠ 3 → μ' r = μ r) ∧ ∀ j, j < 21 → μ' 3 j = μ 1 j := by
  obtain ⟨μ', h1, h2, h3⟩ := r_kl 21 0 978 μ (by omega)
  refine ⟨μ', ?_, h2, fun j hj => (h3 j).2 (by omega) hj⟩
  unfold m_X12_keeps
  simp only [R_let]
  exact h1
theorem r_bl : ∀ (d k fuel : Nat) (μ : Nat → Nat → Int32), k + d = 21 → ∃ μ', b_X12_goesBack_2 kR lR (fuel + d + 1) 0 (nI k) (μ, nR) = some (μ', nR) ∧ (∀ r, r ≠ 1 → μ' r = μ r) ∧ ∀ j, ((j < k ∨ 21 ≤ j) → μ' 1 j = μ 1 j) ∧ (k ≤ j → j < 21 → μ' 1 j = μ 3 j) := by
  intro d
  induction d with
  | zero =>
    intro k fuel μ hk
    refine ⟨μ, ?_, fun _ _ => rfl, fun j => ⟨fun _ => rfl, fun h1 h2 => absurd h2 (by omega)⟩⟩
    rw [b_X12_goesBack_2]
    unfold k_X12_goesBack_2
    rw [if_pos (show (21 : Int32) ≤ nI k from nI_le (a := 21) (by omega) (by omega))]
  | succ d ih =>
    intro k fuel μ hk
    obtain ⟨μ4, c1, c2, c3⟩ := ih (k + 1) fuel (wm μ 1 k (μ 3 k)) (by omega)
    refine ⟨μ4, ?_, fun r hr => (c2 r hr).trans (wm_r hr), fun j => ⟨fun h => ((c3 j).1 (by omega)).trans (wm_k (by omega)), fun h1 h2 => ?_⟩⟩
    · rw [show fuel + (d + 1) + 1 = fuel + d + 1 + 1 by omega, b_X12_goesBack_2]
      unfold k_X12_goesBack_2
      rw [if_neg (show ¬ (21 : Int32) ≤ nI k from nI_ge (b := 21) (by omega) (by omega))]
      revert c1
      generalize b_X12_goesBack_2 kR lR (fuel + d + 1) = go
      intro c1
      simp (disch := omega) only [R_g1, R_g3, R_ws, R_let]
      rw [R_ld (r := 3) (t := 13) rfl (show k < lR 3 by show k < 21; omega) (by decide), nI_1]
      exact c1
    · by_cases hj : j = k
      · subst hj
        rw [(c3 j).1 (by omega), wm_s]
      · rw [(c3 j).2 (by omega) h2, wm_r (by decide)]
theorem r_goesBack (μ : Nat → Nat → Int32) : ∃ μ', m_X12_goesBack kR lR 0 (μ, nR) = some (μ', nR) ∧ (∀ r, r ≠ 1 → μ' r = μ r) ∧ ∀ j, (21 ≤ j → μ' 1 j = μ 1 j) ∧ (j < 21 → μ' 1 j = μ 3 j) := by
  obtain ⟨μ', h1, h2, h3⟩ := r_bl 21 0 978 μ (by omega)
  refine ⟨μ', ?_, h2, fun j => ⟨fun h => (h3 j).1 (Or.inr h), fun h => (h3 j).2 (by omega) h⟩⟩
  unfold m_X12_goesBack
  simp only [R_let]
  exact h1
