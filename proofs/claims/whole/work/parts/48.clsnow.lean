/-! the class: a course from now -/
theorem b2i_if {α : Type} (b : Bool) (x y : α) : (if b2i b = 0 then x else y) = if b = true then y else x := by
  cases b
  · rw [if_pos (show b2i false = 0 from rfl), if_neg (by decide)]
  · rw [if_neg (show ¬ b2i true = 0 by decide), if_pos rfl]
theorem wi_T {x m : Nat} (h : x ≤ m) (hm : m < 2 ^ 31) : (decide (0 ≤ nI x) && decide (nI x ≤ nI m)) = true := by
  rw [decide_eq_true (nI_pos' (by omega)), decide_eq_true (nI_le h hm)]
  rfl
theorem C_lr1 {α : Type} {Kd : Nat → Nat} {μ : Nat → Nat → Int32} {n : Nat → Nat → Option Nat} {j q : Nat} (h : j < 6) (hq : n 1 j = some q) (F : Nat → Option α) : fm_lr (kC Kd) lC 16 1 (nI j) (μ, n) F = F q := C_lr (L := 6) rfl rfl h (by decide) hq F
theorem C_lr2 {α : Type} {Kd : Nat → Nat} {μ : Nat → Nat → Int32} {n : Nat → Nat → Option Nat} {j q : Nat} (h : j < 6) (hq : n 2 j = some q) (F : Nat → Option α) : fm_lr (kC Kd) lC 15 2 (nI j) (μ, n) F = F q := C_lr (L := 6) rfl rfl h (by decide) hq F
theorem C_lr3 {α : Type} {Kd : Nat → Nat} {μ : Nat → Nat → Int32} {n : Nat → Nat → Option Nat} {j q : Nat} (h : j < 5) (hq : n 3 j = some q) (F : Nat → Option α) : fm_lr (kC Kd) lC 17 3 (nI j) (μ, n) F = F q := C_lr (L := 5) rfl rfl h (by decide) hq F
theorem k_held {Kd : Nat → Nat} {μ : Nat → Nat → Int32} {n : Nat → Nat → Option Nat} {s : Nat → Int32} {np i : Nat} {cl : List Cl} {f t : Nat} (hg : gen Kd μ n s np i cl f t) : m_X11_heldTown (kC Kd) lC 0 (μ, n) = some (40 + 5 * i) := by
  obtain ⟨⟨⟨a1, a2, a3, a4, _⟩, b1, _⟩, g2, ⟨_, c5, _⟩, g4, g5, g6, g7, g8, g9, g10⟩ := hg
  unfold m_X11_heldTown
  simp only [C_g0, k_isWithin, fm_b1_s]
  rw [b2i_if, c5]
  rcases g10 with ⟨h1, h2⟩ | ⟨h1, h2⟩
  · rw [h1, if_neg (by decide), C_r0 a3, h2]
  · rw [h2, nI_pred, show (4 : Int32) = nI 4 from rfl, wi_T (by omega) (by omega), if_pos rfl, C_r0 a4, C_lr3 h1 (b1 i h1)]
theorem shB_e {s : Nat → Int32} (hI : rI s) {p : Nat} (hp : p < 6) : s (9 + p) = b2i (shB s p) := by
  obtain ⟨e9, l9⟩ := nn_N (by omega) (hI.2.2.2 p hp).2.1
  have h : N (s (9 + p)) = 0 ∨ N (s (9 + p)) = 1 := by omega
  unfold shB
  rcases h with h | h
  · rw [h, decide_eq_false (fun a => a rfl), e9, h]
    rfl
  · rw [h, decide_eq_true (by omega), e9, h]
    rfl
def pqc (s : Nat → Int32) (cl : List Cl) (p c : Nat) : Pn := (p, N (s (28 + p)), N (s (34 + p)), N (s (15 + p)), c, (fun i => N (s (40 + 4 * p + i))), cl)
theorem pqc_pq (s : Nat → Int32) (cl : List Cl) (p : Nat) : pqc s cl p (N (s 1)) = pq s cl p := rfl
theorem k_from {Kd : Nat → Nat} {μ : Nat → Nat → Int32} {n : Nat → Nat → Option Nat} {s : Nat → Int32} {np i : Nat} {cl : List Cl} {f t j c : Nat} (hg : gen Kd μ n s np i cl f t) (hj : j < np) (hc : c ≤ 20) : ∃ μ' n', m_X11_courseFromNow (kC Kd) lC 0 (nI j) (nI c) (μ, n) = some (103 + 6 * j, (μ', n')) ∧ dQ μ n μ' n' ∧ cI Kd μ' n' j i (pqc s cl j c) (N (s 0)) (N (s (3 + j))) (shB s j) := by
  have hh := k_held hg
  obtain ⟨⟨⟨a1, a2, a3, a4, a5⟩, b1, b2, b3⟩, g2, ⟨c1, c5, c8, c9, c10⟩, g4, g5, g6, g7, g8, g9, g10⟩ := hg
  have hi6 : i < 6 := by rcases g10 with ⟨_, h⟩ | ⟨h, _⟩ <;> omega
  obtain ⟨p1, p2, n9, n10, n11, m0, m8, m9⟩ := g2 j hj
  obtain ⟨q0, q1, q2, q3, q4, q5, q6, q7⟩ := g4 j hj
  obtain ⟨i3, i9, i15, i28, i34, i40⟩ := g5.2.2.2 j (by omega)
  obtain ⟨e0, l0⟩ := nn_N (by omega) g5.1
  obtain ⟨e3, l3⟩ := nn_N (by omega) i3
  obtain ⟨e15, l15⟩ := nn_N (by omega) i15
  obtain ⟨e28, l28⟩ := nn_N (by omega) i28
  obtain ⟨e34, l34⟩ := nn_N (by omega) i34
  have e9 := shB_e g5 (show j < 6 by omega)
  have w0 : wn n (103 + 6 * j) 1 (some (40 + 5 * i)) (103 + 6 * j) 0 = some (100 + 6 * j) := by rw [wn_r (by omega)]; exact m0
  have hx : s (9 + j) = 0 ∨ s (9 + j) = 1 := by rw [e9]; exact b2i_or _
  have hgo : m_X11_courseFromNow (kC Kd) lC 0 (nI j) (nI c) (μ, n) = some (103 + 6 * j, (wm (wm (wm (wm (wm (wm μ (103 + 6 * j) 2 (nI c)) (103 + 6 * j) 5 (s 0)) (103 + 6 * j) 3 (s (15 + j))) (103 + 6 * j) 4 (s (34 + j))) (103 + 6 * j) 6 (s (3 + j))) (103 + 6 * j) 7 (b2i (shB s j)), wn n (103 + 6 * j) 1 (some (40 + 5 * i)))) := by
    unfold m_X11_courseFromNow
    rw [C_r0 a2, C_lr2 (by omega) p2, C_c0, hh, fm_b1_s, C_g0, C_ckc]
    unfold m_X1_start
    simp (disch := omega) only [C_prc, C_pic, C_grc w0, C_gio, wm_r (r' := 100 + 6 * j)]
    rw [q3, q2, q4, q5, c10, e9, C_pzc, fm_b1_s]
  refine ⟨_, _, hgo, ⟨fun r hr => ?_, fun r k hr => wn_r (by omega)⟩, ?_⟩
  · simp (disch := omega) only [wm_r (r := 103 + 6 * j)]
  · have w : ∀ k, k ≠ 1 → wn n (103 + 6 * j) 1 (some (40 + 5 * i)) (103 + 6 * j) k = n (103 + 6 * j) k := fun k hk => wn_r (by omega)
    have wo : ∀ r k, r ≠ 103 + 6 * j → wn n (103 + 6 * j) 1 (some (40 + 5 * i)) r k = n r k := fun r k hk => wn_r (by omega)
    refine ⟨⟨?_, ?_, wn_s _ _ _⟩, ⟨?_, ?_, ?_, ?_, ?_, ?_⟩, ⟨?_, ?_, q6, fun hk x hx4 => ?_⟩, hc, l15, l34, l0, by omega, l28, by show j < 6; omega, hi6⟩
    · unfold nP
      rw [wo _ _ (by omega), wo _ _ (by omega), wo _ _ (by omega), w 0 (by omega), w 8 (by omega), w 9 (by omega)]
      exact ⟨n9, n10, n11, m0, m8, m9⟩
    · obtain ⟨t1, t2, t3, t4⟩ := b2 i hi6
      unfold nT
      rw [wo _ _ (by omega), wo _ _ (by omega), wo _ _ (by omega), wo _ _ (by omega)]
      exact ⟨t1, t2, t3, t4⟩
    · simp (disch := omega) only [wm_k (r := 103 + 6 * j), wm_s]
      rfl
    · simp (disch := omega) only [wm_k (r := 103 + 6 * j), wm_s]
      exact e15
    · simp (disch := omega) only [wm_k (r := 103 + 6 * j), wm_s]
      exact e34
    · simp (disch := omega) only [wm_k (r := 103 + 6 * j), wm_s]
      exact e0
    · simp (disch := omega) only [wm_k (r := 103 + 6 * j), wm_s]
      exact e3
    · rw [wm_s]
    · simp (disch := omega) only [wm_r (r := 103 + 6 * j)]
      exact q0.trans e28
    · simp (disch := omega) only [wm_r (r := 103 + 6 * j)]
      exact q1
    · simp (disch := omega) only [wm_r (r := 103 + 6 * j)]
      rw [q7 hk x hx4]
      exact (nn_N (by omega) (i40 x hx4)).1
theorem k_iceB {Kd : Nat → Nat} {μ : Nat → Nat → Int32} {n : Nat → Nat → Option Nat} {s : Nat → Int32} {np i : Nat} {cl : List Cl} {f t j N0 : Nat} (hg : gen Kd μ n s np i cl f t) (hj : j < np) (hN : N0 < 200) (hh : N (s 0) ≤ 15000) : ∃ μ' n', m_X11_iceBehind (kC Kd) lC 0 (nI j) (nI N0) (μ, n) = some (nI (goS (pq s cl j) (shB s j) N0 (N (s 0)) (N (s (3 + j)))), (μ', n')) ∧ dQ μ n μ' n' := by
  obtain ⟨e1, l1⟩ := nn_N (by omega) hg.2.2.2.2.1.2.1
  obtain ⟨μ1, n1, a1, a2, a3⟩ := k_from hg hj l1
  have h8 : μ 0 8 = nI (N (s 1)) := by rw [hg.2.2.1.2.2.1]; exact e1
  have hg1 := gen_d a2 hg
  obtain ⟨μ2, d1, d2, d3⟩ := k_goHours (N := N0) a3 hg1.2.2.2.2.2.2.2.2.1 hN (by omega)
  refine ⟨μ2, n1, ?_, dQ_t a2 (dQ_3 d3)⟩
  unfold m_X11_iceBehind
  rw [C_g0, h8, C_c0, a1, fm_bi_s, C_ckc, d1, fm_b1_s, C_gic, d2.2.1.2.2.2.2.1]
  rfl
theorem k_offl {Kd : Nat → Nat} {s : Nat → Int32} {np i : Nat} {cl : List Cl} {f t N0 : Nat} (hN : N0 < 200) (hh : N (s 0) ≤ 15000) : ∀ (d k fuel : Nat) (μ : Nat → Nat → Int32) (n : Nat → Nat → Option Nat), gen Kd μ n s np i cl f t → k + d = np → ∃ μ' n', b_X11_offersBehind_4 (kC Kd) lC (fuel + d + 1) 0 (nI N0) (nI (sumO f t (fun p => goS (pq s cl p) (shB s p) N0 (N (s 0)) (N (s (3 + p)))) k)) (nI k) (μ, n) = some (nI (sumO f t (fun p => goS (pq s cl p) (shB s p) N0 (N (s 0)) (N (s (3 + p)))) np), (μ', n')) ∧ dQ μ n μ' n' := by
  intro d
  induction d with
  | zero =>
    intro k fuel μ n hg hk
    have hk : k = np := hk
    subst hk
    refine ⟨μ, n, ?_, dQ_r μ n⟩
    rw [b_X11_offersBehind_4]
    unfold k_X11_offersBehind_4
    rw [C_g0, hg.2.2.1.1, hg.2.2.2.2.2.1, if_pos (Int32.le_refl _)]
  | succ d ih =>
    intro k fuel μ n hg hk
    obtain ⟨e1, l1⟩ := nn_N (by omega) hg.2.2.2.2.1.2.1
    obtain ⟨μ1, n1, a1, a2, a3⟩ := k_from hg (show k < np by omega) l1
    have h8 : μ 0 8 = nI (N (s 1)) := by rw [hg.2.2.1.2.2.1]; exact e1
    have hg1 := gen_d a2 hg
    have hnp := hg.2.2.2.2.2.2.1
    obtain ⟨μ2, d1, d2, d3⟩ := k_goHours (N := N0) a3 hg1.2.2.2.2.2.2.2.2.1 hN (by omega)
    have hg2 := gen_d (dQ_3 (n := n1) d3) hg1
    have ho := k_offer d2 (f := f) (t := t) hg2.2.2.2.2.2.2.2.2.1
    obtain ⟨μ3, n3, x1, x2⟩ := ih (k + 1) fuel μ2 n1 hg2 (by omega)
    refine ⟨μ3, n3, ?_, dQ_t a2 (dQ_t (dQ_3 d3) x2)⟩
    rw [show fuel + (d + 1) + 1 = fuel + d + 1 + 1 by omega, b_X11_offersBehind_4]
    unfold k_X11_offersBehind_4
    rw [C_g0, hg.2.2.1.1, hg.2.2.2.2.2.1, if_neg (nI_ge (by omega) (by omega)), C_g0, h8, C_c0, a1, fm_bi_s, C_ckc, d1, fm_b1_s, C_ckc, ho, fm_b1_s, R_let, R_let, nI_add, nI_1]
    exact x1
theorem k_offB {Kd : Nat → Nat} {μ : Nat → Nat → Int32} {n : Nat → Nat → Option Nat} {s : Nat → Int32} {np i : Nat} {cl : List Cl} {f t N0 : Nat} (hg : gen Kd μ n s np i cl f t) (hN : N0 < 200) (hh : N (s 0) ≤ 15000) : ∃ μ' n', m_X11_offersBehind (kC Kd) lC 0 (nI N0) (μ, n) = some (nI (sumO f t (fun p => goS (pq s cl p) (shB s p) N0 (N (s 0)) (N (s (3 + p)))) np), (μ', n')) ∧ dQ μ n μ' n' := by
  obtain ⟨μ', n', h1, h2⟩ := k_offl (Kd := Kd) (s := s) (np := np) (i := i) (cl := cl) (f := f) (t := t) hN hh np 0 (999 - np) μ n hg (by omega)
  refine ⟨μ', n', ?_, h2⟩
  have hnp := hg.2.2.2.2.2.2.1
  unfold m_X11_offersBehind
  rw [R_let, R_let, show fm_LF = 999 - np + np + 1 by unfold fm_LF; omega]
  exact h1
