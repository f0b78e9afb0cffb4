/-! methods, both sides: done; what a plan does to one pane: (hour, frozen, shut, paid) -/
def S1 (q : Pn) (f t a : Nat) (m : Bool) (z : Nat × Nat × Bool × Nat) : Nat × Nat × Bool × Nat := if a = 0 then (z.1 + 1, goS q z.2.2.1 1 z.1 z.2.1, z.2.2.1, z.2.2.2) else if m = true then (if a = 1 then (z.1, 0, z.2.2.1, z.2.2.2 + offN f t z.2.1) else (z.1, z.2.1, decide (a = 2), z.2.2.2)) else z
def Sx (q : Pn) (f t : Nat) (A : Nat → Nat) (M : Nat → Bool) (z : Nat × Nat × Bool × Nat) : Nat → Nat × Nat × Bool × Nat
  | 0 => z
  | x + 1 => S1 q f t (A x) (M x) (Sx q f t A M z x)
theorem S1_b {q : Pn} {f t a : Nat} {m : Bool} {z : Nat × Nat × Bool × Nat} (h : z.2.1 < 4096) : (S1 q f t a m z).1 ≤ z.1 + 1 ∧ (S1 q f t a m z).2.1 < 4096 := by
  unfold S1
  split
  · exact ⟨Nat.le_refl _, goS_lt _ _ _ _ _ h⟩
  · split
    · split
      · exact ⟨by simp, by simp⟩
      · exact ⟨by simp, h⟩
    · exact ⟨by omega, h⟩
theorem Sx_b {q : Pn} {f t : Nat} {A : Nat → Nat} {M : Nat → Bool} {z : Nat × Nat × Bool × Nat} (h : z.2.1 < 4096) : ∀ x, (Sx q f t A M z x).1 ≤ z.1 + x ∧ (Sx q f t A M z x).2.1 < 4096
  | 0 => ⟨Nat.le_refl _, h⟩
  | x + 1 => by
    have h1 := Sx_b (q := q) (f := f) (t := t) (A := A) (M := M) h x
    have h2 := S1_b (q := q) (f := f) (t := t) (a := A x) (m := M x) h1.2
    exact ⟨Nat.le_trans h2.1 (by omega), h2.2⟩
/-- the class's rows of PLAN -/
def ql (μ : Nat → Nat → Int32) (n : Nat → Nat → Option Nat) (s : Nat → Int32) (np k : Nat) : Prop := k ≤ 8 ∧ s 24 = nI k ∧ μ 16 3 = nI k ∧ μ 16 0 = nI 8 ∧ n 16 1 = some 17 ∧ n 0 12 = some 16 ∧ ∀ x, x < k → (μ 17 (3 * x) = s (79 + x) ∧ μ 17 (3 * x + 1) = s (87 + x)) ∧ nn (s (79 + x)) 3 ∧ (s (79 + x) ≠ 0 → ∃ j, j < np ∧ s (87 + x) = nI j)
theorem ql_m {μ μ' : Nat → Nat → Int32} {n : Nat → Nat → Option Nat} {s : Nat → Int32} {np k : Nat} (h16 : μ' 16 = μ 16) (h17 : μ' 17 = μ 17) (hq : ql μ n s np k) : ql μ' n s np k := by
  obtain ⟨a1, a2, a3, a4, a5, a6, a7⟩ := hq
  unfold ql
  rw [h16, h17]
  exact ⟨a1, a2, a3, a4, a5, a6, a7⟩
theorem ql_d {μ μ' : Nat → Nat → Int32} {n n' : Nat → Nat → Option Nat} {s : Nat → Int32} {np k : Nat} (h : dQ μ n μ' n') (hq : ql μ n s np k) : ql μ' n' s np k := by
  obtain ⟨a1, a2, a3, a4, a5, a6, a7⟩ := hq
  unfold ql
  rw [h.1 16 (by omega), h.1 17 (by omega), h.2 16 1 (by omega), h.2 0 12 (by omega)]
  exact ⟨a1, a2, a3, a4, a5, a6, a7⟩
theorem l_at {Kd : Nat → Nat} {μ : Nat → Nat → Int32} {n : Nat → Nat → Option Nat} {s : Nat → Int32} {np k x : Nat} (hq : ql μ n s np k) (hx : x < k) : m_X8_at (kC Kd) lC 16 (nI x) 0 (μ, n) = some (s (79 + x)) ∧ m_X8_at (kC Kd) lC 16 (nI x) 1 (μ, n) = some (s (87 + x)) := by
  obtain ⟨a1, a2, a3, a4, a5, a6, a7⟩ := hq
  obtain ⟨⟨e1, e2⟩, _⟩ := a7 x hx
  have h0 : m_X8_at (kC Kd) lC 16 (nI x) 0 (μ, n) = some (μ 17 (3 * x)) := w_at (i := 2) (y := 0) (by omega) a3 a4 a5 a1 hx (by omega)
  have h1 : m_X8_at (kC Kd) lC 16 (nI x) 1 (μ, n) = some (μ 17 (3 * x + 1)) := w_at (i := 2) (y := 1) (by omega) a3 a4 a5 a1 hx (by omega)
  rw [h0, h1, e1, e2]
  exact ⟨rfl, rfl⟩
theorem l_size {Kd : Nat → Nat} {μ : Nat → Nat → Int32} {n : Nat → Nat → Option Nat} {s : Nat → Int32} {np k : Nat} (hq : ql μ n s np k) : m_X8_size (kC Kd) lC 16 (μ, n) = some (nI k) := by
  obtain ⟨a1, a2, a3, a4, a5, a6, a7⟩ := hq
  have h : m_X8_size (kC Kd) lC 16 (μ, n) = some (nI (min k 8)) := w_size (i := 2) (by omega) a3 a4 (by omega)
  rw [h, Nat.min_eq_left a1]
theorem cI_i {Kd : Nat → Nat} {μ : Nat → Nat → Int32} {n : Nat → Nat → Option Nat} {j i h ice : Nat} {q : Pn} {sh : Bool} (hc : cI Kd μ n j i q h ice sh) {ice' : Nat} (hw : ice' < 4096) : cI Kd (wm μ (103 + 6 * j) 6 (nI ice')) n j i q h ice' sh := by
  obtain ⟨hn, ⟨f2, f3, f4, f5, f6, f7⟩, ⟨g0, g1, g2, g3⟩, b1, b2, b3, b4, b5, b6, b7, b8⟩ := hc
  refine ⟨hn, ⟨?_, ?_, ?_, ?_, wm_s _ _ _ _, ?_⟩, ⟨?_, ?_, g2, fun hk x hx => ?_⟩, b1, b2, b3, b4, hw, b6, b7, b8⟩
  · rw [wm_k (by omega)]; exact f2
  · rw [wm_k (by omega)]; exact f3
  · rw [wm_k (by omega)]; exact f4
  · rw [wm_k (by omega)]; exact f5
  · rw [wm_k (by omega)]; exact f7
  · rw [wm_r (by omega)]; exact g0
  · rw [wm_r (by omega)]; exact g1
  · rw [wm_r (by omega)]; exact g3 hk x hx
theorem cI_s {Kd : Nat → Nat} {μ : Nat → Nat → Int32} {n : Nat → Nat → Option Nat} {j i h ice : Nat} {q : Pn} {sh : Bool} (hc : cI Kd μ n j i q h ice sh) (sh' : Bool) : cI Kd (wm μ (103 + 6 * j) 7 (b2i sh')) n j i q h ice sh' := by
  obtain ⟨hn, ⟨f2, f3, f4, f5, f6, f7⟩, ⟨g0, g1, g2, g3⟩, b1, b2, b3, b4, b5, b6, b7, b8⟩ := hc
  refine ⟨hn, ⟨?_, ?_, ?_, ?_, ?_, wm_s _ _ _ _⟩, ⟨?_, ?_, g2, fun hk x hx => ?_⟩, b1, b2, b3, b4, b5, b6, b7, b8⟩
  · rw [wm_k (by omega)]; exact f2
  · rw [wm_k (by omega)]; exact f3
  · rw [wm_k (by omega)]; exact f4
  · rw [wm_k (by omega)]; exact f5
  · rw [wm_k (by omega)]; exact f6
  · rw [wm_r (by omega)]; exact g0
  · rw [wm_r (by omega)]; exact g1
  · rw [wm_r (by omega)]; exact g3 hk x hx
theorem k_breath {Kd : Nat → Nat} {n : Nat → Nat → Option Nat} {μ : Nat → Nat → Int32} {j i h ice f t : Nat} {q : Pn} {sh : Bool} (hI : cI Kd μ n j i q h ice sh) (ht : tC μ i (Pn.cl q) f t) : m_X1_breath (kC Kd) lC (103 + 6 * j) (μ, n) = some (nI (offN f t ice), (wm μ (103 + 6 * j) 6 (nI 0), n)) ∧ cI Kd (wm μ (103 + 6 * j) 6 (nI 0)) n j i q h 0 sh := by
  refine ⟨?_, cI_i hI (by omega)⟩
  unfold m_X1_breath
  rw [C_ckc, k_offer hI ht, fm_b1_s, C_pic]
  rfl
theorem k_planl {Kd : Nat → Nat} {n : Nat → Nat → Option Nat} {s : Nat → Int32} {np k j i f t : Nat} {q : Pn} {A : Nat → Nat} {M : Nat → Bool} (hA : ∀ x, x < k → s (79 + x) = nI (A x) ∧ A x ≤ 3) (hM : ∀ x, x < k → (M x = true ↔ s (87 + x) = nI j)) (hk : k ≤ 8) (hqp : Pn.p q = j) (hi : i < 6) (z : Nat × Nat × Bool × Nat) (hz : z.2.1 < 4096) (hz1 : z.1 ≤ 15000) : ∀ (d x fuel : Nat) (μ : Nat → Nat → Int32), x + d = k → cI Kd μ n j i q (Sx q f t A M z x).1 (Sx q f t A M z x).2.1 (Sx q f t A M z x).2.2.1 → tC μ i (Pn.cl q) f t → ql μ n s np k → ∃ μ', b_X1_goPlan_4 (kC Kd) lC (fuel + d + 1) (103 + 6 * j) 16 (nI (Sx q f t A M z x).2.2.2) (nI x) (μ, n) = some (nI (Sx q f t A M z k).2.2.2, (μ', n)) ∧ cI Kd μ' n j i q (Sx q f t A M z k).1 (Sx q f t A M z k).2.1 (Sx q f t A M z k).2.2.1 ∧ ∀ r, r ≠ 103 + 6 * j → r ≠ 104 + 6 * j → r ≠ 105 + 6 * j → μ' r = μ r := by
  intro d
  have c16 : ∀ {α : Type} (F : Option α), fm_ck (kC Kd 16 == 8) F = F := fun F => C_ck rfl F
  induction d with
  | zero =>
    intro x fuel μ hx hc ht hq
    have hx : x = k := hx
    subst hx
    refine ⟨μ, ?_, hc, fun _ _ _ _ => rfl⟩
    rw [b_X1_goPlan_4]
    unfold k_X1_goPlan_4
    rw [c16, l_size hq, fm_b1_s, if_pos (Int32.le_refl _)]
  | succ d ih =>
    intro x fuel μ hx hc ht hq
    have hxk : x < k := by omega
    have ih' := ih (x + 1) fuel
    have hS : Sx q f t A M z (x + 1) = S1 q f t (A x) (M x) (Sx q f t A M z x) := rfl
    have hb := Sx_b (q := q) (f := f) (t := t) (A := A) (M := M) hz x
    rw [hS] at ih'
    generalize Sx q f t A M z x = w at *
    obtain ⟨eA, lA⟩ := hA x hxk
    have eM := hM x hxk
    have hpn : μ (100 + 6 * j) 1 = nI j := by rw [hc.2.2.1.2.1, hqp]
    have n0 : n (103 + 6 * j) 0 = some (100 + 6 * j) := hc.1.1.2.2.2.1
    have hfr : ∀ {μ1 : Nat → Nat → Int32}, (∀ r, r ≠ 103 + 6 * j → r ≠ 104 + 6 * j → r ≠ 105 + 6 * j → μ1 r = μ r) → tC μ1 i (Pn.cl q) f t ∧ ql μ1 n s np k := fun h => ⟨tC_c (fun r a b => h r (by omega) (by omega) (by omega)) hi ht, ql_m (h 16 (by omega) (by omega) (by omega)) (h 17 (by omega) (by omega) (by omega)) hq⟩
    have hnl : ¬ nI k ≤ nI x := nI_ge hxk (by omega)
    rw [show fuel + (d + 1) + 1 = fuel + d + 1 + 1 by omega, b_X1_goPlan_4]
    unfold k_X1_goPlan_4
    rw [c16, l_size hq, fm_b1_s, if_neg hnl, c16, (l_at hq hxk).1, fm_b1_s, eA, R_let, nI_1]
    by_cases h0 : A x = 0
    · obtain ⟨μ1, a1, a2, a3⟩ := k_goHour hc ht (by omega)
      obtain ⟨μ2, b1, b2, b3⟩ := ih' μ1 (by omega) (by unfold S1; rw [if_pos h0]; exact a2) (hfr a3).1 (hfr a3).2
      refine ⟨μ2, ?_, b2, fun r x y z => (b3 r x y z).trans (a3 r x y z)⟩
      rw [if_pos (show nI (A x) = 0 by rw [h0]; rfl), C_ckc, a1, fm_b1_s]
      unfold S1 at b1
      rw [if_pos h0] at b1
      exact b1
    · rw [if_neg (nI_ne0 (by omega) (by omega)), c16, (l_at hq hxk).2, fm_b1_s, C_grc n0, C_gio, hpn]
      unfold S1 at ih'
      rw [if_neg h0] at ih'
      by_cases hm : s (87 + x) = nI j
      · rw [if_pos (eM.2 hm)] at ih'
        rw [if_pos hm]
        by_cases h1 : A x = 1
        · rw [if_pos h1] at ih'
          rw [if_pos (show nI (A x) = 1 by rw [h1]; rfl)]
          obtain ⟨a1, a2⟩ := k_breath hc ht
          have a3 : ∀ r, r ≠ 103 + 6 * j → r ≠ 104 + 6 * j → r ≠ 105 + 6 * j → wm μ (103 + 6 * j) 6 (nI 0) r = μ r := fun r x y z => wm_r x
          obtain ⟨μ2, b1, b2, b3⟩ := ih' _ (by omega) a2 (hfr a3).1 (hfr a3).2
          refine ⟨μ2, ?_, b2, fun r x y z => (b3 r x y z).trans (a3 r x y z)⟩
          rw [C_ckc, a1, fm_bi_s, R_let, nI_add]
          exact b1
        · rw [if_neg h1] at ih'
          rw [if_neg (show ¬ nI (A x) = 1 from fun h => h1 ((nI_eq (b := 1) (by omega) (by omega)).1 h))]
          have a3 : ∀ sh, ∀ r, r ≠ 103 + 6 * j → r ≠ 104 + 6 * j → r ≠ 105 + 6 * j → wm μ (103 + 6 * j) 7 (b2i sh) r = μ r := fun sh r x y z => wm_r x
          by_cases h2 : A x = 2
          · rw [decide_eq_true h2] at ih'
            rw [if_pos (show nI (A x) = 2 by rw [h2]; rfl)]
            obtain ⟨μ2, b1, b2, b3⟩ := ih' _ (by omega) (cI_s hc true) (hfr (a3 true)).1 (hfr (a3 true)).2
            refine ⟨μ2, ?_, b2, fun r x y z => (b3 r x y z).trans (a3 true r x y z)⟩
            have hpz := fun F => C_pzc (Kd := Kd) (μ := μ) (n := n) (α := Int32 × fm_M) j 7 true F
            rw [show (b2i true) = 1 from rfl] at hpz b1
            rw [hpz]
            exact b1
          · rw [decide_eq_false h2] at ih'
            rw [if_neg (show ¬ nI (A x) = 2 from fun h => h2 ((nI_eq (b := 2) (by omega) (by omega)).1 h))]
            obtain ⟨μ2, b1, b2, b3⟩ := ih' _ (by omega) (cI_s hc false) (hfr (a3 false)).1 (hfr (a3 false)).2
            refine ⟨μ2, ?_, b2, fun r x y z => (b3 r x y z).trans (a3 false r x y z)⟩
            have hpz := fun F => C_pzc (Kd := Kd) (μ := μ) (n := n) (α := Int32 × fm_M) j 7 false F
            rw [show (b2i false) = 0 from rfl] at hpz b1
            rw [hpz]
            exact b1
      · rw [if_neg (fun h => hm (eM.1 h))] at ih'
        rw [if_neg hm]
        exact ih' μ (by omega) hc ht hq
