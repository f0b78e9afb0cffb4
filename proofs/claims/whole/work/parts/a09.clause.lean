/-! methods, both sides: town; the class's clauses -/
def sL : List Cl → Nat
  | [] => 0
  | (t, _, _) :: r => t.length + sL r
theorem sL_app (a b : List Cl) : sL (a ++ b) = sL a + sL b := by
  induction a with
  | nil => exact (Nat.zero_add _).symm
  | cons o r ih =>
    obtain ⟨t, ch, n⟩ := o
    show t.length + sL (r ++ b) = t.length + sL r + sL b
    rw [ih]
    omega
theorem clC_app {g v e w : Nat → Int32} {t : List Op} {ch : Bool} {n : Nat} : ∀ (l : List Cl) (i k : Nat), clC g v e w i k l → cdC g v (i + sL l) t → opH t 0 1 → n < 100 → i + sL l + t.length ≤ 100 → e (k + l.length) = nI (i + sL l + t.length) → w (k + l.length) = (if ch = true then nI n else - nI n) → clC g v e w i k (l ++ [(t, ch, n)])
  | [], i, k, _, h1, h2, h3, h4, h5, h6 => ⟨h1, h2, h3, h4, h5, h6, trivial⟩
  | (t0, c0, n0) :: r, i, k, h, h1, h2, h3, h4, h5, h6 => by
    obtain ⟨a1, a2, a3, a4, a5, a6, a7⟩ := h
    have e1 : i + sL ((t0, c0, n0) :: r) = i + t0.length + sL r := by
      show i + (t0.length + sL r) = _
      omega
    rw [e1] at h1 h4 h5
    rw [show k + ((t0, c0, n0) :: r).length = k + 1 + r.length by simp only [List.length_cons]; omega] at h5 h6
    exact ⟨a1, a2, a3, a4, a5, a6, clC_app r _ _ a7 h1 h2 h3 h4 h5 h6⟩
theorem clC_g {g v e w g' v' e' w' : Nat → Int32} : ∀ (l : List Cl) (i k : Nat), (∀ x, i ≤ x → x < i + sL l → g' x = g x ∧ v' x = v x) → (∀ y, k ≤ y → y < k + l.length → e' y = e y ∧ w' y = w y) → clC g v e w i k l → clC g' v' e' w' i k l
  | [], _, _, _, _, _ => trivial
  | (t, ch, n) :: r, i, k, h1, h2, h => by
    obtain ⟨a1, a2, a3, a4, a5, a6, a7⟩ := h
    have e1 : sL ((t, ch, n) :: r) = t.length + sL r := rfl
    rw [e1] at h1
    have h2' := h2 k (Nat.le_refl _) (by simp only [List.length_cons]; omega)
    refine ⟨cdC_g _ _ (fun x b1 b2 => h1 x b1 (by omega)) a1, a2, a3, a4, h2'.1.trans a5, h2'.2.trans a6, clC_g r _ _ (fun x b1 b2 => h1 x (by omega) (by omega)) (fun y b1 b2 => h2 y (by omega) (by simp only [List.length_cons]; omega)) a7⟩
def tS (m z : Nat) (sg : Nat → Int32) (n : Nat → Nat → Option Nat) (μ : Nat → Nat → Int32) (p c : Nat) (st : Ts) : Prop := cS m z sg n μ p c ∧ c ≤ p ∧ (μ (40 + 5 * m) 0 = nI st.2.1 ∧ μ (40 + 5 * m) 1 = nI st.2.2 ∧ μ (40 + 5 * m) 2 = nI st.1.length ∧ st.1.length ≤ 10 ∧ st.2.1 < 100 ∧ st.2.2 < 100) ∧ c = sL st.1 ∧ clC (μ (43 + 5 * m)) (μ (44 + 5 * m)) (μ (42 + 5 * m)) (μ (41 + 5 * m)) 0 0 st.1
def tF (m : Nat) (μ μ' : Nat → Nat → Int32) : Prop := ∀ r, r ≠ 30 → r ≠ 31 → (r < 40 + 5 * m ∨ 44 + 5 * m < r) → μ' r = μ r
theorem tF_r (m : Nat) (μ : Nat → Nat → Int32) : tF m μ μ := fun _ _ _ _ => rfl
theorem tF_t {m : Nat} {μ μ1 μ2 : Nat → Nat → Int32} (h : tF m μ μ1) (h2 : tF m μ1 μ2) : tF m μ μ2 := fun r a b c => (h2 r a b c).trans (h r a b c)
theorem tF_30 {m : Nat} {μ μ1 : Nat → Nat → Int32} (h : ∀ r, r ≠ 30 → μ1 r = μ r) : tF m μ μ1 := fun r a _ _ => h r a
theorem tF_c {m : Nat} {μ μ1 : Nat → Nat → Int32} (h : cF m μ μ1) : tF m μ μ1 := fun r a _ c => h.1 r a (by omega) (by omega) (by omega)
section R
variable {Kd : Nat → Nat} {m z : Nat} {sg : Nat → Int32} {n : Nat → Nat → Option Nat}
/-- what a clause leaves -/
def cR (m z : Nat) (sg : Nat → Int32) (n : Nat → Nat → Option Nat) (μ μ' : Nat → Nat → Int32) (r : Bool × Nat × Ts) : Prop := tF m μ μ' ∧ (∃ c', cS m z sg n μ' r.2.1 c') ∧ (r.1 = true → ∃ c', tS m z sg n μ' r.2.1 c' r.2.2)
theorem k_addCl {μ : Nat → Nat → Int32} {p c k : Nat} (h : cS m z sg n μ p c) (hk : μ (40 + 5 * m) 2 = nI k) (hk10 : k < 10) (x : Int32) : ∃ μ', m_X10_addClause (kC Kd) lC (40 + 5 * m) x (μ, n) = some (μ', n) ∧ cS m z sg n μ' p c ∧ (∀ r, r ≠ 40 + 5 * m → r ≠ 41 + 5 * m → r ≠ 42 + 5 * m → μ' r = μ r) ∧ (∀ y, y ≠ 2 → μ' (40 + 5 * m) y = μ (40 + 5 * m) y) ∧ μ' (40 + 5 * m) 2 = nI (k + 1) ∧ (∀ y, y ≠ k → μ' (41 + 5 * m) y = μ (41 + 5 * m) y ∧ μ' (42 + 5 * m) y = μ (42 + 5 * m) y) ∧ μ' (41 + 5 * m) k = x ∧ μ' (42 + 5 * m) k = nI c := by
  obtain ⟨⟨h0, h01, ⟨t1, t2, t3, t4⟩, hm, hz⟩, h1, h2, h3, h4⟩ := h
  refine ⟨wm (wm (wm μ (41 + 5 * m) k x) (42 + 5 * m) k (nI c)) (40 + 5 * m) 2 (nI (k + 1)), ?_, ⟨⟨h0, h01, ⟨t1, t2, t3, t4⟩, hm, hz⟩, ?_, h2, fun i hi => ?_, ?_⟩, fun r a b d => ?_, fun y hy => ?_, wm_s _ _ _ _, fun y hy => ?_, ?_, ?_⟩
  · unfold m_X10_addClause
    rw [C_git (by omega), hk, if_neg (show ¬ (10 : Int32) ≤ nI k from nI_ge (b := 10) hk10 (by omega)), C_grt (by omega) t1, C_git (by omega), hk, C_st (kC_ta Kd (k := 1) (by omega) (by omega) (by omega)) (lC_ta (k := 1) (by omega) (by omega)) (show k < lX5 1 by exact hk10) (by decide), C_grt (by omega) t2, C_git (by omega), C_git (by omega), wm_r (by omega), hk, h4, C_st (kC_ta Kd (k := 2) (by omega) (by omega) (by omega)) (lC_ta (k := 2) (by omega) (by omega)) (show k < lX5 2 by exact hk10) (by decide), C_git (by omega), wm_r (by omega), wm_r (by omega), hk, C_pit (by omega), nI_1]
  · rw [wm_r (by omega), wm_r (by omega), wm_r (by omega)]; exact h1
  · rw [wm_r (by omega), wm_r (by omega), wm_r (by omega)]; exact h3 i hi
  · rw [wm_k (by omega), wm_r (by omega), wm_r (by omega)]; exact h4
  · rw [wm_r a, wm_r d, wm_r b]
  · rw [wm_k hy, wm_r (by omega), wm_r (by omega)]
  · rw [wm_r (by omega), wm_r (by omega), wm_k hy, wm_r (by omega), wm_k hy, wm_r (by omega)]
    exact ⟨rfl, rfl⟩
  · rw [wm_r (by omega), wm_r (by omega), wm_s]
  · rw [wm_r (by omega), wm_s]
theorem wi_lt (x : Int32) : wi x < 6 := by
  unfold wi
  split
  · omega
  split
  · omega
  split <;> omega
theorem k_wordFrom (kap lam : Nat → Nat) (S : fm_M) (x : Int32) : m_X6_wordFrom kap lam x S = some (wi x) := by
  unfold m_X6_wordFrom wi
  by_cases h0 : x = 99
  · rw [if_pos h0, if_pos h0]
  rw [if_neg h0, if_neg h0]
  by_cases h1 : x = 102
  · rw [if_pos h1, if_pos h1]
  rw [if_neg h1, if_neg h1]
  by_cases h2 : x = 116
  · rw [if_pos h2, if_pos h2]
  rw [if_neg h2, if_neg h2]
theorem wi_e (x : Int32) : (x = 102 ↔ wi x = 0) ∧ (x = 116 ↔ wi x = 1) ∧ (x = 99 ↔ wi x = 2) := by
  unfold wi
  by_cases h0 : x = 99
  · subst h0
    decide
  rw [if_neg h0]
  by_cases h1 : x = 102
  · subst h1
    decide
  rw [if_neg h1]
  by_cases h2 : x = 116
  · subst h2
    decide
  rw [if_neg h2]
  exact ⟨⟨fun h => absurd h h1, fun h => absurd h (by decide)⟩, ⟨fun h => absurd h h2, fun h => absurd h (by decide)⟩, ⟨fun h => absurd h h0, fun h => absurd h (by decide)⟩⟩
end R
