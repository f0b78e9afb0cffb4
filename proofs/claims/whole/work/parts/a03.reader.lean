/-! methods, both sides: town; the class's reader -/
theorem cdC_g {g v g' v' : Nat → Int32} : ∀ (l : List Op) (i : Nat), (∀ x, i ≤ x → x < i + l.length → g' x = g x ∧ v' x = v x) → cdC g v i l → cdC g' v' i l
  | [], _, _, _ => trivial
  | o :: r, i, h, hc => ⟨((h i (Nat.le_refl _) (by simp)).1).trans hc.1, ((h i (Nat.le_refl _) (by simp)).2).trans hc.2.1, cdC_g r (i + 1) (fun x h1 h2 => h x (by omega) (by simp only [List.length_cons]; omega)) hc.2.2⟩
theorem cdC_app {g v : Nat → Int32} : ∀ (a b : List Op) (i : Nat), cdC g v i a → cdC g v (i + a.length) b → cdC g v i (a ++ b)
  | [], b, i, _, hb => hb
  | o :: r, b, i, ha, hb => ⟨ha.1, ha.2.1, cdC_app r b (i + 1) ha.2.2 (by
    rw [show i + 1 + r.length = i + (o :: r).length by simp only [List.length_cons]; omega]
    exact hb)⟩
/-- the reader stands at place p, and c signs of tests have come -/
def cS (m z : Nat) (sg : Nat → Int32) (n : Nat → Nat → Option Nat) (μ : Nat → Nat → Int32) (p c : Nat) : Prop := (n 30 0 = some 31 ∧ n 30 1 = some (40 + 5 * m) ∧ nT n m ∧ m < 5 ∧ z ≤ 100) ∧ μ 30 2 = nI p ∧ p ≤ z ∧ (∀ i, i ≤ z → μ 31 i = sg i) ∧ μ (40 + 5 * m) 5 = nI c
def cF (m : Nat) (μ μ' : Nat → Nat → Int32) : Prop := (∀ r, r ≠ 30 → r ≠ 40 + 5 * m → r ≠ 43 + 5 * m → r ≠ 44 + 5 * m → μ' r = μ r) ∧ ∀ x, x ≠ 5 → μ' (40 + 5 * m) x = μ (40 + 5 * m) x
theorem cF_r (m : Nat) (μ : Nat → Nat → Int32) : cF m μ μ := ⟨fun _ _ _ _ _ => rfl, fun _ _ => rfl⟩
theorem cF_t {m : Nat} {μ μ1 μ2 : Nat → Nat → Int32} (h : cF m μ μ1) (h2 : cF m μ1 μ2) : cF m μ μ2 := ⟨fun r a b c d => (h2.1 r a b c d).trans (h.1 r a b c d), fun x hx => (h2.2 x hx).trans (h.2 x hx)⟩
def cA5 (m c : Nat) (μ μ' : Nat → Nat → Int32) : Prop := ∀ i, i < c → μ' (43 + 5 * m) i = μ (43 + 5 * m) i ∧ μ' (44 + 5 * m) i = μ (44 + 5 * m) i
section R
variable {Kd : Nat → Nat} {m z : Nat} {sg : Nat → Int32} {n : Nat → Nat → Option Nat} {μ : Nat → Nat → Int32} {p c : Nat}
theorem C_gi30 {α : Type} (k : Nat) (F : Int32 → Option α) : fm_gi (kC Kd) 6 30 k (μ, n) F = F (μ 30 k) := C_gi rfl F
theorem C_pi30 {α : Type} (k : Nat) (x : Int32) (F : fm_M → Option α) : fm_pi (kC Kd) 6 30 k (μ, n) x F = F (wm μ 30 k x, n) := C_pi rfl x F
theorem C_gr30 {α : Type} {k q : Nat} (hq : n 30 k = some q) (F : Nat → Option α) : fm_gr (kC Kd) 6 30 k (μ, n) F = F q := C_gr rfl hq F
theorem C_ck30 {α : Type} (F : Option α) : fm_ck (kC Kd 30 == 6) F = F := C_ck rfl F
theorem C_ld31 {α : Type} {x : Nat} (h : x ≤ 100) (F : Int32 → Option α) : fm_ld (kC Kd) lC 13 31 (nI x) (μ, n) F = F (μ 31 x) := C_ld (L := 101) rfl rfl (by omega) (by decide) F
theorem cS_p (h : cS m z sg n μ p c) {p' : Nat} (hp : p' ≤ z) : cS m z sg n (wm μ 30 2 (nI p')) p' c := by
  obtain ⟨h0, h1, h2, h3, h4⟩ := h
  exact ⟨h0, wm_s _ _ _ _, hp, fun i hi => by rw [wm_r (by omega)]; exact h3 i hi, by rw [wm_r (by omega)]; exact h4⟩
theorem cS_3 (h : cS m z sg n μ p c) (x : Int32) : cS m z sg n (wm μ 30 3 x) p c := by
  obtain ⟨h0, h1, h2, h3, h4⟩ := h
  exact ⟨h0, by rw [wm_k (by omega)]; exact h1, h2, fun i hi => by rw [wm_r (by omega)]; exact h3 i hi, by rw [wm_r (by omega)]; exact h4⟩
theorem cF_30 (m : Nat) (μ : Nat → Nat → Int32) (k : Nat) (x : Int32) : cF m μ (wm μ 30 k x) := ⟨fun r h _ _ _ => wm_r h, fun y _ => by rw [wm_r (by omega)]⟩
theorem cA_30 (m c : Nat) (μ : Nat → Nat → Int32) (k : Nat) (x : Int32) : cA5 m c μ (wm μ 30 k x) := fun i _ => by rw [wm_r (by omega), wm_r (by omega)]; exact ⟨rfl, rfl⟩
theorem cA_t {m c : Nat} {μ μ1 μ2 : Nat → Nat → Int32} (h : cA5 m c μ μ1) (h2 : cA5 m c μ1 μ2) : cA5 m c μ μ2 := fun i hi => ⟨(h2 i hi).1.trans (h i hi).1, (h2 i hi).2.trans (h i hi).2⟩
theorem k_take (h : cS m z sg n μ p c) (a : Int32) : m_X6_take (kC Kd) lC 30 a (μ, n) = if sg p = a then some (1, (wm μ 30 2 (nI (p + 1)), n)) else some (0, (μ, n)) := by
  obtain ⟨⟨h0, _, _, _, hz⟩, h1, h2, h3, h4⟩ := h
  unfold m_X6_take
  rw [C_gr30 h0, C_gi30, h1, C_ld31 (by omega), h3 p h2]
  by_cases hs : sg p = a
  · rw [if_pos hs, if_pos hs, C_gi30, h1, C_pi30, nI_1, fm_z1]
  · rw [if_neg hs, if_neg hs, fm_z0]
theorem k_add (h : cS m z sg n μ p c) (hc : c < 100) (x y : Int32) : ∃ μ', m_X10_addSign (kC Kd) lC (40 + 5 * m) x y (μ, n) = some (μ', n) ∧ cS m z sg n μ' p (c + 1) ∧ cF m μ μ' ∧ cA5 m c μ μ' ∧ μ' (43 + 5 * m) c = x ∧ μ' (44 + 5 * m) c = y := by
  obtain ⟨⟨h0, h01, ⟨t1, t2, t3, t4⟩, hm, hz⟩, h1, h2, h3, h4⟩ := h
  refine ⟨wm (wm (wm μ (43 + 5 * m) c x) (44 + 5 * m) c y) (40 + 5 * m) 5 (nI (c + 1)), ?_, ⟨⟨h0, h01, ⟨t1, t2, t3, t4⟩, hm, hz⟩, ?_, h2, fun i hi => ?_, wm_s _ _ _ _⟩, ⟨fun r a b d e => ?_, fun x hx => ?_⟩, fun i hi => ?_, ?_, ?_⟩
  · unfold m_X10_addSign
    rw [C_git (by omega), h4, if_neg (show ¬ (100 : Int32) ≤ nI c from nI_ge (b := 100) hc (by omega)), C_grt (by omega) t3, C_git (by omega), h4, C_st (kC_ta Kd (k := 3) (by omega) (by omega) (by omega)) (lC_ta (k := 3) (by omega) (by omega)) (show c < lX5 3 by exact hc) (by decide), C_grt (by omega) t4, C_git (by omega), wm_r (by omega), h4, C_st (kC_ta Kd (k := 4) (by omega) (by omega) (by omega)) (lC_ta (k := 4) (by omega) (by omega)) (show c < lX5 4 by exact hc) (by decide), C_git (by omega), wm_r (by omega), wm_r (by omega), h4, C_pit (by omega), nI_1]
  · rw [wm_r (by omega), wm_r (by omega), wm_r (by omega)]; exact h1
  · rw [wm_r (by omega), wm_r (by omega), wm_r (by omega)]; exact h3 i hi
  · rw [wm_r b, wm_r e, wm_r d]
  · rw [wm_k hx, wm_r (by omega), wm_r (by omega)]
  · rw [wm_r (by omega), wm_r (by omega), wm_k (by omega), wm_r (by omega), wm_k (by omega), wm_r (by omega)]
    exact ⟨rfl, rfl⟩
  · rw [wm_r (by omega), wm_r (by omega), wm_s]
  · rw [wm_r (by omega), wm_s]
end R
