/-! methods, both sides: what colds, warms and firm share -/
theorem cI_v {Kd : Nat → Nat} {μ : Nat → Nat → Int32} {n : Nat → Nat → Option Nat} {j i h ice p k v w c : Nat} {r : Nat → Nat} {cl : List Cl} {sh : Bool} (hc : cI Kd μ n j i (p, k, v, w, c, r, cl) h ice sh) {v' : Nat} (hw : v' ≤ 9) : cI Kd (wm μ (103 + 6 * j) 4 (nI v')) n j i (p, k, v', w, c, r, cl) h ice sh := by
  obtain ⟨hn, ⟨f2, f3, f4, f5, f6, f7⟩, ⟨g0, g1, g2, g3⟩, b1, b2, b3, b4, b5, b6, b7, b8⟩ := hc
  refine ⟨hn, ⟨?_, ?_, wm_s _ _ _ _, ?_, ?_, ?_⟩, ⟨?_, ?_, g2, fun hk x hx => ?_⟩, b1, b2, hw, b4, b5, b6, b7, b8⟩
  · rw [wm_k (by omega)]; exact f2
  · rw [wm_k (by omega)]; exact f3
  · rw [wm_k (by omega)]; exact f5
  · rw [wm_k (by omega)]; exact f6
  · rw [wm_k (by omega)]; exact f7
  · rw [wm_r (by omega)]; exact g0
  · rw [wm_r (by omega)]; exact g1
  · rw [wm_r (by omega)]; exact g3 hk x hx
/-- the class's rows of SEEN -/
def qz (μ : Nat → Nat → Int32) (n : Nat → Nat → Option Nat) (s : Nat → Int32) (np k : Nat) : Prop := k ≤ 5 ∧ s 23 = nI k ∧ μ 13 3 = nI k ∧ μ 13 0 = nI 5 ∧ n 13 1 = some 14 ∧ n 0 11 = some 13 ∧ ∀ x, x < k → (μ 14 (3 * x) = s (64 + x) ∧ μ 14 (3 * x + 1) = s (69 + x) ∧ μ 14 (3 * x + 2) = s (74 + x)) ∧ (∃ j, j < np ∧ s (64 + x) = nI j) ∧ nn (s (69 + x)) 20 ∧ nn (s (74 + x)) 4095
theorem qz_d {μ μ' : Nat → Nat → Int32} {n n' : Nat → Nat → Option Nat} {s : Nat → Int32} {np k : Nat} (h : dQ μ n μ' n') (hq : qz μ n s np k) : qz μ' n' s np k := by
  obtain ⟨a1, a2, a3, a4, a5, a6, a7⟩ := hq
  unfold qz
  rw [h.1 13 (by omega), h.1 14 (by omega), h.2 13 1 (by omega), h.2 0 11 (by omega)]
  exact ⟨a1, a2, a3, a4, a5, a6, a7⟩
theorem z_at {Kd : Nat → Nat} {μ : Nat → Nat → Int32} {n : Nat → Nat → Option Nat} {s : Nat → Int32} {np k x : Nat} (hq : qz μ n s np k) (hx : x < k) : m_X8_at (kC Kd) lC 13 (nI x) 0 (μ, n) = some (s (64 + x)) ∧ m_X8_at (kC Kd) lC 13 (nI x) 1 (μ, n) = some (s (69 + x)) ∧ m_X8_at (kC Kd) lC 13 (nI x) 2 (μ, n) = some (s (74 + x)) := by
  obtain ⟨a1, a2, a3, a4, a5, a6, a7⟩ := hq
  obtain ⟨⟨e1, e2, e3⟩, _⟩ := a7 x hx
  have h0 : m_X8_at (kC Kd) lC 13 (nI x) 0 (μ, n) = some (μ 14 (3 * x)) := w_at (i := 1) (y := 0) (by omega) a3 a4 a5 a1 hx (by omega)
  have h1 : m_X8_at (kC Kd) lC 13 (nI x) 1 (μ, n) = some (μ 14 (3 * x + 1)) := w_at (i := 1) (y := 1) (by omega) a3 a4 a5 a1 hx (by omega)
  have h2 : m_X8_at (kC Kd) lC 13 (nI x) 2 (μ, n) = some (μ 14 (3 * x + 2)) := w_at (i := 1) (y := 2) (by omega) a3 a4 a5 a1 hx (by omega)
  rw [h0, h1, h2, e1, e2, e3]
  exact ⟨rfl, rfl, rfl⟩
theorem z_size {Kd : Nat → Nat} {μ : Nat → Nat → Int32} {n : Nat → Nat → Option Nat} {s : Nat → Int32} {np k : Nat} (hq : qz μ n s np k) : m_X8_size (kC Kd) lC 13 (μ, n) = some (nI k) := by
  obtain ⟨a1, a2, a3, a4, a5, a6, a7⟩ := hq
  have h : m_X8_size (kC Kd) lC 13 (μ, n) = some (nI (min k 5)) := w_size (i := 1) (by omega) a3 a4 (by omega)
  rw [h, Nat.min_eq_left a1]
/-- a guess: row wh of the reference holds g, the class's courses run by c, a2, a3, a4 -/
def gss (s : Nat → Int32) (np : Nat) (cl : List Cl) (f t wh g c : Nat) (a2 a3 a4 : Int32) : Prop := c ≤ 20 ∧ (wh = 1 ∨ (15 ≤ wh ∧ wh < 21) ∨ (34 ≤ wh ∧ wh < 40)) ∧ rI (upd s wh (nI g)) ∧ (∀ x, x < np → ¬ nI x = a2 → pq (upd s wh (nI g)) cl x = pqc s cl x c) ∧ (∀ x, x < np → nI x = a2 → ∃ w v, w ≤ 9 ∧ v ≤ 9 ∧ a3 = nI w ∧ a4 = nI v ∧ pq (upd s wh (nI g)) cl x = (x, N (s (28 + x)), v, w, c, (fun i => N (s (40 + 4 * x + i))), cl))
