/-! methods, both sides: heat -/
theorem cI_w {Kd : Nat → Nat} {μ : Nat → Nat → Int32} {n : Nat → Nat → Option Nat} {j i h ice p k v w c : Nat} {r : Nat → Nat} {cl : List Cl} {sh : Bool} (hc : cI Kd μ n j i (p, k, v, w, c, r, cl) h ice sh) {w' : Nat} (hw : w' ≤ 9) : cI Kd (wm μ (103 + 6 * j) 3 (nI w')) n j i (p, k, v, w', c, r, cl) h ice sh := by
  obtain ⟨hn, ⟨f2, f3, f4, f5, f6, f7⟩, ⟨g0, g1, g2, g3⟩, b1, b2, b3, b4, b5, b6, b7, b8⟩ := hc
  refine ⟨hn, ⟨?_, wm_s _ _ _ _, ?_, ?_, ?_, ?_⟩, ⟨?_, ?_, g2, fun hk x hx => ?_⟩, b1, hw, b3, b4, b5, b6, b7, b8⟩
  · rw [wm_k (by omega)]; exact f2
  · rw [wm_k (by omega)]; exact f4
  · rw [wm_k (by omega)]; exact f5
  · rw [wm_k (by omega)]; exact f6
  · rw [wm_k (by omega)]; exact f7
  · rw [wm_r (by omega)]; exact g0
  · rw [wm_r (by omega)]; exact g1
  · rw [wm_r (by omega)]; exact g3 hk x hx
