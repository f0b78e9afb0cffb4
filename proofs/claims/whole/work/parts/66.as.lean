/-! methods, both sides: as -/
def und (K k : Nat) : Bool := decide (k = 0) || decide (k = K) || (decide (0 < k) && decide (k < 4) && decide (K = k + 3))
theorem und_R (kap lam : Nat → Nat) (S : fm_M) : ∀ K, K < 7 → ∀ k, k < 7 → m_X12_isUnder kap lam (nI K) (nI k) S = some (b2i (und K k)) := by
  intro K hK k hk
  have h : (if nI k = 0 then (1 : Int32) else if nI k = nI K then 1 else if nI k ≤ 0 then 0 else if 4 ≤ nI k then 0 else if nI K = nI k + 3 then 1 else 0) = b2i (und K k) := by
    have : ∀ K, K < 7 → ∀ k, k < 7 → (if nI k = 0 then (1 : Int32) else if nI k = nI K then 1 else if nI k ≤ 0 then 0 else if 4 ≤ nI k then 0 else if nI K = nI k + 3 then 1 else 0) = b2i (und K k) := by decide +kernel
    exact this K hK k hk
  unfold m_X12_isUnder
  rw [← h, fm_z0, fm_z1]
  by_cases a1 : nI k = 0
  · rw [if_pos a1, if_pos a1]
  rw [if_neg a1, if_neg a1]
  by_cases a2 : nI k = nI K
  · rw [if_pos a2, if_pos a2]
  rw [if_neg a2, if_neg a2]
  by_cases a3 : nI k ≤ 0
  · rw [if_pos a3, if_pos a3]
  rw [if_neg a3, if_neg a3]
  by_cases a4 : 4 ≤ nI k
  · rw [if_pos a4, if_pos a4]
  rw [if_neg a4, if_neg a4]
  by_cases a5 : nI K = nI k + 3
  · rw [if_pos a5, if_pos a5]
  · rw [if_neg a5, if_neg a5]
theorem und_C (kap lam : Nat → Nat) (S : fm_M) (q : Nat) {K k : Nat} (hK : K < 7) (hk : k < 7) (hq : kap q = ckK K) : m_X11_isTakenFor kap lam q (nI k) S = some (b2i (und K k)) := by
  have h5 : fm_isC (kap q) 5 = true := by rw [hq]; exact isC_ck K
  have ht : ∀ K, K < 7 → und K 0 = true ∧ fm_isC (ckK K) 3 = und K 1 ∧ fm_isC (ckK K) 4 = und K 2 ∧ fm_isC (ckK K) 7 = und K 3 ∧ fm_isC (ckK K) 2 = und K 4 ∧ fm_isC (ckK K) 0 = und K 5 ∧ fm_isC (ckK K) 9 = und K 6 := by decide
  obtain ⟨u0, u1, u2, u3, u4, u5, u6⟩ := ht K hK
  unfold m_X11_isTakenFor fm_ins
  rw [if_pos h5, if_pos h5, if_pos h5, if_pos h5, if_pos h5, if_pos h5, hq, u1, u2, u3, u4, u5, u6]
  simp only [fm_zb, fm_z1]
  match k, hk with
  | 0, _ => rw [if_pos (by decide), u0]; rfl
  | 1, _ => rw [if_neg (by decide), if_pos (by decide)]; rfl
  | 2, _ => rw [if_neg (by decide), if_neg (by decide), if_pos (by decide)]; rfl
  | 3, _ => rw [if_neg (by decide), if_neg (by decide), if_neg (by decide), if_pos (by decide)]; rfl
  | 4, _ => rw [if_neg (by decide), if_neg (by decide), if_neg (by decide), if_neg (by decide), if_pos (by decide)]; rfl
  | 5, _ => rw [if_neg (by decide), if_neg (by decide), if_neg (by decide), if_neg (by decide), if_neg (by decide), if_pos (by decide)]; rfl
  | 6, _ => rw [if_neg (by decide), if_neg (by decide), if_neg (by decide), if_neg (by decide), if_neg (by decide), if_neg (by decide)]; rfl
section X
variable {Kd : Nat → Nat} {μ : Nat → Nat → Int32} {n : Nat → Nat → Option Nat} {ρ : Nat → Nat → Int32}
theorem x_as (hR : Rep Kd μ n ρ) (a b : Int32) : ∃ r, m_X11_as (kC Kd) lC 0 a b (μ, n) = some r ∧ m_X12_as kR lR 0 a b (ρ, nR) = some r := by
  obtain ⟨np, nt, ⟨h1, h2, h3, h4, h5, h6, h7⟩, _⟩ := hR
  obtain ⟨⟨n0, _⟩, _⟩ := h1
  unfold m_X11_as m_X12_as
  simp only [C_c0, R_ck, k_isWithin, r_in0, x_pC h3 h6, x_pR h6, fm_b1_s, b2i_if]
  rcases pane_c a h7 with hc | ⟨j, hj, rfl, hc⟩
  · rw [hc]
    exact ⟨_, rfl, rfl⟩
  rw [hc, if_pos rfl, if_pos rfl, show (6 : Int32) = nI 6 from rfl]
  rcases in_c b (m := 6) (by omega) with hc | ⟨k, hk, rfl, hc⟩
  · rw [hc]
    exact ⟨_, rfl, rfl⟩
  obtain ⟨p1, _⟩ := h2 j hj
  obtain ⟨q0, q1, q2, q3, q4, q5, q6, q7⟩ := h4 j hj
  obtain ⟨e28, l28⟩ := nn_N (by omega) (h5.2.2.2 j (by omega)).2.2.2.1
  have hC := und_C (kC Kd) lC (μ, n) (100 + 6 * j) (K := N (ρ 1 (28 + j))) (k := k) (by omega) (by omega) (by rw [kC_o, q6])
  have hRr := und_R kR lR (ρ, nR) (N (ρ 1 (28 + j))) (by omega) k (by omega)
  rw [← e28] at hRr
  rw [hc, if_pos rfl, if_pos rfl, C_r0 n0, C_lr1 (by omega) p1, hC, fm_b1_s, C_r0 n0, C_lr1 (by omega) p1, C_gio, q2]
  simp (disch := omega) only [R_g1, L_28, L_34, R_s, hRr, fm_b1_s]
  cases und (N (ρ 1 (28 + j))) k
  · exact ⟨_, if_pos rfl, if_pos rfl⟩
  · exact ⟨_, if_neg (by decide), if_neg (by decide)⟩
end X
