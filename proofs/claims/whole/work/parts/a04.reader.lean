/-! methods, both sides: town; the class's reader: numbers, tests -/
theorem nd_ok : ∀ x, x < 128 → isD (nI x) = false → nI x - 48 < 0 ∨ ¬ nI x - 48 ≤ 9 := by decide
theorem nd_9 {z : Nat} {sg : Nat → Int32} (h : sgI z sg) {p : Nat} (hd : ¬ isD (sg p) = true) : sg p - 48 < 0 ∨ ¬ sg p - 48 ≤ 9 := by
  have hd : isD (sg p) = false := by simpa using hd
  by_cases hp : p < z
  · obtain ⟨x, hx, e⟩ := (h p).1 hp
    rw [e] at hd ⊢
    exact nd_ok x hx hd
  · rw [(h p).2 (by omega)]
    decide
def Pv (a0 a1 : Int32) (x : Nat) : Bool := if a0 = 60 then !(decide (a1 ≤ nI x)) else if a0 = 61 then decide (nI x = a1) else !(decide (nI x ≤ a1))
theorem vs4_s (kap lam : Nat → Nat) (S : fm_M) (f : Nat) : b_X6_valuesSo_4 kap lam S (f + 1) = k_X6_valuesSo_4 kap lam S (b_X6_valuesSo_4 kap lam S f) (b_X6_valuesSo_58 kap lam S f) := rfl
theorem vs58_s (kap lam : Nat → Nat) (S : fm_M) (f : Nat) : b_X6_valuesSo_58 kap lam S (f + 1) = k_X6_valuesSo_58 kap lam S (b_X6_valuesSo_4 kap lam S f) (b_X6_valuesSo_58 kap lam S f) := rfl
theorem icN_s (f : Nat → Bool) (c : Nat) : icN f (c + 1) = icN f c + (if f c = true then 2 ^ c else 0) := rfl
theorem k_vsl (kap lam : Nat → Nat) (S : fm_M) (a0 a1 : Int32) : ∀ (d x fuel : Nat), x + d = 12 → b_X6_valuesSo_4 kap lam S (fuel + 2 * d + 1) a0 a1 (nI (icN (Pv a0 a1) x)) (nI x) = some (nI (icN (Pv a0 a1) 12)) := by
  intro d
  induction d with
  | zero =>
    intro x fuel hx
    have hx : x = 12 := hx
    subst hx
    rw [vs4_s]
    unfold k_X6_valuesSo_4
    rw [if_pos (show (12 : Int32) ≤ nI 12 by decide)]
  | succ d ih =>
    intro x fuel hx
    have hlt := icN_lt (Pv a0 a1) x
    have ih' := ih (x + 1) fuel (by omega)
    rw [icN_s] at ih'
    have h58 : ∀ b : Bool, Pv a0 a1 x = b → b_X6_valuesSo_58 kap lam S (fuel + 2 * d + 1 + 1) a0 a1 (nI (icN (Pv a0 a1) x)) (nI x) (b2i b) = some (nI (icN (Pv a0 a1) 12)) := by
      intro b hb
      rw [← ih', vs58_s, hb]
      unfold k_X6_valuesSo_58
      cases b with
      | false =>
        rw [if_pos (show b2i false = 0 from rfl), if_neg (by decide), R_let, R_let, nI_1, Int32.or_zero]
        rfl
      | true =>
        rw [if_neg (show ¬ b2i true = 0 by decide), if_pos rfl, R_let, R_let, nI_1, or_sh (by omega) hlt]
    rw [show fuel + 2 * (d + 1) + 1 = fuel + 2 * d + 1 + 1 + 1 by omega, vs4_s]
    generalize b_X6_valuesSo_58 kap lam S (fuel + 2 * d + 1 + 1) = G at h58 ⊢
    unfold k_X6_valuesSo_4
    rw [if_neg (nge12 x (by omega))]
    unfold Pv at h58
    by_cases h0 : a0 = 60
    · rw [if_pos h0] at h58 ⊢
      by_cases h1 : a1 ≤ nI x
      · rw [if_pos h1]
        exact h58 false (by rw [decide_eq_true h1]; rfl)
      · rw [if_neg h1]
        exact h58 true (by rw [decide_eq_false h1]; rfl)
    · rw [if_neg h0] at h58 ⊢
      by_cases h2 : a0 = 61
      · rw [if_pos h2] at h58 ⊢
        by_cases h1 : nI x = a1
        · rw [if_pos h1]
          exact h58 true (decide_eq_true h1)
        · rw [if_neg h1]
          exact h58 false (decide_eq_false h1)
      · rw [if_neg h2] at h58 ⊢
        by_cases h1 : nI x ≤ a1
        · rw [if_pos h1]
          exact h58 false (by rw [decide_eq_true h1]; rfl)
        · rw [if_neg h1]
          exact h58 true (by rw [decide_eq_false h1]; rfl)
theorem k_vs (kap lam : Nat → Nat) (S : fm_M) (a0 a1 : Int32) : m_X6_valuesSo kap lam a0 a1 S = some (nI (icN (Pv a0 a1) 12)) := by
  unfold m_X6_valuesSo
  rw [R_let, R_let]
  exact k_vsl kap lam S a0 a1 12 0 975 (by omega)
theorem icN_cc {f g : Nat → Bool} : ∀ n, (∀ c, c < n → f c = g c) → icN f n = icN g n
  | 0, _ => rfl
  | n + 1, h => by
    rw [icN_s, icN_s, icN_cc n (fun c hc => h c (by omega)), h n (by omega)]
theorem Pv_m {x : Int32} (h : ¬ rl x = 3) {v : Nat} (hv : v < 100) : icN (Pv x (nI v)) 12 = msk (rl x) v := by
  unfold msk
  refine icN_cc 12 (fun c hc => ?_)
  unfold Pv cmpB rl
  have e1 : (nI v ≤ nI c ↔ v ≤ c) := nI_leI (by omega) (by omega)
  have e2 : (nI c = nI v ↔ c = v) := nI_eq (by omega) (by omega)
  have e3 : (nI c ≤ nI v ↔ c ≤ v) := nI_leI (by omega) (by omega)
  by_cases h0 : x = 60
  · rw [if_pos h0, if_pos h0, if_pos rfl]
    by_cases hc : v ≤ c
    · rw [decide_eq_true (e1.2 hc), decide_eq_false (show ¬ c < v by omega)]
      rfl
    · rw [decide_eq_false (fun h => hc (e1.1 h)), decide_eq_true (show c < v by omega)]
      rfl
  · rw [if_neg h0, if_neg h0]
    by_cases h1 : x = 61
    · rw [if_pos h1, if_pos h1, if_neg (by decide), if_pos rfl]
      by_cases hc : c = v
      · rw [decide_eq_true (e2.2 hc), decide_eq_true hc]
      · rw [decide_eq_false (fun h => hc (e2.1 h)), decide_eq_false hc]
    · rw [if_neg h1, if_neg h1]
      have h2 : x = 62 := by
        by_cases h2 : x = 62
        · exact h2
        · refine absurd ?_ h
          unfold rl
          rw [if_neg h0, if_neg h1, if_neg h2]
      rw [if_pos h2, if_neg (by decide), if_neg (by decide)]
      by_cases hc : c ≤ v
      · rw [decide_eq_true (e3.2 hc), decide_eq_false (show ¬ v < c by omega)]
        rfl
      · rw [decide_eq_false (fun h => hc (e3.1 h)), decide_eq_true (show v < c by omega)]
        rfl
section R
variable {Kd : Nat → Nat} {m z : Nat} {sg : Nat → Int32} {n : Nat → Nat → Option Nat} {μ : Nat → Nat → Int32} {p c : Nat}
theorem k_num (hs : sgI z sg) (h : cS m z sg n μ p c) : ∃ μ', m_X6_number (kC Kd) lC 30 (μ, n) = some (b2i (num sg p).1, (μ', n)) ∧ cS m z sg n μ' (num sg p).2.1 c ∧ (∀ r, r ≠ 30 → μ' r = μ r) ∧ ((num sg p).1 = true → μ' 30 3 = nI (num sg p).2.2) := by
  have hc := h
  obtain ⟨⟨h0, _, _, _, hz⟩, h1, h2, h3, h4⟩ := h
  unfold m_X6_number num
  rw [C_gr30 h0, C_gi30, h1, C_ld31 (by omega), h3 p h2, R_let]
  by_cases hd : isD (sg p) = true
  · obtain ⟨d1, d2, d3⟩ := dv_9 hs hd
    rw [if_pos hd, d2, if_neg (show ¬ nI (dv (sg p)) < 0 from nI_nlt (b := 0) (by omega) (by omega)), if_pos (show nI (dv (sg p)) ≤ (9 : Int32) from nI_le (b := 9) (by omega) (by omega)), C_pi30, C_gi30, wm_k (by omega), h1, C_pi30, nI_1, C_gr30 h0, C_gi30, wm_s, C_ld31 (by omega), wm_r (by omega), wm_r (by omega), h3 (p + 1) (by omega), R_let]
    have hc1 : cS m z sg n (wm (wm μ 30 3 (nI (dv (sg p)))) 30 2 (nI (p + 1))) (p + 1) c := cS_p (cS_3 hc _) (by omega)
    have hf1 : ∀ r, r ≠ 30 → wm (wm μ 30 3 (nI (dv (sg p)))) 30 2 (nI (p + 1)) r = μ r := fun r hr => by rw [wm_r hr, wm_r hr]
    have hv1 : wm (wm μ 30 3 (nI (dv (sg p)))) 30 2 (nI (p + 1)) 30 3 = nI (dv (sg p)) := by rw [wm_k (by omega), wm_s]
    by_cases hz0 : 0 < dv (sg p)
    · rw [if_neg (show ¬ nI (dv (sg p)) ≤ 0 from nI_ge (a := 0) (by omega) (by omega))]
      by_cases hd2 : isD (sg (p + 1)) = true
      · obtain ⟨e1, e2, e3⟩ := dv_9 hs hd2
        rw [if_pos (show 0 < dv (sg p) ∧ isD (sg (p + 1)) = true from ⟨hz0, hd2⟩), e2, if_neg (show ¬ nI (dv (sg (p + 1))) < 0 from nI_nlt (b := 0) (by omega) (by omega)), if_neg (show ¬ (9 : Int32) < nI (dv (sg (p + 1))) from nI_nlt (a := 9) (by omega) (by omega)), C_pi30, C_gi30, wm_k (by omega), wm_s, C_pi30, nI_1, fm_z1]
        refine ⟨_, rfl, cS_p (cS_3 hc1 _) (by omega), fun r hr => by rw [wm_r hr, wm_r hr]; exact hf1 r hr, fun _ => ?_⟩
        rw [wm_k (by omega), wm_s, show (10 : Int32) = nI 10 from rfl, pk_mul, nI_add, Nat.mul_comm]
      · rw [if_neg (show ¬ (0 < dv (sg p) ∧ isD (sg (p + 1)) = true) from fun h => hd2 h.2)]
        rcases nd_9 hs hd2 with hn | hn
        · rw [if_pos hn, fm_z1]
          exact ⟨_, rfl, hc1, hf1, fun _ => hv1⟩
        · by_cases hl : sg (p + 1) - 48 < 0
          · rw [if_pos hl, fm_z1]
            exact ⟨_, rfl, hc1, hf1, fun _ => hv1⟩
          · rw [if_neg hl, if_pos (show (9 : Int32) < sg (p + 1) - 48 from Int32.not_le.1 hn), fm_z1]
            exact ⟨_, rfl, hc1, hf1, fun _ => hv1⟩
    · have hz1 : dv (sg p) = 0 := by omega
      rw [if_neg (show ¬ (0 < dv (sg p) ∧ isD (sg (p + 1)) = true) from fun h => hz0 h.1), if_pos (show nI (dv (sg p)) ≤ 0 by rw [hz1]; decide), fm_z1]
      exact ⟨_, rfl, hc1, hf1, fun _ => hv1⟩
  · rw [if_neg hd]
    refine ⟨μ, ?_, hc, fun _ _ => rfl, fun h => absurd h (by simp)⟩
    rcases nd_9 hs hd with hn | hn
    · rw [if_pos hn, fm_z0]
      rfl
    · by_cases hl : sg p - 48 < 0
      · rw [if_pos hl, fm_z0]
        rfl
      · rw [if_neg hl, if_neg hn, fm_z0]
        rfl
end R
