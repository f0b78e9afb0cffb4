/-! methods, both sides: feed -/
section X
variable {Kd : Nat → Nat} {μ : Nat → Nat → Int32} {n : Nat → Nat → Option Nat} {ρ : Nat → Nat → Int32}
theorem x_feed (hR : Rep Kd μ n ρ) (a : Int32) : ∃ r μ' ρ', m_X11_feed (kC Kd) lC 0 a (μ, n) = some (r, (μ', n)) ∧ m_X12_feed kR lR 0 a (ρ, nR) = some (r, (ρ', nR)) ∧ Rep Kd μ' n ρ' := by
  have hR0 := hR
  obtain ⟨np, nt, ⟨h1, _⟩, _, ⟨⟨k, t1, t2, t3, t4⟩, hseen, hplan, hbook⟩, ⟨m0, _⟩, _⟩ := hR
  obtain ⟨⟨_, _, _, _, n6, _⟩, _, _, hw, _⟩ := h1
  have hw0 : n 10 1 = some 11 := (hw 0 (by omega)).1
  have zf : m_X8_isFull (kC Kd) lC 10 (μ, n) = some (b2i (decide (100 ≤ k))) := w_full (i := 0) (by omega) t3 m0 (by omega)
  have c10 : ∀ {α : Type} (F : Option α), fm_ck (kC Kd 10 == 8) F = F := fun F => C_ck rfl F
  unfold m_X11_feed m_X12_feed
  simp only [k_isWithin, r_in0, fm_b1_s, b2i_if]
  rw [show (127 : Int32) = nI 127 from rfl]
  rcases in_c a (m := 127) (by omega) with hc | ⟨c, hc127, rfl, hc⟩
  · rw [hc]
    exact ⟨_, _, _, rfl, rfl, hR0⟩
  rw [hc, if_pos rfl, if_pos rfl, C_r0 n6, c10, zf, fm_b1_s, b2i_if]
  simp only [R_g1, R_s26]
  have h100 : (nI k = 100 ↔ k = 100) := nI_eq (b := 100) (by omega) (by omega)
  rw [t2]
  by_cases hk : k = 100
  · rw [if_pos (h100.2 hk), decide_eq_true (by omega), if_pos rfl]
    exact ⟨_, _, _, rfl, rfl, hR0⟩
  · have za : m_X8_add (kC Kd) lC 10 (nI c) 0 0 (μ, n) = some (nI (k + 1), (wm (wm (wm (wm μ 11 (3 * k) (nI c)) 11 (3 * k + 1) 0) 11 (3 * k + 2) 0) 10 3 (nI (k + 1)), n)) := w_add (i := 0) (by omega) (nI c) 0 0 t3 m0 hw0 (show k < 100 by omega)
    have zs : m_X8_size (kC Kd) lC 10 (wm (wm (wm (wm μ 11 (3 * k) (nI c)) 11 (3 * k + 1) 0) 11 (3 * k + 2) 0) 10 3 (nI (k + 1)), n) = some (nI (min (k + 1) 100)) := w_size (i := 0) (by omega) (wm_s _ _ _ _) (by
      show wm (wm (wm (wm μ 11 (3 * k) (nI c)) 11 (3 * k + 1) 0) 11 (3 * k + 2) 0) 10 3 (nI (k + 1)) 10 0 = _
      rw [wm_k (by omega), wm_r (by omega), wm_r (by omega), wm_r (by omega)]
      exact m0) (by omega)
    rw [if_neg (fun a => hk (h100.1 a)), decide_eq_false (by omega), if_neg (by decide), C_r0 n6, c10, za, fm_bi_s, C_r0 n6, c10, zs, fm_b1_s, Nat.min_eq_left (by omega)]
    simp (disch := omega) only [R_g1, L_111, R_ws, R_s26, R_w26]
    rw [wm_k (show (26 : Nat) ≠ 111 + k by omega), t2, nI_1, wm_s]
    refine ⟨_, _, _, rfl, rfl, Rep_row hR0 (fun r a b _ _ _ _ _ _ => ?_) (fun r hr x hx => ?_) (fun j hj => ?_) ⟨?_, ?_, ?_, ?_⟩ (fun np' h21 h6 => ?_)⟩
    · rw [wm_r a, wm_r b, wm_r b, wm_r b]
    · rcases hr with rfl | rfl | rfl | rfl
      · rw [wm_k hx, wm_r (by omega), wm_r (by omega), wm_r (by omega)]
      · rw [wm_r (by omega), wm_r (by omega), wm_r (by omega), wm_r (by omega)]
      · rw [wm_r (by omega), wm_r (by omega), wm_r (by omega), wm_r (by omega)]
      · rw [wm_r (by omega), wm_r (by omega), wm_r (by omega), wm_r (by omega)]
    · rw [wm_k (by omega), wm_k (by omega)]
    · rw [wm_r (by omega), wm_r (by omega)]
    · rw [wm_r (by omega), wm_r (by omega)]
    · rw [wm_r (by omega), wm_r (by omega)]
    · rw [wm_r (by omega), wm_r (by omega)]
    · obtain ⟨np2, nt2, ⟨_, _, _, _, _, w6, w7⟩, _, ⟨_, q2, q3, q4⟩, _⟩ := hR0
      have hnp := np_eq (w6.symm.trans h21) w7 h6
      subst hnp
      have e : ∀ r, r ≠ 10 → r ≠ 11 → wm (wm (wm (wm μ 11 (3 * k) (nI c)) 11 (3 * k + 1) 0) 11 (3 * k + 2) 0) 10 3 (nI (k + 1)) r = μ r := fun r a b => by rw [wm_r a, wm_r b, wm_r b, wm_r b]
      have es : ∀ j, j < 111 → j ≠ 26 → wm (wm ρ 1 (111 + k) (nI c)) 1 26 (nI (k + 1)) 1 j = ρ 1 j := fun j a b => by rw [wm_k b, wm_k (by omega)]
      refine ⟨⟨k + 1, by omega, wm_s _ _ _ _, wm_s _ _ _ _, fun x hx => ?_⟩, ?_, ?_, ?_⟩
      · rw [wm_r (show (11 : Nat) ≠ 10 by omega)]
        by_cases hxk : x = k
        · subst hxk
          rw [wm_k (by omega), wm_k (by omega), wm_s, wm_k (show 111 + x ≠ 26 by omega), wm_s]
          exact ⟨rfl, nn_mk hc127⟩
        · rw [wm_k (by omega), wm_k (by omega), wm_k (by omega), wm_k (show 111 + x ≠ 26 by omega), wm_k (show 111 + x ≠ 111 + k by omega)]
          exact t4 x (by omega)
      · rw [e 13 (by omega) (by omega), e 14 (by omega) (by omega)]
        obtain ⟨k2, a1, a2, a3, a4⟩ := q2
        refine ⟨k2, a1, by rw [es 23 (by omega) (by omega)]; exact a2, a3, fun x hx => ?_⟩
        rw [es (64 + x) (by omega) (by omega), es (69 + x) (by omega) (by omega), es (74 + x) (by omega) (by omega)]
        exact a4 x hx
      · rw [e 16 (by omega) (by omega), e 17 (by omega) (by omega)]
        obtain ⟨k2, a1, a2, a3, a4⟩ := q3
        refine ⟨k2, a1, by rw [es 24 (by omega) (by omega)]; exact a2, a3, fun x hx => ?_⟩
        rw [es (79 + x) (by omega) (by omega), es (87 + x) (by omega) (by omega)]
        exact a4 x hx
      · rw [e 19 (by omega) (by omega), e 20 (by omega) (by omega)]
        obtain ⟨k2, a1, a2, a3, a4⟩ := q4
        refine ⟨k2, a1, by rw [es 25 (by omega) (by omega)]; exact a2, a3, fun x hx => ?_⟩
        rw [es (95 + x) (by omega) (by omega), es (103 + x) (by omega) (by omega)]
        exact a4 x hx
end X
