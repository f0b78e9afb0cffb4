/-! methods, both sides: told, cold, shut, set, breathe -/
theorem or_sh {x p : Nat} (hp : p < 12) (h : x < 2 ^ p) : nI x ||| ((1 : Int32) <<< (nI p &&& 31)) = nI (x + 2 ^ p) := by
  rw [show (1 : Int32) = nI 1 from rfl, sh_shl (by omega) (by rw [Nat.one_mul]; exact Nat.pow_lt_pow_right (by omega) (by omega)), Nat.one_mul, nI_or, or_pow h]
section X
variable {Kd : Nat → Nat} {μ : Nat → Nat → Int32} {n : Nat → Nat → Option Nat} {ρ : Nat → Nat → Int32}
theorem x_shC {np i : Nat} {cl : List Cl} {f t : Nat} (hg : gen Kd μ n (ρ 1) np i cl f t) : ∀ (d k fuel : Nat), k + d = np → b_X11_shutPanes_4 (kC Kd) lC (μ, n) (fuel + d + 1) 0 (nI (icN (shB (ρ 1)) k)) (nI k) = some (nI (icN (shB (ρ 1)) np)) := by
  obtain ⟨g1, g2, g3, g4, g5, g6, g7, g8, g9, g10⟩ := hg
  intro d
  induction d with
  | zero =>
    intro k fuel hk
    have hk : k = np := hk
    subst hk
    rw [b_X11_shutPanes_4]
    unfold k_X11_shutPanes_4
    rw [C_g0, g3.1, g6, if_pos (Int32.le_refl _)]
  | succ d ih =>
    intro k fuel hk
    have hi2 := ih (k + 1) fuel (by omega)
    obtain ⟨p1, _⟩ := g2 k (by omega)
    have q5 := (g4 k (by omega)).2.2.2.2.2.1
    have e9 := shB_e g5 (show k < 6 by omega)
    rw [show fuel + (d + 1) + 1 = fuel + d + 1 + 1 by omega, b_X11_shutPanes_4]
    unfold k_X11_shutPanes_4
    rw [C_g0, g3.1, g6, if_neg (nI_ge (by omega) (by omega)), C_r0 g1.1.1, C_lr1 (by omega) p1, C_gio, q5, e9, b2i_if, R_let, R_let, R_let, or_sh (by omega) (icN_lt _ _), nI_1]
    rw [icN] at hi2
    cases hs : shB (ρ 1) k
    · rw [hs, if_neg (by decide)] at hi2
      exact hi2
    · rw [hs, if_pos rfl] at hi2
      exact hi2
theorem x_shR {np i : Nat} {cl : List Cl} {f t : Nat} (hg : gen Kd μ n (ρ 1) np i cl f t) : ∀ (d k fuel : Nat), k + d = np → b_X12_shutOnes_4 kR lR (ρ, nR) (fuel + d + 1) 0 (nI (icN (shB (ρ 1)) k)) (nI k) = some (nI (icN (shB (ρ 1)) np)) := by
  obtain ⟨g1, g2, g3, g4, g5, g6, g7, g8, g9, g10⟩ := hg
  intro d
  induction d with
  | zero =>
    intro k fuel hk
    have hk : k = np := hk
    subst hk
    rw [b_X12_shutOnes_4]
    unfold k_X12_shutOnes_4
    simp only [R_g1, R_s21]
    rw [g6, if_pos (Int32.le_refl _)]
  | succ d ih =>
    intro k fuel hk
    have hi2 := ih (k + 1) fuel (by omega)
    have e9 := shB_e g5 (show k < 6 by omega)
    rw [show fuel + (d + 1) + 1 = fuel + d + 1 + 1 by omega, b_X12_shutOnes_4]
    unfold k_X12_shutOnes_4
    simp (disch := omega) only [R_g1, R_s21, L_9, R_s, R_let]
    rw [g6, if_neg (nI_ge (by omega) (by omega)), e9, nI_1]
    rw [icN] at hi2
    cases hs : shB (ρ 1) k
    · rw [hs, if_neg (by decide), Nat.add_zero] at hi2
      rw [show b2i false = nI 0 from rfl, sh_shl (by omega) (by omega), Nat.zero_mul, show nI 0 = 0 from rfl, Int32.or_zero]
      exact hi2
    · rw [hs, if_pos rfl] at hi2
      rw [show b2i true = 1 from rfl, or_sh (by omega) (icN_lt _ _)]
      exact hi2
theorem x_told (hR : Rep Kd μ n ρ) (a : Int32) : ∃ r μ' n', m_X11_told (kC Kd) lC 0 a (μ, n) = some (r, (μ', n')) ∧ m_X12_told kR lR 0 a (ρ, nR) = some r ∧ Rep Kd μ' n' ρ := by
  obtain ⟨np, i, cl, f, t, hg, h99⟩ := Rep_gen hR
  have hh := k_held hg
  have hg0 := hg
  obtain ⟨g1, g2, g3, g4, g5, g6, g7, g8, g9, g10⟩ := hg
  have hi6 : i < 6 := by rcases g10 with ⟨_, h⟩ | ⟨h, _⟩ <;> omega
  obtain ⟨t1, t2, _, _⟩ := r_tl g8
  obtain ⟨μ1, n1, b1, b2⟩ := k_offB (N0 := 0) hg0 (by omega) (by omega)
  have hro := r_offers g5 g8 g6 g7
  have hsum : sumO f t (fun p => goS (pq (ρ 1) cl p) (shB (ρ 1) p) 0 (N (ρ 1 0)) (N (ρ 1 (3 + p)))) np = sumO f t (fun p => N (ρ 1 (3 + p))) np := sumO_c np (fun p _ => goS_z _ _ _ _)
  rw [hsum] at b1
  have hsC : m_X11_shutPanes (kC Kd) lC 0 (μ, n) = some (nI (icN (shB (ρ 1)) np)) := by
    unfold m_X11_shutPanes
    rw [R_let, R_let, show fm_LF = 999 - np + np + 1 by unfold fm_LF; omega]
    exact x_shC hg0 np 0 (999 - np) (by omega)
  have hsR : m_X12_shutOnes kR lR 0 (ρ, nR) = some (nI (icN (shB (ρ 1)) np)) := by
    unfold m_X12_shutOnes
    rw [R_let, R_let, show fm_LF = 999 - np + np + 1 by unfold fm_LF; omega]
    exact x_shR hg0 np 0 (999 - np) (by omega)
  unfold m_X11_told m_X12_told
  rw [show m_X11_offersBehind (kC Kd) lC 0 0 (μ, n) = _ from b1]
  simp only [C_c0, R_ck, C_g0, hh, fm_b1_s, C_git hi6, fm_bi_s, hsC, hsR, R_g1, R_s0, R_s1, R_s2, t1, t2, hro, g3.2.2.1, g3.2.2.2.1, g3.2.2.2.2, g9.1, g9.2.1]
  by_cases a0 : a = 0
  · exact ⟨_, _, _, if_pos a0, if_pos a0, hR⟩
  rw [if_neg a0, if_neg a0]
  by_cases a1 : a = 1
  · exact ⟨_, _, _, if_pos a1, if_pos a1, hR⟩
  rw [if_neg a1, if_neg a1]
  by_cases a2 : a = 2
  · exact ⟨_, _, _, if_pos a2, if_pos a2, hR⟩
  rw [if_neg a2, if_neg a2]
  by_cases a3 : a = 3
  · exact ⟨_, _, _, if_pos a3, if_pos a3, hR⟩
  rw [if_neg a3, if_neg a3]
  by_cases a4 : a = 4
  · exact ⟨_, _, _, if_pos a4, if_pos a4, hR⟩
  rw [if_neg a4, if_neg a4]
  by_cases a5 : a = 5
  · exact ⟨_, _, _, if_pos a5, if_pos a5, Rep_k (kQ_d b2) ⟨rfl, rfl, rfl, rfl, rfl⟩ hR⟩
  rw [if_neg a5, if_neg a5]
  by_cases a6 : a = 6
  · exact ⟨_, _, _, if_pos a6, if_pos a6, hR⟩
  · exact ⟨_, _, _, if_neg a6, if_neg a6, hR⟩
theorem r_becomes {k : Nat} (hk : k < 926) (x : Int32) : m_X12_becomes kR lR 0 (nI k) x (ρ, nR) = some (ρ 1 k, (wm ρ 1 k x, nR)) := by
  unfold m_X12_becomes
  simp only [R_g1, R_s hk, R_ws hk]
/-- a number below 21 of the reference becomes another -/
theorem rI_w {s : Nat → Int32} (hI : rI s) {k : Nat} {x : Int32} (h0 : k = 0 → nn x 20000) (h1 : k = 1 → nn x 20) (h3 : ∀ p, p < 6 → k = 3 + p → nn x 4095) (h9 : ∀ p, p < 6 → k = 9 + p → nn x 1) (h15 : ∀ p, p < 6 → k = 15 + p → nn x 9) (hk : k < 21) : rI (upd s k x) := by
  obtain ⟨a0, a1, a21, aP⟩ := hI
  have e : ∀ j b, nn (s j) b → (k = j → nn x b) → nn (upd s k x j) b := by
    intro j b h h2
    by_cases hj : k = j
    · subst hj
      rw [upd_s]
      exact h2 rfl
    · rw [upd_n (fun a => hj a.symm)]
      exact h
  refine ⟨e _ _ a0 h0, e _ _ a1 h1, e _ _ a21 (fun h => absurd h (by omega)), fun p hp => ?_⟩
  obtain ⟨b3, b9, b15, b28, b34, b40⟩ := aP p hp
  exact ⟨e _ _ b3 (h3 p hp), e _ _ b9 (h9 p hp), e _ _ b15 (h15 p hp), e _ _ b28 (fun h => absurd h (by omega)), e _ _ b34 (fun h => absurd h (by omega)), fun i hi => e _ _ (b40 i hi) (fun h => absurd h (by omega))⟩
theorem Rep_2 (hR : Rep Kd μ n ρ) : nn (ρ 1 2) 999999 := by
  obtain ⟨np, nt, _, ⟨⟨k1, k2, k3, k4, k5⟩, _⟩, _⟩ := hR
  exact k4
theorem np_eq {a b : Nat} (h : nI a = nI b) (ha : a ≤ 6) (hb : b ≤ 6) : a = b := (nI_eq (by omega) (by omega)).1 h
theorem x_cold (hR : Rep Kd μ n ρ) (a : Int32) : ∃ r μ' ρ', m_X11_cold (kC Kd) lC 0 a (μ, n) = some (r, (μ', n)) ∧ m_X12_cold kR lR 0 a (ρ, nR) = some (r, (ρ', nR)) ∧ Rep Kd μ' n ρ' := by
  obtain ⟨np, i, cl, f, t, hg, h99⟩ := Rep_gen hR
  obtain ⟨g1, g2, g3, g4, g5, g6, g7, g8, g9, g10⟩ := hg
  unfold m_X11_cold m_X12_cold
  simp only [k_isWithin, r_in0, fm_b1_s, b2i_if]
  rw [show (20 : Int32) = nI 20 from rfl]
  rcases in_c a (m := 20) (by omega) with hc | ⟨c, hc20, rfl, hc⟩
  · rw [hc]
    exact ⟨_, _, _, rfl, rfl, hR⟩
  · rw [hc, if_pos rfl, if_pos rfl, C_g0, C_p0, R_ck, show (1 : Int32) = nI 1 from rfl, r_becomes (by omega), fm_bi_s]
    refine ⟨ρ 1 1, wm μ 0 8 (nI c), wm ρ 1 1 (nI c), by rw [g3.2.2.1], rfl, Rep_lo hR (fun r hr _ => wm_r hr) (fun j k hk => by rw [wm_r (by omega)]) (fun j hj => wm_k (by omega)) ⟨wm_r (by omega), wm_r (by omega), by rw [wm_r (by omega)], by rw [wm_r (by omega)]⟩ ?_ ?_ (fun np' h21 h6' j hj => ?_) ?_ ?_⟩
    · rw [wm_u]
      exact rI_w g5 (fun h => absurd h (by omega)) (fun _ => nn_mk hc20) (fun p hp h => absurd h (by omega)) (fun p hp h => absurd h (by omega)) (fun p hp h => absurd h (by omega)) (by omega)
    · obtain ⟨c1, c5, c8, c9, c10⟩ := g3
      refine ⟨?_, ?_, ?_, ?_, ?_⟩
      · rw [wm_k (by omega), wm_k (by omega)]; exact c1
      · rw [wm_k (by omega), wm_k (by omega)]; exact c5
      · rw [wm_s, wm_s]
      · rw [wm_k (by omega), wm_k (by omega)]; exact c9
      · rw [wm_k (by omega), wm_k (by omega)]; exact c10
    · have hnn := np_eq (g6.symm.trans h21) g7 h6'
      unfold cP
      simp (disch := omega) only [wm_r (r := 0), wm_k (r := 1)]
      exact g4 j (by omega)
    · rw [wm_k (by omega)]; exact Rep_2 hR
    · rw [wm_k (by omega)]; exact h99
end X
