/-! the class: bites -/
theorem k_where {Kd : Nat → Nat} {n : Nat → Nat → Option Nat} {μ : Nat → Nat → Int32} {j i h ice : Nat} {q : Pn} {sh : Bool} {a p : Nat} {t : List Op} (hI : cI Kd μ n j i q h ice sh) (ha : a < 10) (hs : (a = 0 ∧ p = 0) ∨ (0 < a ∧ μ (42 + 5 * i) (a - 1) = nI p)) (h1 : cdC (μ (43 + 5 * i)) (μ (44 + 5 * i)) p t) (h2 : opH t 0 1) (h3 : p + t.length ≤ 100) (h4 : μ (42 + 5 * i) a = nI (p + t.length)) : ∃ μ', m_X1_cellsWhere (kC Kd) lC (103 + 6 * j) (nI a) (μ, n) = some (nI (icN (okL (En q h ice) t) 12), (μ', n)) ∧ (∀ r, r ≠ 105 + 6 * j → μ' r = μ r) := by
  obtain ⟨f2, μ', d1, d2, d3, d4⟩ := k_ops ha h3 t p 0 1 (fun _ _ => false) 1000 1 μ hI h4 h1 h2 (fun x hx => absurd hx (by omega)) (by omega) (Nat.le_refl _) (by omega)
  obtain ⟨f3, rfl⟩ : ∃ f3, f2 = f3 + 1 := ⟨f2 - 1, by omega⟩
  refine ⟨μ', ?_, d3⟩
  obtain ⟨⟨⟨p1, p2, p3, p4, p5, p6⟩, ⟨t1, t2, t3, t4⟩, tt⟩, _, _, _, _, _, _, _, _, _, hi⟩ := hI
  have hend : b_X1_cellsWhere_22 (kC Kd) lC (f3 + 1) (103 + 6 * j) (nI a) (nI 1) (nI (p + t.length)) (μ', n) = some (nI (icN (okL (En q h ice) t) 12), (μ', n)) := by
    rw [b22_s]
    unfold k_X1_cellsWhere_22
    simp only [C_grc tt, C_grt hi t2, C_lt2 hi ha]
    rw [d3 (42 + 5 * i) (by omega), h4, if_pos (Int32.le_refl _)]
    simp only [C_grc p6]
    rw [show (0 : Int32) = nI 0 from rfl, C_ls (by omega), d4 0 (by omega)]
    rfl
  unfold m_X1_cellsWhere
  simp only [R_let]
  rcases hs with ⟨rfl, rfl⟩ | ⟨h0, h5⟩
  · rw [if_pos (show nI 0 = 0 from rfl)]
    exact d2.trans hend
  · rw [if_neg (nI_ne0 h0 (by omega))]
    simp only [C_grc tt, C_grt hi t2]
    rw [show (1 : Int32) = nI 1 from rfl, pk_sub (by omega), C_lt2 hi (by omega), h5]
    exact d2.trans hend
theorem b18_s (kap lam : Nat → Nat) (f : Nat) : b_X1_fillBites_18 kap lam (f + 1) = k_X1_fillBites_18 kap lam (b_X1_fillBites_18 kap lam f) (b_X1_fillBites_37 kap lam f) := rfl
theorem b37_s (kap lam : Nat → Nat) (f : Nat) : b_X1_fillBites_37 kap lam (f + 1) = k_X1_fillBites_37 kap lam (b_X1_fillBites_18 kap lam f) (b_X1_fillBites_37 kap lam f) := rfl
theorem k_fin {Kd : Nat → Nat} {n : Nat → Nat → Option Nat} {j i a : Nat} {f : Nat → Bool} (hn : nP n j ∧ nT n i ∧ n (103 + 6 * j) 1 = some (40 + 5 * i)) (hi : i < 6) (ha : a < 10) : ∀ (d x fuel : Nat) (μ : Nat → Nat → Int32), x + d = 12 → ∃ μ', b_X1_fillBites_37 (kC Kd) lC (fuel + d + 1) (103 + 6 * j) (nI a) (nI (icN f 12)) (nI x) (μ, n) = b_X1_fillBites_18 (kC Kd) lC fuel (103 + 6 * j) (nI (a + 1)) (μ', n) ∧ (∀ r, r ≠ 104 + 6 * j → μ' r = μ r) ∧ ∀ c, c < 12 → μ' (104 + 6 * j) c = (if x ≤ c ∧ f c = true then μ (104 + 6 * j) c + μ (41 + 5 * i) a else μ (104 + 6 * j) c) := by
  obtain ⟨⟨p1, p2, p3, p4, p5, p6⟩, ⟨t1, t2, t3, t4⟩, tt⟩ := hn
  intro d
  induction d with
  | zero =>
    intro x fuel μ hx
    have hx : x = 12 := hx
    subst hx
    refine ⟨μ, ?_, fun _ _ => rfl, fun c hc => by rw [if_neg (by omega)]⟩
    rw [b37_s]
    unfold k_X1_fillBites_37
    rw [if_pos (show (12 : Int32) ≤ nI 12 by decide), R_let, nI_1]
  | succ d ih =>
    intro x fuel μ hx
    have hz := bit_z (m := icN f 12) (x := x) (icN_lt f 12) (by omega)
    rw [icN_tb, decide_eq_true (show x < 12 by omega), Bool.true_and] at hz
    by_cases hf : f x = true
    · obtain ⟨μ', a1, a2, a3⟩ := ih (x + 1) fuel (wm μ (104 + 6 * j) x (μ (104 + 6 * j) x + μ (41 + 5 * i) a)) (by omega)
      refine ⟨μ', ?_, fun r hr => (a2 r hr).trans (wm_r hr), fun c hc => ?_⟩
      · rw [show fuel + (d + 1) + 1 = fuel + d + 1 + 1 by omega, b37_s]
        unfold k_X1_fillBites_37
        rw [if_neg (nge12 x (by omega)), if_neg (fun a => by rw [hz.1 a] at hf; exact absurd hf (by decide))]
        revert a1
        generalize b_X1_fillBites_37 (kC Kd) lC (fuel + d + 1) = go
        intro a1
        simp only [C_grc p5, C_lb (show x < 12 by omega), C_grc tt, C_grt hi t1, C_lt1 hi ha, C_wb (show x < 12 by omega), R_let]
        rw [nI_1]
        exact a1
      · rw [a3 c hc]
        by_cases hcx : c = x
        · subst hcx
          rw [if_neg (by omega), wm_s, if_pos ⟨Nat.le_refl _, hf⟩]
        · rw [wm_k hcx, wm_r (by omega)]
          by_cases h1 : x + 1 ≤ c ∧ f c = true
          · rw [if_pos h1, if_pos ⟨by omega, h1.2⟩]
          · rw [if_neg h1, if_neg (fun h2 => h1 ⟨by omega, h2.2⟩)]
    · have hf : f x = false := by simpa using hf
      obtain ⟨μ', a1, a2, a3⟩ := ih (x + 1) fuel μ (by omega)
      refine ⟨μ', ?_, a2, fun c hc => ?_⟩
      · rw [show fuel + (d + 1) + 1 = fuel + d + 1 + 1 by omega, b37_s]
        unfold k_X1_fillBites_37
        rw [if_neg (nge12 x (by omega)), if_pos (hz.2 hf), R_let, nI_1]
        exact a1
      · rw [a3 c hc]
        by_cases hcx : c = x
        · subst hcx
          rw [if_neg (by omega), if_neg (by rw [hf]; simp)]
        · by_cases h1 : x + 1 ≤ c ∧ f c = true
          · rw [if_pos h1, if_pos ⟨by omega, h1.2⟩]
          · rw [if_neg h1, if_neg (fun h2 => h1 ⟨by omega, h2.2⟩)]
theorem k_fout {Kd : Nat → Nat} {n : Nat → Nat → Option Nat} {j i h ice N0 : Nat} {q : Pn} {sh : Bool} (hN : N0 ≤ 10) : ∀ (cl : List Cl) (a p fuel : Nat) (μ : Nat → Nat → Int32), cI Kd μ n j i q h ice sh → μ (40 + 5 * i) 2 = nI N0 → a + cl.length = N0 → ((a = 0 ∧ p = 0) ∨ (0 < a ∧ μ (42 + 5 * i) (a - 1) = nI p)) → clC (μ (43 + 5 * i)) (μ (44 + 5 * i)) (μ (42 + 5 * i)) (μ (41 + 5 * i)) p a cl → ∃ μ', b_X1_fillBites_18 (kC Kd) lC (fuel + 14 * cl.length + 1) (103 + 6 * j) (nI a) (μ, n) = some (μ', n) ∧ (∀ r, r ≠ 104 + 6 * j → r ≠ 105 + 6 * j → μ' r = μ r) ∧ ∀ c, c < 12 → μ' (104 + 6 * j) c = clB (En q h ice) c cl (μ (104 + 6 * j) c) := by
  intro cl
  induction cl with
  | nil =>
    intro a p fuel μ hI h2 ha hs hc
    refine ⟨μ, ?_, fun _ _ _ => rfl, fun _ _ => rfl⟩
    have ha : a = N0 := ha
    subst ha
    obtain ⟨⟨⟨p1, p2, p3, p4, p5, p6⟩, ⟨t1, t2, t3, t4⟩, tt⟩, _, _, _, _, _, _, _, _, _, hi⟩ := hI
    rw [b18_s]
    unfold k_X1_fillBites_18
    simp only [C_grc tt, C_git hi]
    rw [h2, if_pos (Int32.le_refl _)]
  | cons o r ih =>
    intro a p fuel μ hI h2 ha hs hc
    obtain ⟨t, ch, m⟩ := o
    obtain ⟨c1, c2, c3, c4, c5, c6, c7⟩ := hc
    rw [List.length_cons] at ha ⊢
    obtain ⟨μ1, a1, a2⟩ := k_where hI (by omega) hs c1 c2 c4 c5
    have hn := hI.1
    have hi : i < 6 := hI.2.2.2.2.2.2.2.2.2.2
    obtain ⟨μ2, d1, d2, d3⟩ := k_fin (Kd := Kd) (f := okL (En q h ice) t) (a := a) hn hi (by omega) 12 0 (fuel + 14 * r.length + 1) μ1 (by omega)
    have h21 : ∀ r, r ≠ 104 + 6 * j → r ≠ 105 + 6 * j → μ2 r = μ r := fun r x y => (d2 r x).trans (a2 r y)
    obtain ⟨μ3, f1, f2, f3⟩ := ih (a + 1) (p + t.length) fuel μ2 (cI_c hI h21) (by rw [h21 _ (by omega) (by omega)]; exact h2) (by omega) (Or.inr ⟨by omega, by rw [h21 _ (by omega) (by omega)]; exact c5⟩) (by rw [h21 (43 + 5 * i) (by omega) (by omega), h21 (44 + 5 * i) (by omega) (by omega), h21 (42 + 5 * i) (by omega) (by omega), h21 (41 + 5 * i) (by omega) (by omega)]; exact c7)
    refine ⟨μ3, ?_, fun r x y => (f2 r x y).trans (h21 r x y), fun c hc => ?_⟩
    · obtain ⟨⟨p1, p2, p3, p4, p5, p6⟩, ⟨t1, t2, t3, t4⟩, tt⟩ := hn
      rw [show fuel + 14 * (r.length + 1) + 1 = fuel + 14 * r.length + 1 + 12 + 1 + 1 by omega, b18_s]
      unfold k_X1_fillBites_18
      simp only [C_grc tt, C_git hi]
      rw [h2, if_neg (nI_ge (by omega) (by omega)), C_ckc, a1, fm_bi_s, R_let]
      exact d1.trans f1
    · rw [f3 c hc, d3 c hc, clB, a2 (104 + 6 * j) (by omega), a2 (41 + 5 * i) (by omega), c6]
      congr 1
      by_cases ho : okL (En q h ice) t c = true
      · rw [if_pos ⟨Nat.zero_le _, ho⟩, if_pos ho]
        cases ch
        · rw [if_neg (by decide), if_neg (by decide), ← Int32.sub_eq_add_neg]
        · rw [if_pos rfl, if_pos rfl]
      · rw [if_neg (fun h => ho h.2), if_neg ho]
theorem k_fl {Kd : Nat → Nat} {n : Nat → Nat → Option Nat} {j : Nat} {y : Int32} : ∀ (d x fuel : Nat) (μ : Nat → Nat → Int32), x + d = 12 → ∃ μ', b_J7_fill_53178_5 (kC Kd) lC (fuel + d + 1) (104 + 6 * j) y (nI x) (nI 12) (μ, n) = some (μ', n) ∧ (∀ r, r ≠ 104 + 6 * j → μ' r = μ r) ∧ ∀ c, (x ≤ c → c < 12 → μ' (104 + 6 * j) c = y) ∧ (c < x → μ' (104 + 6 * j) c = μ (104 + 6 * j) c) := by
  intro d
  induction d with
  | zero =>
    intro x fuel μ hx
    have hx : x = 12 := hx
    subst hx
    refine ⟨μ, ?_, fun _ _ => rfl, fun c => ⟨fun h1 h2 => absurd h2 (by omega), fun _ => rfl⟩⟩
    rw [b_J7_fill_53178_5]
    unfold k_J7_fill_53178_5
    rw [if_pos (Int32.le_refl _)]
  | succ d ih =>
    intro x fuel μ hx
    obtain ⟨μ', a1, a2, a3⟩ := ih (x + 1) fuel (wm μ (104 + 6 * j) x y) (by omega)
    refine ⟨μ', ?_, fun r hr => (a2 r hr).trans (wm_r hr), fun c => ⟨fun h1 h2 => ?_, fun h1 => ((a3 c).2 (by omega)).trans (wm_k (by omega))⟩⟩
    · rw [show fuel + (d + 1) + 1 = fuel + d + 1 + 1 by omega, b_J7_fill_53178_5]
      unfold k_J7_fill_53178_5
      rw [if_neg (nI_ge (by omega) (by omega)), C_wb (show x < 12 by omega), R_let, nI_1]
      exact a1
    · by_cases hcx : c = x
      · subst hcx
        rw [(a3 c).2 (by omega), wm_s]
      · exact (a3 c).1 (by omega) h2
theorem k_fill {Kd : Nat → Nat} {n : Nat → Nat → Option Nat} {μ : Nat → Nat → Int32} {j i h ice f t : Nat} {q : Pn} {sh : Bool} (hI : cI Kd μ n j i q h ice sh) (ht : tC μ i (Pn.cl q) f t) : ∃ μ', m_X1_fillBites (kC Kd) lC (103 + 6 * j) (μ, n) = some (μ', n) ∧ (∀ r, r ≠ 104 + 6 * j → r ≠ 105 + 6 * j → μ' r = μ r) ∧ ∀ c, c < 12 → μ' (104 + 6 * j) c = bite q h ice c := by
  obtain ⟨μ1, a1, a2, a3⟩ := k_fl (Kd := Kd) (n := n) (j := j) (y := nI (Pn.c q) - nI (Pn.w q)) 12 0 987 μ (by omega)
  obtain ⟨t1, t2, t3, t4, t5, t6⟩ := ht
  have h1 : ∀ r, r ≠ 104 + 6 * j → r ≠ 105 + 6 * j → μ1 r = μ r := fun r x _ => a2 r x
  have hi : i < 6 := hI.2.2.2.2.2.2.2.2.2.2
  obtain ⟨μ2, d1, d2, d3⟩ := k_fout (Kd := Kd) (n := n) t4 (Pn.cl q) 0 0 (999 - 14 * (Pn.cl q).length) μ1 (cI_c hI h1) (by rw [h1 _ (by omega) (by omega)]; exact t3) (by omega) (Or.inl ⟨rfl, rfl⟩) (by rw [h1 (43 + 5 * i) (by omega) (by omega), h1 (44 + 5 * i) (by omega) (by omega), h1 (42 + 5 * i) (by omega) (by omega), h1 (41 + 5 * i) (by omega) (by omega)]; exact t5)
  refine ⟨μ2, ?_, fun r x y => (d2 r x y).trans (h1 r x y), fun c hc => ?_⟩
  · obtain ⟨⟨⟨p1, p2, p3, p4, p5, p6⟩, _, tt⟩, ⟨f2, f3, f4, f5, f6, f7⟩, _⟩ := hI
    unfold m_X1_fillBites
    simp only [C_grc p5, C_gic, R_let]
    rw [f2, f3]
    unfold m_J7_fill_53178
    simp only [C_ln (kC_4 Kd j) (lC_4 j), R_let]
    rw [show fm_LF = 987 + 12 + 1 from rfl, show (0 : Int32) = nI 0 from rfl, a1, fm_b1_s, show 987 + 12 + 1 = 999 - 14 * (Pn.cl q).length + 14 * (Pn.cl q).length + 1 by omega]
    exact d1
  · rw [d3 c hc, (a3 c).1 (Nat.zero_le _) hc]
    rfl
