/-! the class: a clause's signs worked off -/
theorem cI_c {Kd : Nat → Nat} {μ μ' : Nat → Nat → Int32} {n : Nat → Nat → Option Nat} {j i h ice : Nat} {q : Pn} {sh : Bool} (hc : cI Kd μ n j i q h ice sh) (hm : ∀ r, r ≠ 104 + 6 * j → r ≠ 105 + 6 * j → μ' r = μ r) : cI Kd μ' n j i q h ice sh := by
  unfold cI
  rw [hm (103 + 6 * j) (by omega) (by omega), hm (100 + 6 * j) (by omega) (by omega), hm (101 + 6 * j) (by omega) (by omega)]
  exact hc
theorem cdC_c {g v g' v' : Nat → Int32} (h1 : g' = g) (h2 : v' = v) {i : Nat} {l : List Op} (h : cdC g v i l) : cdC g' v' i l := by
  rw [h1, h2]
  exact h
theorem b22_s (kap lam : Nat → Nat) (f : Nat) : b_X1_cellsWhere_22 kap lam (f + 1) = k_X1_cellsWhere_22 kap lam (b_X1_cellsWhere_22 kap lam f) (b_X1_cellsWhere_109 kap lam f) := rfl
theorem b109_s (kap lam : Nat → Nat) (f : Nat) : b_X1_cellsWhere_109 kap lam (f + 1) = k_X1_cellsWhere_109 kap lam (b_X1_cellsWhere_22 kap lam f) (b_X1_cellsWhere_109 kap lam f) := rfl
theorem sg_t {w hh v : Nat} (hw : w < 6) : sgC (w, hh, v) ≠ 33 ∧ sgC (w, hh, v) ≠ 38 ∧ sgC (w, hh, v) ≠ 124 := by
  match w, hw with
  | 0, _ => exact (by decide : (112 : Int32) ≠ 33 ∧ (112 : Int32) ≠ 38 ∧ (112 : Int32) ≠ 124)
  | 1, _ => exact (by decide : (107 : Int32) ≠ 33 ∧ (107 : Int32) ≠ 38 ∧ (107 : Int32) ≠ 124)
  | 2, _ => exact (by decide : (99 : Int32) ≠ 33 ∧ (99 : Int32) ≠ 38 ∧ (99 : Int32) ≠ 124)
  | 3, _ => exact (by decide : (110 : Int32) ≠ 33 ∧ (110 : Int32) ≠ 38 ∧ (110 : Int32) ≠ 124)
  | 4, _ => exact (by decide : (119 : Int32) ≠ 33 ∧ (119 : Int32) ≠ 38 ∧ (119 : Int32) ≠ 124)
  | 5, _ => exact (by decide : (104 : Int32) ≠ 33 ∧ (104 : Int32) ≠ 38 ∧ (104 : Int32) ≠ 124)
section STEP
variable {Kd : Nat → Nat} {μ : Nat → Nat → Int32} {n : Nat → Nat → Option Nat} {j i h ice : Nat} {q : Pn} {sh : Bool} {a e p k : Nat}
theorem k_opt {w hh v : Nat} (fuel : Nat) (hc : cI Kd μ n j i q h ice sh) (ha : a < 10) (he : μ (42 + 5 * i) a = nI e) (he2 : e ≤ 100) (hp : p < e) (h1 : w < 6) (hg : μ (43 + 5 * i) p = sgC (w, hh, v)) (hv : μ (44 + 5 * i) p = vlC (w, hh, v)) (hk : k < 16) : b_X1_cellsWhere_22 (kC Kd) lC (fuel + 2) (103 + 6 * j) (nI a) (nI k) (nI p) (μ, n) = b_X1_cellsWhere_22 (kC Kd) lC fuel (103 + 6 * j) (nI a) (nI (k + 1)) (nI (p + 1)) (wm μ (105 + 6 * j) k (nI (icN (fun c => cmpB hh v (En q h ice c w)) 12)), n) := by
  have ht := k_test hc (hh := hh) (v := v) h1
  obtain ⟨⟨⟨p1, p2, p3, p4, p5, p6⟩, ⟨t1, t2, t3, t4⟩, tt⟩, _, _, _, _, _, _, _, _, _, hi⟩ := hc
  obtain ⟨s1, s2, s3⟩ := sg_t (hh := hh) (v := v) h1
  have q1 : ¬ nI e ≤ nI p := nI_ge hp (by omega)
  rw [b22_s, b109_s]
  unfold k_X1_cellsWhere_22
  simp only [C_grc tt, C_grt hi t2, C_grt hi t3, C_lt2 hi ha, C_lt3 hi (show p < 100 by omega)]
  rw [he, if_neg q1, hg, if_neg s1, if_neg s2]
  unfold k_X1_cellsWhere_109
  rw [if_neg s3, if_neg (show ¬ (16 : Int32) ≤ nI k from nI_ge (b := 16) (by omega) (by omega))]
  generalize b_X1_cellsWhere_22 (kC Kd) lC fuel = go
  simp only [C_grc p6, C_grc tt, C_grt hi t4, C_lt4 hi (show p < 100 by omega), hv, C_ckc, ht, fm_b1_s, C_ws hk, R_let]
  rw [nI_1, nI_1]
theorem k_opn {f : Nat → Bool} (fuel : Nat) (hc : cI Kd μ n j i q h ice sh) (ha : a < 10) (he : μ (42 + 5 * i) a = nI e) (he2 : e ≤ 100) (hp : p < e) (hg : μ (43 + 5 * i) p = 33) (hk : k < 16) (ht : μ (105 + 6 * j) k = nI (icN f 12)) : b_X1_cellsWhere_22 (kC Kd) lC (fuel + 1) (103 + 6 * j) (nI a) (nI (k + 1)) (nI p) (μ, n) = b_X1_cellsWhere_22 (kC Kd) lC fuel (103 + 6 * j) (nI a) (nI (k + 1)) (nI (p + 1)) (wm μ (105 + 6 * j) k (nI (icN (fun c => !f c) 12)), n) := by
  obtain ⟨⟨⟨p1, p2, p3, p4, p5, p6⟩, ⟨t1, t2, t3, t4⟩, tt⟩, _, _, _, _, _, _, _, _, _, hi⟩ := hc
  have q1 : ¬ nI e ≤ nI p := nI_ge hp (by omega)
  rw [b22_s]
  unfold k_X1_cellsWhere_22
  generalize b_X1_cellsWhere_22 (kC Kd) lC fuel = go
  simp only [C_grc tt, C_grt hi t2, C_grt hi t3, C_lt2 hi ha, C_lt3 hi (show p < 100 by omega), C_grc p6, R_let]
  rw [he, if_neg q1, hg, if_pos rfl, if_neg (show ¬ nI (k + 1) ≤ 0 from nI_nle (by omega) (by omega)), nI_pred, C_ls hk, C_ws hk, ht, show (4095 : Int32) = nI 4095 from rfl, nI_xor, icN_not, nI_1]
theorem k_opb {f g : Nat → Bool} (fuel : Nat) (hc : cI Kd μ n j i q h ice sh) (ha : a < 10) (he : μ (42 + 5 * i) a = nI e) (he2 : e ≤ 100) (hp : p < e) (hg : μ (43 + 5 * i) p = 38) (hk : k + 1 < 16) (ht : μ (105 + 6 * j) k = nI (icN f 12)) (ht2 : μ (105 + 6 * j) (k + 1) = nI (icN g 12)) : b_X1_cellsWhere_22 (kC Kd) lC (fuel + 1) (103 + 6 * j) (nI a) (nI (k + 2)) (nI p) (μ, n) = b_X1_cellsWhere_22 (kC Kd) lC fuel (103 + 6 * j) (nI a) (nI (k + 1)) (nI (p + 1)) (wm μ (105 + 6 * j) k (nI (icN (fun c => f c && g c) 12)), n) := by
  obtain ⟨⟨⟨p1, p2, p3, p4, p5, p6⟩, ⟨t1, t2, t3, t4⟩, tt⟩, _, _, _, _, _, _, _, _, _, hi⟩ := hc
  have q1 : ¬ nI e ≤ nI p := nI_ge hp (by omega)
  rw [b22_s]
  unfold k_X1_cellsWhere_22
  generalize b_X1_cellsWhere_22 (kC Kd) lC fuel = go
  simp only [C_grc tt, C_grt hi t2, C_grt hi t3, C_lt2 hi ha, C_lt3 hi (show p < 100 by omega), C_grc p6, R_let]
  rw [he, if_neg q1, hg, if_neg (show ¬ (38 : Int32) = 33 by decide), if_pos rfl, if_neg (show ¬ nI (k + 2) ≤ 1 from nI_ge (a := 1) (by omega) (by omega)), pk_m1, nI_pred, C_ls (show k < 16 by omega), C_ls hk, C_ws (show k < 16 by omega), ht, ht2, nI_and, icN_and, nI_1]
theorem k_ope {f g : Nat → Bool} (fuel : Nat) (hc : cI Kd μ n j i q h ice sh) (ha : a < 10) (he : μ (42 + 5 * i) a = nI e) (he2 : e ≤ 100) (hp : p < e) (hg : μ (43 + 5 * i) p = 124) (hk : k + 1 < 16) (ht : μ (105 + 6 * j) k = nI (icN f 12)) (ht2 : μ (105 + 6 * j) (k + 1) = nI (icN g 12)) : b_X1_cellsWhere_22 (kC Kd) lC (fuel + 2) (103 + 6 * j) (nI a) (nI (k + 2)) (nI p) (μ, n) = b_X1_cellsWhere_22 (kC Kd) lC fuel (103 + 6 * j) (nI a) (nI (k + 1)) (nI (p + 1)) (wm μ (105 + 6 * j) k (nI (icN (fun c => f c || g c) 12)), n) := by
  obtain ⟨⟨⟨p1, p2, p3, p4, p5, p6⟩, ⟨t1, t2, t3, t4⟩, tt⟩, _, _, _, _, _, _, _, _, _, hi⟩ := hc
  have q1 : ¬ nI e ≤ nI p := nI_ge hp (by omega)
  rw [b22_s, b109_s]
  unfold k_X1_cellsWhere_22
  simp only [C_grc tt, C_grt hi t2, C_grt hi t3, C_lt2 hi ha, C_lt3 hi (show p < 100 by omega)]
  rw [he, if_neg q1, hg, if_neg (show ¬ (124 : Int32) = 33 by decide), if_neg (show ¬ (124 : Int32) = 38 by decide)]
  unfold k_X1_cellsWhere_109
  rw [if_pos rfl, if_neg (show ¬ nI (k + 2) ≤ 1 from nI_ge (a := 1) (by omega) (by omega))]
  generalize b_X1_cellsWhere_22 (kC Kd) lC fuel = go
  simp only [C_grc p6, R_let]
  rw [pk_m1, nI_pred, C_ls (show k < 16 by omega), C_ls hk, C_ws (show k < 16 by omega), ht, ht2, nI_or, icN_or, nI_1]
end STEP
theorem k_stv {μ : Nat → Nat → Int32} {st : Nat → Nat → Bool} {s j k : Nat} {f : Nat → Bool} (h : ∀ i, i < k → i ≠ j → μ s i = nI (icN (st i) 12)) : ∀ i, i < k → wm μ s j (nI (icN f 12)) s i = nI (icN (stS st j f i) 12) := by
  intro i hi
  by_cases hj : i = j
  · subst hj
    rw [wm_s, stS_s]
  · rw [wm_k hj, stS_n hj, h i hi hj]
theorem k_ops {Kd : Nat → Nat} {n : Nat → Nat → Option Nat} {j i h ice : Nat} {q : Pn} {sh : Bool} {a e : Nat} (ha : a < 10) (he2 : e ≤ 100) : ∀ (l : List Op) (p k k2 : Nat) (st : Nat → Nat → Bool) (fuel rest : Nat) (μ : Nat → Nat → Int32), cI Kd μ n j i q h ice sh → μ (42 + 5 * i) a = nI e → cdC (μ (43 + 5 * i)) (μ (44 + 5 * i)) p l → opH l k k2 → (∀ x, x < k → μ (105 + 6 * j) x = nI (icN (st x) 12)) → k ≤ 16 → p + l.length ≤ e → 2 * l.length + rest ≤ fuel → ∃ fuel' μ', rest ≤ fuel' ∧ b_X1_cellsWhere_22 (kC Kd) lC fuel (103 + 6 * j) (nI a) (nI k) (nI p) (μ, n) = b_X1_cellsWhere_22 (kC Kd) lC fuel' (103 + 6 * j) (nI a) (nI k2) (nI (p + l.length)) (μ', n) ∧ (∀ r, r ≠ 105 + 6 * j → μ' r = μ r) ∧ ∀ x, x < k2 → μ' (105 + 6 * j) x = nI (icN (opR (En q h ice) l k st x) 12) := by
  intro l
  induction l with
  | nil =>
    intro p k k2 st fuel rest μ hI he hc hh ht hk hp hf
    have : k = k2 := hh
    subst this
    exact ⟨fuel, μ, by simp at hf; omega, rfl, fun _ _ => rfl, ht⟩
  | cons o r ih =>
    intro p k k2 st fuel rest μ hI he hc hh ht hk hp hf
    obtain ⟨w, hh', v⟩ := o
    have hi6 : i < 6 := hI.2.2.2.2.2.2.2.2.2.2
    rw [List.length_cons] at hp hf ⊢
    have hc1 := hc.1
    have hc2 := hc.2.1
    have hc3 := hc.2.2
    unfold opH at hh
    rw [show p + (r.length + 1) = p + 1 + r.length by omega]
    have key : ∀ (k' : Nat) (st' : Nat → Nat → Bool) (x : Int32) (y f2 : Nat), opH r k' k2 → k' ≤ 16 → (∀ i, i < k' → wm μ (105 + 6 * j) y x (105 + 6 * j) i = nI (icN (st' i) 12)) → opR (En q h ice) ((w, hh', v) :: r) k st = opR (En q h ice) r k' st' → 2 * r.length + rest ≤ f2 → b_X1_cellsWhere_22 (kC Kd) lC fuel (103 + 6 * j) (nI a) (nI k) (nI p) (μ, n) = b_X1_cellsWhere_22 (kC Kd) lC f2 (103 + 6 * j) (nI a) (nI k') (nI (p + 1)) (wm μ (105 + 6 * j) y x, n) → ∃ fuel' μ', rest ≤ fuel' ∧ b_X1_cellsWhere_22 (kC Kd) lC fuel (103 + 6 * j) (nI a) (nI k) (nI p) (μ, n) = b_X1_cellsWhere_22 (kC Kd) lC fuel' (103 + 6 * j) (nI a) (nI k2) (nI (p + 1 + r.length)) (μ', n) ∧ (∀ r, r ≠ 105 + 6 * j → μ' r = μ r) ∧ ∀ x, x < k2 → μ' (105 + 6 * j) x = nI (icN (opR (En q h ice) ((w, hh', v) :: r) k st x) 12) := by
      intro k' st' x y f2 h1 h2 h3 h4 h5 h6
      obtain ⟨f3, μ', b0, b1, b2, b3⟩ := ih (p + 1) k' k2 st' f2 rest (wm μ (105 + 6 * j) y x) (cI_c hI (fun r _ h => wm_r h)) (by rw [wm_r (by omega)]; exact he) (cdC_c (wm_r (by omega)) (wm_r (by omega)) hc3) h1 h3 h2 (by omega) h5
      exact ⟨f3, μ', b0, h6.trans b1, fun r hr => (b2 r hr).trans (wm_r hr), by rw [h4]; exact b3⟩
    by_cases h1 : w < 6
    · rw [if_pos h1] at hh
      obtain ⟨f2, rfl⟩ : ∃ f2, fuel = f2 + 2 := ⟨fuel - 2, by omega⟩
      exact key (k + 1) (stS st k (fun c => cmpB hh' v (En q h ice c w))) _ k f2 hh.2.2.2 (by omega) (k_stv (fun i h1 h2 => ht i (by omega))) (by rw [opR, if_pos h1]) (by omega) (k_opt f2 hI ha he he2 (by omega) h1 hc1 hc2 hh.2.2.1)
    · rw [if_neg h1] at hh
      by_cases h2 : w = 6
      · rw [if_pos h2] at hh
        obtain ⟨k, rfl⟩ : ∃ j, k = j + 1 := ⟨k - 1, by omega⟩
        obtain ⟨f2, rfl⟩ : ∃ f2, fuel = f2 + 1 := ⟨fuel - 1, by omega⟩
        have hx : μ (43 + 5 * i) p = 33 := by rw [hc1, sgC, if_neg h1, if_pos h2]
        exact key (k + 1) (stS st k (fun c => !st k c)) _ k f2 hh.2 hk (k_stv (fun i h1 h2 => ht i (by omega))) (by rw [opR, if_neg h1, if_pos h2, Nat.add_sub_cancel]) (by omega) (k_opn f2 hI ha he he2 (by omega) hx (by omega) (ht k (by omega)))
      · rw [if_neg h2] at hh
        obtain ⟨k, rfl⟩ : ∃ j, k = j + 2 := ⟨k - 2, by omega⟩
        have e2 : k + 2 - 2 = k := rfl
        have e1 : k + 2 - 1 = k + 1 := rfl
        rw [e1] at hh
        by_cases h3 : w = 7
        · obtain ⟨f2, rfl⟩ : ∃ f2, fuel = f2 + 1 := ⟨fuel - 1, by omega⟩
          have hx : μ (43 + 5 * i) p = 38 := by rw [hc1, sgC, if_neg h1, if_neg h2, if_pos h3]
          exact key (k + 1) (stS st k (fun c => st k c && st (k + 1) c)) _ k f2 hh.2.2 (by omega) (k_stv (fun i h1 h2 => ht i (by omega))) (by rw [opR, if_neg h1, if_neg h2, if_pos h3, e1, e2]) (by omega) (k_opb f2 hI ha he he2 (by omega) hx (by omega) (ht k (by omega)) (ht (k + 1) (by omega)))
        · obtain ⟨f2, rfl⟩ : ∃ f2, fuel = f2 + 2 := ⟨fuel - 2, by omega⟩
          have hx : μ (43 + 5 * i) p = 124 := by rw [hc1, sgC, if_neg h1, if_neg h2, if_neg h3]
          exact key (k + 1) (stS st k (fun c => st k c || st (k + 1) c)) _ k f2 hh.2.2 (by omega) (k_stv (fun i h1 h2 => ht i (by omega))) (by rw [opR, if_neg h1, if_neg h2, if_neg h3, e1, e2]) (by omega) (k_ope f2 hI ha he he2 (by omega) hx (by omega) (ht k (by omega)) (ht (k + 1) (by omega)))
