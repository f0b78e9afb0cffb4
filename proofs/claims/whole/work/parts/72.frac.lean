/-! fractions in lowest terms, both sides -/
theorem cmp_z {y : Nat} (hy : y < 2 ^ 62) : (lg_cmp (lN y) 0 = 0 ↔ y = 0) :=
  (lg_cmp_eq _ _).trans (pk_lEQ (b := 0) (by omega) (by omega))
theorem r_low (kap lam : Nat → Nat) (S : fm_M) (up low : Nat) (p : Int32) (hu : up < 2 ^ 31) (hl : low < 2 ^ 31) : ∀ (y x fuel : Nat), y < fuel → x < 2 ^ 31 → y < 2 ^ 31 → 0 < Nat.gcd x y → b_X12_lowest_17 kap lam S fuel (lN up) (lN low) p (lN x) (lN y) = some (lN ((if p = 0 then up else low) / Nat.gcd x y)) := by
  intro y
  induction y using Nat.strongRecOn with
  | ind y ih =>
    intro x fuel hf hx hy hg
    obtain ⟨fuel, rfl⟩ : ∃ f, fuel = f + 1 := ⟨fuel - 1, by omega⟩
    have hz := cmp_z (y := y) (by omega)
    rw [b_X12_lowest_17]
    unfold k_X12_lowest_17
    by_cases h0 : y = 0
    · subst h0
      rw [Nat.gcd_zero_right] at hg
      rw [if_pos (hz.2 rfl), Nat.gcd_zero_right]
      have hx0 : ¬ lN x = 0 := fun h => absurd ((pk_lEQ (b := 0) (by omega) (by omega)).1 h) (by omega)
      by_cases hp : p = 0
      · rw [if_pos hp, if_neg hx0, if_pos hp, pk_lDiv (by omega) hg (by omega)]
      · rw [if_neg hp, if_neg hx0, if_neg hp, pk_lDiv (by omega) hg (by omega)]
    · have hy0 : ¬ lN y = 0 := fun h => h0 ((pk_lEQ (b := 0) (by omega) (by omega)).1 h)
      have hgg : Nat.gcd y (x % y) = Nat.gcd x y := by
        rw [Nat.gcd_comm y (x % y), ← Nat.gcd_rec, Nat.gcd_comm]
      have hm := Nat.mod_lt x (show y > 0 by omega)
      rw [if_neg (fun a => h0 (hz.1 a)), if_neg hy0, R_let, pk_lRem (by omega) (by omega) (by omega), ih (x % y) hm y fuel (by omega) hy (by omega) (by rw [hgg]; exact hg), hgg]
theorem k_part (kap lam : Nat → Nat) (S : fm_M) (u l v : Nat) (hu : u < 2 ^ 31) (hl : l < 2 ^ 31) (h0 : 0 < l) (hv : v < 2 ^ 31) : ∀ (c fuel : Nat), c < fuel → 0 < c → c < 2 ^ 31 → Nat.gcd u l ≤ c → b_X11_partOf_13 kap lam S fuel (nI u) (nI l) (nI v) (nI c) = some (lN (v / Nat.gcd u l)) := by
  intro c
  have hg := Nat.gcd_pos_of_pos_right u h0
  induction c with
  | zero => intro fuel _ h; omega
  | succ c ih =>
    intro fuel hf _ hc hgc
    obtain ⟨fuel, rfl⟩ : ∃ f, fuel = f + 1 := ⟨fuel - 1, by omega⟩
    rw [b_X11_partOf_13]
    unfold k_X11_partOf_13
    by_cases h1 : c = 0
    · subst h1
      have hg1 : Nat.gcd u l = 1 := by omega
      rw [if_pos (show nI (0 + 1) ≤ (1 : Int32) by decide), hg1, Nat.div_one, nI_l hv]
    · have hn : ¬ nI (c + 1) ≤ (1 : Int32) := nI_ge (a := 1) (by omega) (by omega)
      have hn0 : ¬ nI (c + 1) = 0 := nI_ne0 (by omega) (by omega)
      have hs : nI (c + 1) + (-1) = nI c := by
        rw [← nI_1, ← Int32.sub_eq_add_neg, Int32.add_sub_cancel]
      rw [if_neg hn, if_neg hn0, if_neg hn0, if_neg hn0, pk_rem hu (by omega) hc, pk_rem hl (by omega) hc, hs, R_let]
      have hne : ¬ (u % (c + 1) = 0 ∧ l % (c + 1) = 0) → Nat.gcd u l ≤ c := by
        intro h
        by_cases he : Nat.gcd u l = c + 1
        · refine absurd ⟨?_, ?_⟩ h
          · rw [← he]; exact Nat.mod_eq_zero_of_dvd (Nat.gcd_dvd_left u l)
          · rw [← he]; exact Nat.mod_eq_zero_of_dvd (Nat.gcd_dvd_right u l)
        · omega
      have hm1 : u % (c + 1) < 2 ^ 31 := Nat.lt_of_le_of_lt (Nat.mod_le _ _) hu
      have hm2 : l % (c + 1) < 2 ^ 31 := Nat.lt_of_le_of_lt (Nat.mod_le _ _) hl
      by_cases ha : u % (c + 1) = 0
      · rw [if_pos (show nI (u % (c + 1)) = 0 by rw [ha]; rfl)]
        by_cases hb : l % (c + 1) = 0
        · rw [if_pos (show nI (l % (c + 1)) = 0 by rw [hb]; rfl)]
          have hd : c + 1 ∣ Nat.gcd u l := Nat.dvd_gcd (Nat.dvd_of_mod_eq_zero ha) (Nat.dvd_of_mod_eq_zero hb)
          have he : Nat.gcd u l = c + 1 := Nat.le_antisymm hgc (Nat.le_of_dvd hg hd)
          rw [he, pk_div hv (by omega) hc, nI_l (Nat.lt_of_le_of_lt (Nat.div_le_self _ _) hv)]
        · rw [if_neg (nI_ne0 (by omega) hm2)]
          exact ih fuel (by omega) (by omega) (by omega) (hne (fun h => hb h.2))
      · rw [if_neg (nI_ne0 (by omega) hm1)]
        exact ih fuel (by omega) (by omega) (by omega) (hne (fun h => ha h.1))
theorem x_frac {kap lam kap2 lam2 : Nat → Nat} (S S2 : fm_M) (u l : Nat) (a : Int32) (hu : u < 2 ^ 31) (h0 : 0 < l) (hl : l < 900) : ∃ v, m_X11_partOf kap lam (nI u) (nI l) a S = some v ∧ m_X12_lowest kap2 lam2 (lN u) (lN l) a S2 = some v := by
  have hg := Nat.gcd_pos_of_pos_right u h0
  have hgl := Nat.le_of_dvd h0 (Nat.gcd_dvd_right u l)
  refine ⟨lN ((if a = 0 then u else l) / Nat.gcd u l), ?_, ?_⟩
  · unfold m_X11_partOf
    by_cases h : a = 0
    · rw [if_pos h, if_pos h]
      exact k_part kap lam S u l u hu (by omega) h0 hu l fm_LF (by unfold fm_LF; omega) h0 (by omega) hgl
    · rw [if_neg h, if_neg h]
      exact k_part kap lam S u l l hu (by omega) h0 (by omega) l fm_LF (by unfold fm_LF; omega) h0 (by omega) hgl
  · unfold m_X12_lowest
    rw [if_pos (show (0 : Int32) ≤ lg_cmp (lN u) 0 from (lg_cmp_ge _ _).2 ((pk_lLE (a := 0) (by omega) (by omega)).2 (Nat.zero_le u)))]
    exact r_low kap2 lam2 S2 u l a hu (by omega) l u fm_LF (by unfold fm_LF; omega) hu (by omega) hg
