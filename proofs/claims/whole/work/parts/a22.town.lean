/-! methods, both sides: town -/
section X
variable {Kd : Nat → Nat} {μ : Nat → Nat → Int32} {n : Nat → Nat → Option Nat} {ρ : Nat → Nat → Int32}
theorem Rep_town (hR : Rep Kd μ n ρ) {nt nt2 q : Nat} {μ2 ρ2 : Nat → Nat → Int32} (h22 : ρ 1 22 = nI nt) (hnt : nt < 5) (hle : nt ≤ nt2) (hh : holdR (ρ2 1) nt2) (h05 : μ2 0 5 = ρ2 1 22) (hμ : ∀ r, r ≠ 0 → r ≠ 10 → r ≠ 30 → r ≠ 31 → (r < 40 + 5 * nt ∨ 44 + 5 * nt < r) → μ2 r = μ r) (h0 : ∀ x, x ≠ 5 → μ2 0 x = μ 0 x) (h10 : ∀ x, x ≠ 3 → μ2 10 x = μ 10 x) (h103 : μ2 10 3 = 0) (hρ : ∀ r, r ≠ 0 → r ≠ 1 → ρ2 r = ρ r) (hρ0 : ∀ y, (y < 5 ∨ 9 < y) → ρ2 0 y = ρ 0 y) (h26 : ρ2 1 26 = 0) (hs : ∀ y, y ≠ 22 → y ≠ 26 → y ≠ 27 → y ≠ 211 + nt → y ≠ 216 + nt → y ≠ 221 + nt → (y < 226 + 140 * nt ∨ 226 + 140 * nt + 140 ≤ y) → ρ2 1 y = ρ 1 y) (hT : ∀ m, nt ≤ m → m < nt2 → ∃ cl f t, tC μ2 m cl f t ∧ refT (ρ2 1) m cl f t) : Rep Kd μ2 (wn n 30 1 (some q)) ρ2 := by
  obtain ⟨np, nt0, ⟨h1, h2, h3, h4, h5, h6, h7⟩, ⟨⟨k1, k2, k3, k4, k5⟩, h9, h10'⟩, ⟨q1, q2, q3, q4⟩, ⟨m0, m1, m2, m3, m4, m5⟩, ⟨r, p1, p2, p3, p4⟩, h14⟩ := hR
  have hnt0 : nt0 = nt := (nI_eq (by omega) (by omega)).1 (k1.symm.trans h22)
  subst hnt0
  have hkQ : kQ μ n μ (wn n 30 1 (some q)) := ⟨fun _ _ _ _ _ => rfl, fun r k _ h => wn_r (by omega)⟩
  have hlo : ∀ y, y < 211 → y ≠ 22 → y ≠ 26 → y ≠ 27 → ρ2 1 y = ρ 1 y := fun y a b c d => hs y b c d (by omega) (by omega) (by omega) (by omega)
  have eT : ∀ m cl f t, (m < nt0 ∨ m = 5) → tC μ m cl f t → tC μ2 m cl f t := fun m cl f t hm ht => by
    unfold tC
    rw [hμ (40 + 5 * m) (by omega) (by omega) (by omega) (by omega) (by omega), hμ (41 + 5 * m) (by omega) (by omega) (by omega) (by omega) (by omega), hμ (42 + 5 * m) (by omega) (by omega) (by omega) (by omega) (by omega), hμ (43 + 5 * m) (by omega) (by omega) (by omega) (by omega) (by omega), hμ (44 + 5 * m) (by omega) (by omega) (by omega) (by omega) (by omega)]
    exact ht
  have es : ∀ r, (r = 11 ∨ (11 < r ∧ r < 30)) → μ2 r = μ r := fun r hr => hμ r (by omega) (by omega) (by omega) (by omega) (by omega)
  refine ⟨np, nt2, ⟨kQ_N hkQ h1, kQ_P hkQ h2, ?_, fun j hj => ?_, ?_, by rw [hlo 21 (by omega) (by omega) (by omega) (by omega)]; exact h6, h7⟩, ⟨hh, fun m hm => ?_, eT 5 _ _ _ (Or.inr rfl) h10'⟩, ⟨?_, ?_, ?_, ?_⟩, ⟨?_, ?_, ?_, ?_, ?_, ?_⟩, ⟨r, p1, (hρ0 17 (by omega)).trans p2, ?_, ?_⟩, ?_⟩
  · obtain ⟨a2, a5, a8, a9, a10⟩ := h3
    unfold cA
    rw [h0 2 (by omega), h05, h0 8 (by omega), h0 9 (by omega), h0 10 (by omega), hlo 21 (by omega) (by omega) (by omega) (by omega), hlo 1 (by omega) (by omega) (by omega) (by omega), hlo 2 (by omega) (by omega) (by omega) (by omega), hlo 0 (by omega) (by omega) (by omega) (by omega)]
    exact ⟨a2, rfl, a8, a9, a10⟩
  · obtain ⟨d0, d1, d2, d3, d4, d5, d6, d7⟩ := h4 j hj
    unfold cP
    rw [hμ (100 + 6 * j) (by omega) (by omega) (by omega) (by omega) (by omega), hμ (101 + 6 * j) (by omega) (by omega) (by omega) (by omega) (by omega), hlo (28 + j) (by omega) (by omega) (by omega) (by omega), hlo (34 + j) (by omega) (by omega) (by omega) (by omega), hlo (15 + j) (by omega) (by omega) (by omega) (by omega), hlo (3 + j) (by omega) (by omega) (by omega) (by omega), hlo (9 + j) (by omega) (by omega) (by omega) (by omega)]
    refine ⟨d0, d1, d2, d3, d4, d5, d6, fun h x hx => ?_⟩
    rw [hlo (40 + 4 * j + x) (by omega) (by omega) (by omega) (by omega)]
    exact d7 h x hx
  · obtain ⟨a0, a1, a21, aP⟩ := h5
    refine ⟨by rw [hlo 0 (by omega) (by omega) (by omega) (by omega)]; exact a0, by rw [hlo 1 (by omega) (by omega) (by omega) (by omega)]; exact a1, by rw [hlo 21 (by omega) (by omega) (by omega) (by omega)]; exact a21, fun p hp => ?_⟩
    obtain ⟨b3, b9, b15, b28, b34, b40⟩ := aP p hp
    rw [hlo (3 + p) (by omega) (by omega) (by omega) (by omega), hlo (9 + p) (by omega) (by omega) (by omega) (by omega), hlo (15 + p) (by omega) (by omega) (by omega) (by omega), hlo (28 + p) (by omega) (by omega) (by omega) (by omega), hlo (34 + p) (by omega) (by omega) (by omega) (by omega)]
    exact ⟨b3, b9, b15, b28, b34, fun i hi => by rw [hlo (40 + 4 * p + i) (by omega) (by omega) (by omega) (by omega)]; exact b40 i hi⟩
  · by_cases hmn : m < nt0
    · obtain ⟨cl, f, t, t1, e0, t2, t3, t4, t5, t6, t7⟩ := h9 m hmn
      refine ⟨cl, f, t, eT m _ _ _ (Or.inl hmn) t1, e0, ?_, t3, clR_c _ _ _ (fun j a b => hs j (by omega) (by omega) (by omega) (by omega) (by omega) (by omega) (by omega)) t4, ?_, ?_, t7⟩
      · rw [hs _ (by omega) (by omega) (by omega) (by omega) (by omega) (by omega) (by omega)]; exact t2
      · rw [hs _ (by omega) (by omega) (by omega) (by omega) (by omega) (by omega) (by omega)]; exact t5
      · rw [hs _ (by omega) (by omega) (by omega) (by omega) (by omega) (by omega) (by omega)]; exact t6
    · exact hT m (by omega) hm
  · exact ⟨0, Nat.zero_le _, h26, h103, fun x hx => absurd hx (by omega)⟩
  · obtain ⟨k, a1, a2, a3, a4⟩ := q2
    rw [es 13 (by omega), es 14 (by omega)]
    refine ⟨k, a1, by rw [hlo 23 (by omega) (by omega) (by omega) (by omega)]; exact a2, a3, fun x hx => ?_⟩
    rw [hlo (64 + x) (by omega) (by omega) (by omega) (by omega), hlo (69 + x) (by omega) (by omega) (by omega) (by omega), hlo (74 + x) (by omega) (by omega) (by omega) (by omega)]
    exact a4 x hx
  · obtain ⟨k, a1, a2, a3, a4⟩ := q3
    rw [es 16 (by omega), es 17 (by omega)]
    refine ⟨k, a1, by rw [hlo 24 (by omega) (by omega) (by omega) (by omega)]; exact a2, a3, fun x hx => ?_⟩
    rw [hlo (79 + x) (by omega) (by omega) (by omega) (by omega), hlo (87 + x) (by omega) (by omega) (by omega) (by omega)]
    exact a4 x hx
  · obtain ⟨k, a1, a2, a3, a4⟩ := q4
    rw [es 19 (by omega), es 20 (by omega)]
    refine ⟨k, a1, by rw [hlo 25 (by omega) (by omega) (by omega) (by omega)]; exact a2, a3, fun x hx => ?_⟩
    rw [hlo (95 + x) (by omega) (by omega) (by omega) (by omega), hlo (103 + x) (by omega) (by omega) (by omega) (by omega)]
    exact a4 x hx
  · rw [h10 0 (by omega)]; exact m0
  · rw [es 13 (by omega)]; exact m1
  · rw [es 16 (by omega)]; exact m2
  · rw [es 19 (by omega)]; exact m3
  · rw [es 22 (by omega)]; exact m4
  · rw [es 25 (by omega)]; exact m5
  · rw [es 22 (by omega)]; exact p3
  · rw [es 23 (by omega), hρ 9 (by omega) (by omega)]; exact p4
  · rw [hρ0 4 (by omega), es 25 (by omega), hρ 2 (by omega) (by omega)]
    rcases h14 with h14 | ⟨i1, i2, np', nt', ⟨i3, i4, i5⟩, i6, i7, i8, i9⟩
    · exact Or.inl h14
    · refine Or.inr ⟨i1, i2, np', nt', ⟨i3, by omega, i5⟩, ?_, fun j hj => ?_, fun m hm => ?_, ?_⟩
      · rw [es 26 (by omega)]; exact i6
      · rw [hμ (100 + 6 * j) (by omega) (by omega) (by omega) (by omega) (by omega), hμ (102 + 6 * j) (by omega) (by omega) (by omega) (by omega) (by omega), hlo (28 + j) (by omega) (by omega) (by omega) (by omega), hlo (34 + j) (by omega) (by omega) (by omega) (by omega)]
        exact i7 j hj
      · obtain ⟨u1, u2, u3, u4⟩ := i8 m hm
        refine ⟨?_, ?_, ?_, fun x hx => ?_⟩
        · rw [hs _ (by omega) (by omega) (by omega) (by omega) (by omega) (by omega) (by omega)]; exact u1
        · rw [hs _ (by omega) (by omega) (by omega) (by omega) (by omega) (by omega) (by omega)]; exact u2
        · rw [hs _ (by omega) (by omega) (by omega) (by omega) (by omega) (by omega) (by omega)]; exact u3
        · rw [hs _ (by omega) (by omega) (by omega) (by omega) (by omega) (by omega) (by omega)]; exact u4 x hx
      · rw [h10 4 (by omega), es 12 (by omega), es 13 (by omega), es 15 (by omega), es 16 (by omega), es 18 (by omega), es 19 (by omega), es 21 (by omega)]
        exact i9
end X
