/-! PANE: the flat memory after it: a new group N, then the groups np and N change places -/
def pgB (N r : Nat) : Prop := 100 ≤ r ∧ (r - 100) / 6 = N
def pgU (N : Nat) (U ad : Nat → Nat) (r : Nat) : Nat := if 100 ≤ r ∧ (r - 100) / 6 = N then U ((r - 100) % 6) else ad r
def pgK (N k : Nat) (Kd : Nat → Nat) (j : Nat) : Nat := if j = N then k else Kd j
def pgM (N np k : Nat) (y z : Int32) (μ : Nat → Nat → Int32) (r i : Nat) : Int32 := if 100 ≤ r ∧ (r - 100) / 6 = N then (if r = 100 + 6 * N then (if i = 0 then nI k else if i = 1 then nI np else if i = 2 then y else if i = 3 then z else 0) else 0) else if r = 0 ∧ i = 2 then nI (np + 1) else μ r i
def pgN (N np : Nat) (n : Nat → Nat → Option Nat) (r i : Nat) : Option Nat := if 100 ≤ r ∧ (r - 100) / 6 = N then (if r = 100 + 6 * N then (if i = 9 then some 22 else if i = 10 then some (101 + 6 * N) else if i = 11 then some (102 + 6 * N) else none) else if r = 103 + 6 * N then (if i = 0 then some (100 + 6 * N) else if i = 1 then some 65 else if i = 8 then some (104 + 6 * N) else if i = 9 then some (105 + 6 * N) else none) else none) else if r = 1 ∧ i = np then some (100 + 6 * N) else if r = 2 ∧ i = np then some (103 + 6 * N) else n r i
def pgL (N k : Nat) : List Nat := [100 + 6 * N] ++ ((if k = 6 then [101 + 6 * N, 102 + 6 * N] else []) ++ [103 + 6 * N, 104 + 6 * N, 105 + 6 * N])
section PG
variable {N np k : Nat} {y z : Int32} {Kd U ad : Nat → Nat} {μ : Nat → Nat → Int32} {n : Nat → Nat → Option Nat} {r i : Nat}
theorem pgU_o (h : ¬ (100 ≤ r ∧ (r - 100) / 6 = N)) : pgU N U ad r = ad r := if_neg h
theorem pgU_n {x : Nat} (hx : x < 6) : pgU N U ad (100 + x + 6 * N) = U x := by
  unfold pgU
  rw [if_pos (by omega), show (100 + x + 6 * N - 100) % 6 = x by omega]
theorem pgM_o (h : ¬ (100 ≤ r ∧ (r - 100) / 6 = N)) (h0 : ¬ (r = 0 ∧ i = 2)) : pgM N np k y z μ r i = μ r i := by
  unfold pgM
  rw [if_neg h, if_neg h0]
theorem pgN_o (h : ¬ (100 ≤ r ∧ (r - 100) / 6 = N)) (h1 : ¬ (r = 1 ∧ i = np)) (h2 : ¬ (r = 2 ∧ i = np)) : pgN N np n r i = n r i := by
  unfold pgN
  rw [if_neg h, if_neg h1, if_neg h2]
theorem pgN_0 : pgN N np n (100 + 6 * N) i = if i = 9 then some 22 else if i = 10 then some (101 + 6 * N) else if i = 11 then some (102 + 6 * N) else none := by
  unfold pgN
  rw [if_pos (by omega), if_pos rfl]
theorem pgN_3 : pgN N np n (103 + 6 * N) i = if i = 0 then some (100 + 6 * N) else if i = 1 then some 65 else if i = 8 then some (104 + 6 * N) else if i = 9 then some (105 + 6 * N) else none := by
  unfold pgN
  rw [if_pos (by omega), if_neg (by omega), if_pos rfl]
theorem pgN_x {x : Nat} (hx : x < 6) (h0 : x ≠ 0) (h3 : x ≠ 3) : pgN N np n (100 + x + 6 * N) i = none := by
  unfold pgN
  rw [if_pos (by omega), if_neg (by omega), if_neg (by omega)]
theorem pgM_0 : pgM N np k y z μ (100 + 6 * N) i = if i = 0 then nI k else if i = 1 then nI np else if i = 2 then y else if i = 3 then z else 0 := by
  unfold pgM
  rw [if_pos (by omega), if_pos rfl]
theorem pgM_x {x : Nat} (hx : x < 6) (h0 : x ≠ 0) : pgM N np k y z μ (100 + x + 6 * N) i = 0 := by
  unfold pgM
  rw [if_pos (by omega), if_neg (by omega)]
theorem pgL_mem : r ∈ pgL N k ↔ ∃ x, x < 6 ∧ ((x = 1 ∨ x = 2) → k = 6) ∧ r = 100 + x + 6 * N := by
  unfold pgL
  by_cases h : k = 6
  · rw [if_pos h]
    simp only [List.mem_append, List.mem_cons, List.not_mem_nil, or_false]
    constructor
    · rintro (e | (e | e) | e | e | e)
      · exact ⟨0, by omega, fun _ => h, by omega⟩
      · exact ⟨1, by omega, fun _ => h, by omega⟩
      · exact ⟨2, by omega, fun _ => h, by omega⟩
      · exact ⟨3, by omega, fun _ => h, by omega⟩
      · exact ⟨4, by omega, fun _ => h, by omega⟩
      · exact ⟨5, by omega, fun _ => h, by omega⟩
    · rintro ⟨x, hx, _, e⟩
      omega
  · rw [if_neg h]
    simp only [List.mem_append, List.mem_cons, List.not_mem_nil, or_false, false_or]
    constructor
    · rintro (e | e | e | e)
      · exact ⟨0, by omega, fun q => by omega, by omega⟩
      · exact ⟨3, by omega, fun q => by omega, by omega⟩
      · exact ⟨4, by omega, fun q => by omega, by omega⟩
      · exact ⟨5, by omega, fun q => by omega, by omega⟩
    · rintro ⟨x, hx, hk, e⟩
      have : x ≠ 1 ∧ x ≠ 2 := ⟨fun q => h (hk (Or.inl q)), fun q => h (hk (Or.inr q))⟩
      omega
theorem pgL_nd : (pgL N k).Nodup := by
  unfold pgL
  by_cases h : k = 6
  · rw [if_pos h]
    simp only [List.cons_append, List.nil_append, List.nodup_cons, List.mem_cons, List.not_mem_nil, or_false, List.nodup_nil, not_false_eq_true, and_true]
    omega
  · rw [if_neg h]
    simp only [List.cons_append, List.nil_append, List.nodup_cons, List.mem_cons, List.not_mem_nil, or_false, List.nodup_nil, not_false_eq_true, and_true]
    omega
/-- reach -/
theorem gR_new : gR (pgK N k Kd) (N + 1) r ↔ gR Kd N r ∨ r ∈ pgL N k := by
  rw [pgL_mem]
  unfold gR pgK
  constructor
  · rintro (h | ⟨h1, h2, h3⟩)
    · exact Or.inl (Or.inl h)
    · by_cases e : (r - 100) / 6 = N
      · rw [if_pos e] at h3
        exact Or.inr ⟨(r - 100) % 6, by omega, h3, by omega⟩
      · rw [if_neg e] at h3
        exact Or.inl (Or.inr ⟨h1, by omega, h3⟩)
  · rintro ((h | ⟨h1, h2, h3⟩) | ⟨x, hx, hk, e⟩)
    · exact Or.inl h
    · refine Or.inr ⟨h1, by omega, ?_⟩
      rw [if_neg (by omega)]
      exact h3
    · refine Or.inr ⟨by omega, by omega, ?_⟩
      rw [if_pos (by omega)]
      intro q
      exact hk (by omega)
theorem gR_ng (h : gR Kd N r) : ¬ (100 ≤ r ∧ (r - 100) / 6 = N) := by
  rcases h with h | ⟨h1, h2, _⟩ <;> omega
theorem kC_pg (h : ¬ (100 ≤ r ∧ (r - 100) / 6 = N)) : kC (pgK N k Kd) r = kC Kd r := by
  unfold kC
  by_cases h4 : r < 40
  · rw [if_pos h4, if_pos h4]
  · rw [if_neg h4, if_neg h4]
    by_cases h1 : r < 100
    · rw [if_pos h1, if_pos h1]
    · rw [if_neg h1, if_neg h1]
      unfold pgK
      rw [if_neg (by omega)]
theorem kF_t {Kd : Nat → Nat} {N r : Nat} : kF Kd N r < 18 ↔ gR Kd N r ∧ kC Kd r < 18 := by
  constructor
  · intro h
    by_cases g : gR Kd N r
    · rw [kF_g g] at h
      exact ⟨g, h⟩
    · rw [show kF Kd N r = 99 from if_neg (fun x => g (gRb_t.1 x))] at h
      omega
  · rintro ⟨g, h⟩
    rw [kF_g g]
    exact h
theorem kC_n {x : Nat} (hx : x < 6) : kC (pgK N k Kd) (100 + x + 6 * N) = kX k x := by
  rw [kC_x _ _ x hx]
  unfold pgK
  rw [if_pos rfl]
theorem kX_lt {x : Nat} (hx : x < 6) : kX k x < 18 := by
  unfold kX ckK
  repeat (first | split | omega)
theorem RL_pg {RL : List Nat} (h : RLok Kd N RL) : RLok (pgK N k Kd) (N + 1) (RL ++ pgL N k) := by
  obtain ⟨h1, h2⟩ := h
  have hL : ∀ q, q ∈ pgL N k → 100 ≤ q ∧ (q - 100) / 6 = N := by
    intro q hq
    obtain ⟨x, hx, _, e⟩ := pgL_mem.1 hq
    omega
  refine ⟨List.pairwise_append.2 ⟨h1, pgL_nd, fun a ha b hb e => ?_⟩, fun r => ?_⟩
  · subst e
    exact gR_ng (kF_t.1 ((h2 a).1 ha)).1 (hL a hb)
  · rw [List.mem_append, kF_t, gR_new, h2, kF_t]
    constructor
    · rintro (⟨g1, g2⟩ | g)
      · exact ⟨Or.inl g1, by rw [kC_pg (gR_ng g1)]; exact g2⟩
      · obtain ⟨x, hx, _, e⟩ := pgL_mem.1 g
        exact ⟨Or.inr g, by rw [e, kC_n hx]; exact kX_lt hx⟩
    · rintro ⟨g1 | g1, g2⟩
      · rw [kC_pg (gR_ng g1)] at g2
        exact Or.inl ⟨g1, g2⟩
      · exact Or.inr g1
theorem ckN : ∀ k, k < 6 → fm_N (ckK k) = 10 := by decide
theorem ck13 (k : Nat) : ckK k < 13 := by
  unfold ckK
  split <;> omega
theorem cl_pg (hk : k ≤ 6) (hC : cl Kd N (μ, n)) : cl (pgK N k Kd) (N + 1) (pgM N np k y z μ, pgN N np n) := by
  intro r j q hr hj hq
  change pgN N np n r j = some q at hq
  rw [gR_new] at hr ⊢
  have hnew : ∀ x, x < 6 → ((x = 1 ∨ x = 2) → k = 6) → 100 + x + 6 * N ∈ pgL N k := fun x hx hk => pgL_mem.2 ⟨x, hx, hk, rfl⟩
  by_cases hb : 100 ≤ r ∧ (r - 100) / 6 = N
  · obtain ⟨x, hx, e⟩ : ∃ x, x < 6 ∧ r = 100 + x + 6 * N := ⟨r - 100 - 6 * N, by omega, by omega⟩
    subst e
    by_cases h0 : x = 0
    · subst h0
      have hq : pgN N np n (100 + 6 * N) j = some q := hq
      rw [pgN_0] at hq
      have h6 : 9 < j → k = 6 := by
        intro h9
        unfold rs at hj
        rw [kC_n hx] at hj
        have e1 : kX k 0 = ckK k := rfl
        rw [e1, if_pos (ck13 k)] at hj
        by_cases e6 : k = 6
        · exact e6
        · rw [ckN k (by omega)] at hj
          omega
      by_cases c9 : j = 9
      · rw [if_pos c9] at hq
        cases hq
        exact Or.inl (Or.inl (by omega))
      rw [if_neg c9] at hq
      by_cases c10 : j = 10
      · rw [if_pos c10] at hq
        cases hq
        exact Or.inr (hnew 1 (by omega) (fun _ => h6 (by omega)))
      rw [if_neg c10] at hq
      by_cases c11 : j = 11
      · rw [if_pos c11] at hq
        cases hq
        exact Or.inr (hnew 2 (by omega) (fun _ => h6 (by omega)))
      rw [if_neg c11] at hq
      cases hq
    · by_cases h3 : x = 3
      · subst h3
        have hq : pgN N np n (103 + 6 * N) j = some q := hq
        rw [pgN_3] at hq
        by_cases c0 : j = 0
        · rw [if_pos c0] at hq
          cases hq
          exact Or.inr (hnew 0 (by omega) (fun q => by omega))
        rw [if_neg c0] at hq
        by_cases c1 : j = 1
        · rw [if_pos c1] at hq
          cases hq
          exact Or.inl (Or.inl (by omega))
        rw [if_neg c1] at hq
        by_cases c8 : j = 8
        · rw [if_pos c8] at hq
          cases hq
          exact Or.inr (hnew 4 (by omega) (fun q => by omega))
        rw [if_neg c8] at hq
        by_cases c9 : j = 9
        · rw [if_pos c9] at hq
          cases hq
          exact Or.inr (hnew 5 (by omega) (fun q => by omega))
        rw [if_neg c9] at hq
        cases hq
      · rw [pgN_x hx h0 h3] at hq
        cases hq
  · have hr' : gR Kd N r := by
      rcases hr with h | h
      · exact h
      · obtain ⟨x, hx, _, e⟩ := pgL_mem.1 h
        exact absurd ⟨by omega, by omega⟩ hb
    by_cases c1 : r = 1 ∧ j = np
    · unfold pgN at hq
      rw [if_neg hb, if_pos c1] at hq
      cases hq
      exact Or.inr (hnew 0 (by omega) (fun q => by omega))
    by_cases c2 : r = 2 ∧ j = np
    · unfold pgN at hq
      rw [if_neg hb, if_neg c1, if_pos c2] at hq
      cases hq
      exact Or.inr (hnew 3 (by omega) (fun q => by omega))
    rw [pgN_o hb c1 c2] at hq
    refine Or.inl (hC r j q hr' ?_ hq)
    unfold rs at hj ⊢
    rw [kC_pg hb] at hj
    exact hj
end PG
