/-! PANE: what holds after it -/
section PI
variable {D : va_G} {ids : Nat → Nat} {s : State} {A : Nat → Prop} {N np k a b sz : Nat} {Kd U ad adT : Nat → Nat} {RL : List Nat}
theorem I_pg (I : lw_I D ids s A Kd N RL ad adT) (hU : ∀ x, x < 6 → ((x = 1 ∨ x = 2) → k = 6) → sz ≤ U x) (hUi : ∀ x x', x < 6 → ((x = 1 ∨ x = 2) → k = 6) → x' < 6 → ((x' = 1 ∨ x' = 2) → k = 6) → U x = U x' → x = x') (hlt : ∀ r, r ∈ RL → ad r < sz) (hltT : ∀ q, q ∈ RLT → adT q < sz) (hsz : s.heap.size ≤ sz) : lw_I D ids s A (pgK N k Kd) (N + 1) (RL ++ pgL N k) (pgU N U ad) adT := by
  obtain ⟨⟨g1, g2, g3, gK, gA, gS⟩, GT, ok, hd⟩ := I
  have ok1 := RL_pg (k := k) ok
  have ho : ∀ r, r ∈ RL → pgU N U ad r = ad r := fun r hr => pgU_o (gR_ng (kF_t.1 ((ok.2 r).1 hr)).1)
  have hn : ∀ r, r ∈ pgL N k → ∃ x, x < 6 ∧ ((x = 1 ∨ x = 2) → k = 6) ∧ r = 100 + x + 6 * N ∧ pgU N U ad r = U x := by
    intro r hr
    obtain ⟨x, hx, hk, e⟩ := pgL_mem.1 hr
    exact ⟨x, hx, hk, e, by rw [e]; exact pgU_n hx⟩
  refine ⟨⟨ok1.1, fun r hr => (ok1.2 r).2 hr, fun a ha b hb e => ?_, gK, fun r hr => ?_, gS⟩, GT, ok1, fun r hr q hq => ?_⟩
  · rcases List.mem_append.1 ha with h1 | h1 <;> rcases List.mem_append.1 hb with h2 | h2
    · rw [ho a h1, ho b h2] at e
      exact g3 a h1 b h2 e
    · obtain ⟨x, hx, hk, e1, e2⟩ := hn b h2
      rw [ho a h1, e2] at e
      have q1 := hlt a h1
      have q2 := hU x hx hk
      omega
    · obtain ⟨x, hx, hk, e1, e2⟩ := hn a h1
      rw [ho b h2, e2] at e
      have q1 := hlt b h2
      have q2 := hU x hx hk
      omega
    · obtain ⟨x, hx, hk, e1, e2⟩ := hn a h1
      obtain ⟨x', hx', hk', e1', e2'⟩ := hn b h2
      rw [e2, e2'] at e
      have := hUi x x' hx hk hx' hk' e
      omega
  · rcases List.mem_append.1 hr with h | h
    · rw [ho r h]
      exact gA r h
    · obtain ⟨x, hx, hk, e1, e2⟩ := hn r h
      rw [e2]
      exact gS _ (Nat.le_trans hsz (hU x hx hk))
  · rcases List.mem_append.1 hr with h | h
    · rw [ho r h]
      exact hd r h q hq
    · obtain ⟨x, hx, hk, e1, e2⟩ := hn r h
      rw [e2]
      have q1 := hltT q hq
      have q2 := hU x hx hk
      omega
theorem I_rn (I : lw_I D ids s A Kd N RL ad adT) (ha : a < N) (hb : b < N) : lw_I D ids s A (fun j => Kd (sw a b j)) N (RL.map (rnm a b)) (fun r => ad (rnm a b r)) adT := by
  obtain ⟨⟨g1, g2, g3, gK, gA, gS⟩, GT, ok, hd⟩ := I
  have hmem : ∀ r, r ∈ RL.map (rnm a b) ↔ rnm a b r ∈ RL := by
    intro r
    constructor
    · intro h
      obtain ⟨q, hq, e⟩ := List.mem_map.1 h
      rw [← e, rnm_rnm]
      exact hq
    · intro h
      exact List.mem_map.2 ⟨_, h, rnm_rnm a b r⟩
  have hnd : (RL.map (rnm a b)).Nodup := by
    unfold List.Nodup
    rw [List.pairwise_map]
    refine List.Pairwise.imp (fun {x y} h e => h ?_) ok.1
    rw [← rnm_rnm a b x, e, rnm_rnm]
  have ok2 : RLok (fun j => Kd (sw a b j)) N (RL.map (rnm a b)) := by
    refine ⟨hnd, fun r => ?_⟩
    rw [hmem, ok.2, kF_rnm ha hb]
  refine ⟨⟨hnd, fun r hr => (ok2.2 r).2 hr, fun x hx y hy e => ?_, gK, fun r hr => gA _ ((hmem r).1 hr), gS⟩, GT, ok2, fun r hr q hq => hd _ ((hmem r).1 hr) q hq⟩
  have := g3 _ ((hmem x).1 hx) _ ((hmem y).1 hy) e
  rw [← rnm_rnm a b x, this, rnm_rnm]
end PI
section PR
variable {N np k v w a b : Nat} {Kd Kd' : Nat → Nat} {μ : Nat → Nat → Int32} {n : Nat → Nat → Option Nat} {ρ ρ' : Nat → Nat → Int32}
theorem sw_a (a b : Nat) : sw a b a = b := if_pos rfl
theorem sw_b (a b : Nat) : sw a b b = a := by
  unfold sw
  by_cases h : b = a
  · rw [if_pos h]; exact h
  · rw [if_neg h, if_pos rfl]
theorem sw_lo {j : Nat} (h : j < a) (hab : a ≤ b) : sw a b j = j := by
  unfold sw
  rw [if_neg (by omega), if_neg (by omega)]
theorem rnm_x {x j : Nat} (hx : x < 6) : rnm a b (100 + x + 6 * j) = 100 + x + 6 * sw a b j := by
  unfold rnm
  rw [if_neg (by omega), show (100 + x + 6 * j - 100) % 6 = x by omega, show (100 + x + 6 * j - 100) / 6 = j by omega]
theorem rnm_g {r : Nat} (hab : a ≤ b) (h : r < 100 ∨ (r - 100) / 6 < a) : rnm a b r = r := by
  by_cases h1 : r < 100
  · exact rnm_lo h1
  · obtain ⟨x, j, hx, e⟩ : ∃ x j, x < 6 ∧ r = 100 + x + 6 * j := ⟨(r - 100) % 6, (r - 100) / 6, by omega, by omega⟩
    subst e
    rw [rnm_x hx, sw_lo (by omega) hab]
theorem Rep_pg (hR : Rep Kd μ n ρ) (h21 : ρ 1 21 = nI np) (hp : np < 6) (hN : np ≤ N) (hk : k ≤ 6) (hv : v ≤ 9) (hw : w ≤ 9) (hρ : ∀ r, r ≠ 1 → ρ' r = ρ r) (hρ1 : ρ' 1 = paneW np k v w (ρ 1)) : Rep (fun j => pgK N k Kd (sw np N j)) (rnS np N (pgM N np k (nI v) (nI w) μ, pgN N np n)).1 (rnS np N (pgM N np k (nI v) (nI w) μ, pgN N np n)).2 ρ' := by
  have eg : ∀ r, (r < 100 ∨ (r - 100) / 6 < np) → rnm np N r = r := fun r h => rnm_g hN h
  have e6 : ∀ x, x < 6 → rnm np N (100 + x + 6 * np) = 100 + x + 6 * N := fun x hx => by rw [rnm_x hx, sw_a]
  have e7 : ∀ x, x < 6 → rnm np N (100 + x + 6 * N) = 100 + x + 6 * np := fun x hx => by rw [rnm_x hx, sw_b]
  have ng : ∀ r, (r < 100 ∨ (r - 100) / 6 < np) → ¬ (100 ≤ r ∧ (r - 100) / 6 = N) := fun r h => by omega
  refine Rep_new (np := np) (k := k) (v := v) (w := w) hR h21 hp hk hv hw (fun j hj => ?_) ?_ (fun r h0 hr => ?_) (fun i hi => ?_) ?_ ⟨?_, ?_, ?_, ?_, ?_, ?_⟩ (fun x hx => ?_) (fun r i q h1 h2 hr hq hq2 => ?_) ?_ ?_ ⟨?_, ?_, ?_, ?_, ?_, ?_⟩ hρ hρ1
  · show pgK N k Kd (sw np N j) = Kd j
    rw [sw_lo hj hN]
    exact if_neg (by omega)
  · show pgK N k Kd (sw np N np) = k
    rw [sw_a]
    exact if_pos rfl
  · funext i
    show pgM N np k (nI v) (nI w) μ (rnm np N r) i = μ r i
    rw [eg r hr, pgM_o (ng r hr) (by omega)]
  · show pgM N np k (nI v) (nI w) μ (rnm np N 0) i = μ 0 i
    rw [eg 0 (by omega), pgM_o (by omega) (by omega)]
  · show pgM N np k (nI v) (nI w) μ (rnm np N 0) 2 = nI (np + 1)
    rw [eg 0 (by omega)]
    unfold pgM
    rw [if_neg (by omega), if_pos ⟨rfl, rfl⟩]
  · show pgM N np k (nI v) (nI w) μ (rnm np N (100 + 0 + 6 * np)) 0 = nI k
    rw [e6 0 (by omega)]
    exact pgM_0
  · show pgM N np k (nI v) (nI w) μ (rnm np N (100 + 0 + 6 * np)) 1 = nI np
    rw [e6 0 (by omega)]
    exact pgM_0
  · show pgM N np k (nI v) (nI w) μ (rnm np N (100 + 0 + 6 * np)) 2 = nI v
    rw [e6 0 (by omega)]
    exact pgM_0
  · show pgM N np k (nI v) (nI w) μ (rnm np N (100 + 0 + 6 * np)) 3 = nI w
    rw [e6 0 (by omega)]
    exact pgM_0
  · show pgM N np k (nI v) (nI w) μ (rnm np N (100 + 0 + 6 * np)) 4 = 0
    rw [e6 0 (by omega)]
    exact pgM_0
  · show pgM N np k (nI v) (nI w) μ (rnm np N (100 + 0 + 6 * np)) 5 = 0
    rw [e6 0 (by omega)]
    exact pgM_0
  · show pgM N np k (nI v) (nI w) μ (rnm np N (100 + 1 + 6 * np)) x = 0
    rw [e6 1 (by omega)]
    exact pgM_x (by omega) (by omega)
  · show (pgN N np n (rnm np N r) i).map (rnm np N) = some q
    rw [eg r hr, pgN_o (ng r hr) (by omega) (by omega), hq]
    show some (rnm np N q) = some q
    rw [eg q hq2]
  · show (pgN N np n (rnm np N 1) np).map (rnm np N) = some (100 + 0 + 6 * np)
    rw [eg 1 (by omega)]
    unfold pgN
    rw [if_neg (by omega), if_pos ⟨rfl, rfl⟩]
    show some (rnm np N (100 + 0 + 6 * N)) = _
    rw [e7 0 (by omega)]
  · show (pgN N np n (rnm np N 2) np).map (rnm np N) = some (100 + 3 + 6 * np)
    rw [eg 2 (by omega)]
    unfold pgN
    rw [if_neg (by omega), if_neg (by omega), if_pos ⟨rfl, rfl⟩]
    show some (rnm np N (100 + 3 + 6 * N)) = _
    rw [e7 3 (by omega)]
  · show (pgN N np n (rnm np N (100 + 0 + 6 * np)) 9).map (rnm np N) = some 22
    rw [e6 0 (by omega)]
    show (pgN N np n (100 + 6 * N) 9).map (rnm np N) = some 22
    rw [pgN_0]
    show some (rnm np N 22) = some 22
    rw [eg 22 (by omega)]
  · show (pgN N np n (rnm np N (100 + 0 + 6 * np)) 10).map (rnm np N) = some (100 + 1 + 6 * np)
    rw [e6 0 (by omega)]
    show (pgN N np n (100 + 6 * N) 10).map (rnm np N) = _
    rw [pgN_0]
    show some (rnm np N (100 + 1 + 6 * N)) = _
    rw [e7 1 (by omega)]
  · show (pgN N np n (rnm np N (100 + 0 + 6 * np)) 11).map (rnm np N) = some (100 + 2 + 6 * np)
    rw [e6 0 (by omega)]
    show (pgN N np n (100 + 6 * N) 11).map (rnm np N) = _
    rw [pgN_0]
    show some (rnm np N (100 + 2 + 6 * N)) = _
    rw [e7 2 (by omega)]
  · show (pgN N np n (rnm np N (100 + 3 + 6 * np)) 0).map (rnm np N) = some (100 + 0 + 6 * np)
    rw [e6 3 (by omega)]
    show (pgN N np n (103 + 6 * N) 0).map (rnm np N) = _
    rw [pgN_3]
    show some (rnm np N (100 + 0 + 6 * N)) = _
    rw [e7 0 (by omega)]
  · show (pgN N np n (rnm np N (100 + 3 + 6 * np)) 8).map (rnm np N) = some (100 + 4 + 6 * np)
    rw [e6 3 (by omega)]
    show (pgN N np n (103 + 6 * N) 8).map (rnm np N) = _
    rw [pgN_3]
    show some (rnm np N (100 + 4 + 6 * N)) = _
    rw [e7 4 (by omega)]
  · show (pgN N np n (rnm np N (100 + 3 + 6 * np)) 9).map (rnm np N) = some (100 + 5 + 6 * np)
    rw [e6 3 (by omega)]
    show (pgN N np n (103 + 6 * N) 9).map (rnm np N) = _
    rw [pgN_3]
    show some (rnm np N (100 + 5 + 6 * N)) = _
    rw [e7 5 (by omega)]
/-- there are as many groups as panes, or more -/
theorem np_le (hR : Rep Kd μ n ρ) (hC : cl Kd N (μ, n)) (h21 : ρ 1 21 = nI np) (hp : np ≤ 6) : np ≤ N := by
  obtain ⟨np2, nt, ⟨a1, a2, a3, a4, a5, a6, a7⟩, _⟩ := hR
  have e : np2 = np := np_eq (a6.symm.trans h21) a7 hp
  subst e
  by_cases h0 : np2 = 0
  · omega
  · have h1 := (a2 (np2 - 1) (by omega)).1
    have h2 := hC 1 (np2 - 1) _ (Or.inl (by omega)) (show np2 - 1 < 6 by omega) h1
    rcases h2 with h | ⟨h3, h4, _⟩
    · omega
    · omega
end PR
/-! the reference's pane() refuses -/
section PRE
variable {ρ : Nat → Nat → Int32}
theorem r_pane_e1 {x y z : Int32} (h : (decide (0 ≤ x) && decide (x ≤ nI 6)) = false) : m_X12_pane kR lR 0 x y z (ρ, nR) = some (-1, (ρ, nR)) := by
  unfold m_X12_pane
  rw [r_in0, show (6 : Int32) = nI 6 from rfl, h, fm_b1_s, if_pos (show b2i false = 0 by decide)]
theorem r_pane_e2 {x y z : Int32} (h : (decide (0 ≤ x) && decide (x ≤ nI 6)) = true) (h2 : (decide (0 ≤ y) && decide (y ≤ nI 9)) = false) : m_X12_pane kR lR 0 x y z (ρ, nR) = some (-2, (ρ, nR)) := by
  unfold m_X12_pane
  rw [r_in0, r_in0, show (6 : Int32) = nI 6 from rfl, show (9 : Int32) = nI 9 from rfl, h, h2, fm_b1_s, if_neg (show ¬ b2i true = 0 by decide), fm_b1_s, if_pos (show b2i false = 0 by decide)]
theorem r_pane_e3 {x y z : Int32} (h : (decide (0 ≤ x) && decide (x ≤ nI 6)) = true) (h2 : (decide (0 ≤ y) && decide (y ≤ nI 9)) = true) (h3 : (decide (0 ≤ z) && decide (z ≤ nI 9)) = false) : m_X12_pane kR lR 0 x y z (ρ, nR) = some (-2, (ρ, nR)) := by
  unfold m_X12_pane
  rw [r_in0, r_in0, r_in0, show (6 : Int32) = nI 6 from rfl, show (9 : Int32) = nI 9 from rfl, h, h2, h3, fm_b1_s, if_neg (show ¬ b2i true = 0 by decide), fm_b1_s, if_neg (show ¬ b2i true = 0 by decide), fm_b1_s, if_pos (show b2i false = 0 by decide)]
theorem r_pane_e4 {x y z : Int32} (h : (decide (0 ≤ x) && decide (x ≤ nI 6)) = true) (h2 : (decide (0 ≤ y) && decide (y ≤ nI 9)) = true) (h3 : (decide (0 ≤ z) && decide (z ≤ nI 9)) = true) (h21 : ρ 1 21 = nI 6) : m_X12_pane kR lR 0 x y z (ρ, nR) = some (-4, (ρ, nR)) := by
  unfold m_X12_pane
  rw [r_in0, r_in0, r_in0, show (6 : Int32) = nI 6 from rfl, show (9 : Int32) = nI 9 from rfl, h, h2, h3, fm_b1_s, if_neg (show ¬ b2i true = 0 by decide), fm_b1_s, if_neg (show ¬ b2i true = 0 by decide), fm_b1_s, if_neg (show ¬ b2i true = 0 by decide), R_g1, R_sl 21 (by decide), show (ρ 1 (OfNat.ofNat 21 : Nat)) = nI 6 from h21, if_pos rfl]
theorem win_b (x m : Int32) : (if x < 0 then 0 else if m < x then 0 else 1 : Int32) = b2i (decide (0 ≤ x) && decide (x ≤ m)) := by
  by_cases h1 : x < 0
  · rw [if_pos h1, decide_eq_false (Int32.not_le.2 h1)]
    rfl
  · rw [if_neg h1, decide_eq_true (Int32.not_lt.1 h1)]
    by_cases h2 : m < x
    · rw [if_pos h2, decide_eq_false (Int32.not_le.2 h2)]
      rfl
    · rw [if_neg h2, decide_eq_true (Int32.not_lt.1 h2)]
      rfl
end PRE
