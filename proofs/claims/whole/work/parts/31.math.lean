/-! THE DOCUMENT, pure: bits, offers, tests, bites, growth, hours -/
def bit (n c : Nat) : Nat := n / 2 ^ c % 2
def bes (n c : Nat) : Nat := (if 0 < c then bit n (c - 1) else 0) + (if c < 11 then bit n (c + 1) else 0)
theorem bit_lt (n c : Nat) : bit n c < 2 := Nat.mod_lt _ (by omega)
theorem bes_le (n c : Nat) : bes n c ≤ 2 := by
  have h1 := bit_lt n (c - 1)
  have h2 := bit_lt n (c + 1)
  unfold bes
  split <;> split <;> omega
theorem sh_31 : ∀ c, c < 32 → ((nI c &&& 31).toBitVec.smod 32).toNat = c := by decide
theorem sh_shr {n c : Nat} (hn : n < 2 ^ 31) (hc : c < 32) : nI n >>> (nI c &&& 31) = nI (n / 2 ^ c) := pk_shrN hn _ c (sh_31 c hc)
theorem sh_bit {n c : Nat} (hn : n < 2 ^ 31) (hc : c < 32) : (nI n >>> (nI c &&& 31)) &&& 1 = nI (bit n c) := by
  rw [sh_shr hn hc, pk_andN (k := 1) (Nat.lt_of_le_of_lt (Nat.div_le_self _ _) (by omega)) rfl]
  rfl
theorem sh_shl {n c : Nat} (hc : c < 32) (h : n * 2 ^ c < 2 ^ 32) : nI n <<< (nI c &&& 31) = nI (n * 2 ^ c) := pk_shlN _ c (sh_31 c hc) h
/-- runs, longest, run over the first cells -/
def of_s (n : Nat) : Nat → Nat × Nat × Nat
  | 0 => (0, 0, 0)
  | c + 1 => match of_s n c with
    | (r, l, u) => (r + (if (if bit n c = 1 then u + 1 else 0) = 1 then 1 else 0), (if l < (if bit n c = 1 then u + 1 else 0) then (if bit n c = 1 then u + 1 else 0) else l), (if bit n c = 1 then u + 1 else 0))
theorem of_b (n : Nat) : ∀ c, (of_s n c).1 ≤ c ∧ (of_s n c).2.1 ≤ c ∧ (of_s n c).2.2 ≤ c
  | 0 => by simp [of_s]
  | c + 1 => by
    have h := of_b n c
    unfold of_s
    revert h
    generalize of_s n c = x
    obtain ⟨r, l, u⟩ := x
    intro h
    simp only at h ⊢
    refine ⟨?_, ?_, ?_⟩ <;> split <;> (try split) <;> omega
def offN (f t n : Nat) : Nat := (of_s n 12).1 * f + (of_s n 12).2.1 * t
/-- a sign of a test: (w, h, v) a comparison; w = 6 not, 7 both, 8 either -/
abbrev Op := Nat × Nat × Nat
/-- a clause: its signs, whether it chills, by how much -/
abbrev Cl := List Op × Bool × Nat
def cmpB (h v x : Nat) : Bool := if h = 0 then decide (x < v) else if h = 1 then decide (x = v) else decide (v < x)
def stS (st : Nat → Nat → Bool) (k : Nat) (f : Nat → Bool) : Nat → Nat → Bool := fun i => if i = k then f else st i
theorem stS_s (st : Nat → Nat → Bool) (k : Nat) (f : Nat → Bool) : stS st k f k = f := if_pos rfl
theorem stS_n {st : Nat → Nat → Bool} {k i : Nat} {f : Nat → Bool} (h : i ≠ k) : stS st k f i = st i := if_neg h
/-- the signs are worked off, for all cells at once -/
def opR (E : Nat → Nat → Nat) : List Op → Nat → (Nat → Nat → Bool) → Nat → Nat → Bool
  | [], _, st => st
  | (w, h, v) :: r, k, st =>
    if w < 6 then opR E r (k + 1) (stS st k (fun c => cmpB h v (E c w)))
    else if w = 6 then opR E r k (stS st (k - 1) (fun c => !st (k - 1) c))
    else if w = 7 then opR E r (k - 1) (stS st (k - 2) (fun c => st (k - 2) c && st (k - 1) c))
    else opR E r (k - 1) (stS st (k - 2) (fun c => st (k - 2) c || st (k - 1) c))
/-- from height k the signs lead to height k2, never above 16 -/
def opH : List Op → Nat → Nat → Prop
  | [], k, k2 => k = k2
  | (w, h, v) :: r, k, k2 =>
    if w < 6 then h < 3 ∧ v < 100 ∧ k < 16 ∧ opH r (k + 1) k2
    else if w = 6 then 0 < k ∧ opH r k k2
    else 1 < k ∧ w < 9 ∧ opH r (k - 1) k2
theorem opH_app : ∀ (a b : List Op) (k k1 k2 : Nat), opH a k k1 → opH b k1 k2 → opH (a ++ b) k k2
  | [], b, k, k1, k2, ha, hb => by
    have : k = k1 := ha
    subst this
    exact hb
  | (w, h, v) :: r, b, k, k1, k2, ha, hb => by
    show opH ((w, h, v) :: (r ++ b)) k k2
    unfold opH at ha ⊢
    by_cases h1 : w < 6
    · rw [if_pos h1] at ha ⊢
      exact ⟨ha.1, ha.2.1, ha.2.2.1, opH_app r b _ _ _ ha.2.2.2 hb⟩
    · rw [if_neg h1] at ha ⊢
      by_cases h2 : w = 6
      · rw [if_pos h2] at ha ⊢
        exact ⟨ha.1, opH_app r b _ _ _ ha.2 hb⟩
      · rw [if_neg h2] at ha ⊢
        exact ⟨ha.1, ha.2.1, opH_app r b _ _ _ ha.2.2 hb⟩
def okL (E : Nat → Nat → Nat) (l : List Op) (c : Nat) : Bool := opR E l 0 (fun _ _ => false) 0 c
def en (p k w h : Nat) (b : Nat → Nat) (c : Nat) : Nat → Nat
  | 0 => p
  | 1 => k
  | 2 => c
  | 3 => b c
  | 4 => w
  | _ => h
def clB (E : Nat → Nat → Nat) (c : Nat) : List Cl → Int32 → Int32
  | [], x => x
  | (t, ch, n) :: r, x => clB E c r (if okL E t c = true then (if ch = true then x + nI n else x - nI n) else x)
/-- one of PANES in a course: number, KIND, v, WARM, COLD, ROW, CLAUSES -/
abbrev Pn := Nat × Nat × Nat × Nat × Nat × (Nat → Nat) × List Cl
def Pn.p (q : Pn) : Nat := q.1
def Pn.k (q : Pn) : Nat := q.2.1
def Pn.v (q : Pn) : Nat := q.2.2.1
def Pn.w (q : Pn) : Nat := q.2.2.2.1
def Pn.c (q : Pn) : Nat := q.2.2.2.2.1
def Pn.r (q : Pn) : Nat → Nat := q.2.2.2.2.2.1
def Pn.cl (q : Pn) : List Cl := q.2.2.2.2.2.2
def bite (q : Pn) (h ice c : Nat) : Int32 := clB (en (Pn.p q) (Pn.k q) (Pn.w q) (h % 10) (bes ice)) c (Pn.cl q) (nI (Pn.c q) - nI (Pn.w q))
def growK (k v r b c : Nat) (x y : Int32) : Int32 := match k with
  | 1 => x - y
  | 2 => x / 2
  | 3 => x + nI (2 * b)
  | 4 => if c % 3 = 2 then 0 else x - y
  | 5 => x / 2 + nI v
  | 6 => x + nI (2 * b) + nI r - 4
  | _ => x
def grow (q : Pn) (h ice c : Nat) : Int32 := growK (Pn.k q) (Pn.v q) (Pn.r q (c % 4)) (bes ice c) c (bite q h ice c) (nI (if h % 4 = 0 then Pn.v q else 0))
def will (q : Pn) (h ice c : Nat) : Bool := if bit ice c = 1 then decide (¬ grow q h ice c ≤ -10) else decide (¬ grow q h ice c ≤ 0) && (decide (c = 0) || decide (0 < bes ice c))
def icN (f : Nat → Bool) : Nat → Nat
  | 0 => 0
  | c + 1 => icN f c + (if f c = true then 2 ^ c else 0)
theorem icN_lt (f : Nat → Bool) : ∀ c, icN f c < 2 ^ c
  | 0 => by simp [icN]
  | c + 1 => by
    have h := icN_lt f c
    unfold icN
    rw [Nat.pow_succ]
    split <;> omega
def nxt (q : Pn) (h ice : Nat) : Nat := icN (will q h ice) 12
theorem nxt_lt (q : Pn) (h ice : Nat) : nxt q h ice < 4096 := icN_lt _ 12
def runs (q : Pn) : Nat → Nat → Nat → Nat
  | 0, _, ice => ice
  | n + 1, h, ice => runs q n (h + 1) (nxt q h ice)
theorem runs_lt (q : Pn) : ∀ n h ice, ice < 4096 → runs q n h ice < 4096
  | 0, _, _, hi => hi
  | n + 1, h, ice, _ => runs_lt q n (h + 1) _ (nxt_lt q h ice)
theorem runs_succ (q : Pn) : ∀ n h ice, runs q (n + 1) h ice = nxt q (h + n) (runs q n h ice)
  | 0, h, ice => rfl
  | n + 1, h, ice => by
    have := runs_succ q n (h + 1) (nxt q h ice)
    rw [show h + (n + 1) = h + 1 + n by omega]
    exact this
/-- one hour, some hours of a pane that may be shut -/
def goS (q : Pn) (sh : Bool) (n h ice : Nat) : Nat := if sh = true then ice else runs q n h ice
theorem goS_lt (q : Pn) (sh : Bool) (n h ice : Nat) (hi : ice < 4096) : goS q sh n h ice < 4096 := by
  unfold goS
  split
  · exact hi
  · exact runs_lt q n h ice hi
