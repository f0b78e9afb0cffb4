/-! the class: at which cells a test, a clause holds -/
def En (q : Pn) (h ice : Nat) : Nat → Nat → Nat := en (Pn.p q) (Pn.k q) (Pn.w q) (h % 10) (bes ice)
theorem and_pow (m k : Nat) : m &&& 2 ^ k = if m.testBit k = true then 2 ^ k else 0 := by
  apply Nat.eq_of_testBit_eq
  intro c
  rw [Nat.testBit_and, Nat.testBit_two_pow]
  by_cases hc : k = c
  · subst hc
    rw [decide_eq_true rfl, Bool.and_true]
    cases hb : m.testBit k
    · rw [if_neg (by decide), Nat.zero_testBit]
    · rw [if_pos rfl, Nat.testBit_two_pow, decide_eq_true rfl]
  · rw [decide_eq_false hc, Bool.and_false]
    cases hb : m.testBit k
    · rw [if_neg (by decide), Nat.zero_testBit]
    · rw [if_pos rfl, Nat.testBit_two_pow, decide_eq_false hc]
theorem and_z (m k : Nat) (hk : k < 12) : (nI m &&& nI (2 ^ k) = 0) ↔ m.testBit k = false := by
  have h2 : 2 ^ k ≤ 2 ^ 11 := Nat.pow_le_pow_right (by omega) (by omega)
  have h3 : 0 < 2 ^ k := Nat.two_pow_pos k
  rw [nI_and, and_pow]
  cases m.testBit k
  · rw [if_neg (by decide)]
    exact ⟨fun _ => rfl, fun _ => rfl⟩
  · rw [if_pos rfl]
    exact ⟨fun h => absurd h (nI_ne0 h3 (by omega)), fun h => absurd h (by decide)⟩
theorem bit_z {m x : Nat} (hm : m < 4096) (hx : x < 32) : ((nI m >>> (nI x &&& 31)) &&& 1 = 0) ↔ m.testBit x = false := by
  rw [sh_bit (by omega) hx, bit_01]
  cases m.testBit x
  · rw [if_neg (by decide)]
    exact ⟨fun _ => rfl, fun _ => rfl⟩
  · rw [if_pos rfl]
    exact ⟨fun h => absurd h (by decide), fun h => absurd h (by decide)⟩
theorem k_beside {Kd : Nat → Nat} {μ : Nat → Nat → Int32} {n : Nat → Nat → Option Nat} {j ice hh v : Nat} (h6 : μ (103 + 6 * j) 6 = nI ice) (hi : ice < 4096) : m_X1_cellsBeside (kC Kd) lC (103 + 6 * j) (nI (msk hh v)) (μ, n) = some (nI (icN (fun c => cmpB hh v (bes ice c)) 12)) := by
  rw [← bes_msk ice hi hh v]
  have z0 := and_z (msk hh v) 0 (by omega)
  have z1 := and_z (msk hh v) 1 (by omega)
  have z2 := and_z (msk hh v) 2 (by omega)
  have s1 : nI ice <<< ((1 : Int32) &&& 31) = nI (ice * 2) := sh_shl (n := ice) (c := 1) (by omega) (by omega)
  have s2 : nI ice >>> ((1 : Int32) &&& 31) = nI (ice / 2) := sh_shr (n := ice) (c := 1) (by omega) (by omega)
  have m1 : (-1 : Int32) = nI 4294967295 := by decide
  have m4 : (4095 : Int32) = nI 4095 := rfl
  have m0 : (0 : Int32) = nI 0 := rfl
  have e1 : (1 : Int32) = nI (2 ^ 0) := rfl
  have e2 : (2 : Int32) = nI (2 ^ 1) := rfl
  have e4 : (4 : Int32) = nI (2 ^ 2) := rfl
  unfold m_X1_cellsBeside
  simp only [C_gic, R_let]
  rw [h6, s1, s2, show nI (ice * 2) &&& 4095 = nI (ice * 2 &&& 4095) from by rw [m4, nI_and]]
  generalize (ice * 2 &&& 4095) = A
  generalize ice / 2 = B
  rw [show (4095 : Int32) &&& ((nI A ||| nI B) ^^^ -1) = nI (4095 &&& ((A ||| B) ^^^ 4294967295)) from by rw [m1, m4, nI_or, nI_xor, nI_and], nI_xor A B, nI_and A B, e1, e2, e4]
  cases h0 : (msk hh v).testBit 0
  · rw [if_pos (z0.2 h0), if_neg (show ¬ false = true by decide)]
    cases h1 : (msk hh v).testBit 1
    · rw [if_pos (z1.2 h1), if_neg (show ¬ false = true by decide)]
      cases h2 : (msk hh v).testBit 2
      · rw [if_pos (z2.2 h2), if_neg (show ¬ false = true by decide)]
        rfl
      · rw [if_neg (fun a => by rw [z2.1 a] at h2; exact absurd h2 (by decide)), if_pos rfl, m0, nI_or, nI_or]
    · rw [if_neg (fun a => by rw [z1.1 a] at h1; exact absurd h1 (by decide)), if_pos rfl]
      cases h2 : (msk hh v).testBit 2
      · rw [if_pos (z2.2 h2), if_neg (show ¬ false = true by decide), m0, nI_or, nI_or]
      · rw [if_neg (fun a => by rw [z2.1 a] at h2; exact absurd h2 (by decide)), if_pos rfl, m0, nI_or, nI_or]
  · rw [if_neg (fun a => by rw [z0.1 a] at h0; exact absurd h0 (by decide)), if_pos rfl]
    cases h1 : (msk hh v).testBit 1
    · rw [if_pos (z1.2 h1), if_neg (show ¬ false = true by decide)]
      cases h2 : (msk hh v).testBit 2
      · rw [if_pos (z2.2 h2), if_neg (show ¬ false = true by decide), m0, nI_or, nI_or]
      · rw [if_neg (fun a => by rw [z2.1 a] at h2; exact absurd h2 (by decide)), if_pos rfl, m0, nI_or, nI_or]
    · rw [if_neg (fun a => by rw [z1.1 a] at h1; exact absurd h1 (by decide)), if_pos rfl]
      cases h2 : (msk hh v).testBit 2
      · rw [if_pos (z2.2 h2), if_neg (show ¬ false = true by decide), m0, nI_or, nI_or]
      · rw [if_neg (fun a => by rw [z2.1 a] at h2; exact absurd h2 (by decide)), if_pos rfl, nI_or, nI_or]
theorem k_const {x hh v : Nat} (hx : x < 12) : (if (nI (msk hh v) >>> (nI x &&& 31)) &&& 1 = 0 then some (0 : Int32) else some 4095) = some (nI (icN (fun _ => cmpB hh v x) 12)) := by
  have h := bit_z (m := msk hh v) (x := x) (msk_lt hh v) (by omega)
  rw [msk_tb hh v x hx] at h
  cases hb : cmpB hh v x
  · rw [if_pos (h.2 hb), icN_F]
    rfl
  · rw [if_neg (fun a => by rw [h.1 a] at hb; exact absurd hb (by decide)), icN_T]
    rfl
theorem k_test {Kd : Nat → Nat} {μ : Nat → Nat → Int32} {n : Nat → Nat → Option Nat} {j i h ice : Nat} {q : Pn} {sh : Bool} (hc : cI Kd μ n j i q h ice sh) {w hh v : Nat} (hw : w < 6) : m_X1_cellsOfTest (kC Kd) lC (103 + 6 * j) (sgC (w, hh, v)) (vlC (w, hh, v)) (μ, n) = some (nI (icN (fun c => cmpB hh v (En q h ice c w)) 12)) := by
  obtain ⟨⟨⟨p1, p2, p3, p4, p5, p6⟩, _, _⟩, ⟨f2, f3, f4, f5, f6, f7⟩, ⟨g0, g1, _, _⟩, b1, b2, b3, b4, b5, b6, b7, b8⟩ := hc
  have e10 : nI h - nI h / 10 * 10 = nI (h % 10) := pk_rem (d := 10) (by omega) (by omega) (by omega)
  have hv : vlC (w, hh, v) = nI (msk hh v) := if_pos hw
  rw [hv]
  unfold m_X1_cellsOfTest
  simp only [C_gic, C_grc p4, C_gio, R_let, C_ckc, k_beside f6 b5, fm_b1_s]
  match w, hw with
  | 0, _ =>
    rw [show sgC (0, hh, v) = 112 from rfl, if_neg (by decide), if_neg (by decide), if_neg (by decide), if_pos rfl, g1]
    exact k_const (by omega)
  | 1, _ =>
    rw [show sgC (1, hh, v) = 107 from rfl, if_neg (by decide), if_pos rfl, g0]
    exact k_const (by omega)
  | 2, _ =>
    rw [show sgC (2, hh, v) = 99 from rfl, if_pos rfl, show (4095 : Int32) = nI (2 ^ 12 - 1) from rfl, nI_and, Nat.and_two_pow_sub_one_eq_mod, Nat.mod_eq_of_lt (msk_lt hh v)]
    rfl
  | 3, _ =>
    rw [show sgC (3, hh, v) = 110 from rfl, if_neg (by decide), if_neg (by decide), if_pos rfl]
    rfl
  | 4, _ =>
    rw [show sgC (4, hh, v) = 119 from rfl, if_neg (by decide), if_neg (by decide), if_neg (by decide), if_neg (by decide), if_pos rfl, f3]
    exact k_const (by omega)
  | 5, _ =>
    rw [show sgC (5, hh, v) = 104 from rfl, if_neg (by decide), if_neg (by decide), if_neg (by decide), if_neg (by decide), if_neg (by decide), f5, e10]
    exact k_const (by omega)
