/-! THE REFERENCE, pure: its memory is ten rows; nR says which field leads where -/
def kR (r : Nat) : Nat := match r with
  | 0 => 12
  | 1 => 13
  | 2 => 13
  | 3 => 13
  | 4 => 13
  | 5 => 14
  | 6 => 13
  | 7 => 13
  | 8 => 13
  | 9 => 13
  | _ => 99
def lR (r : Nat) : Nat := match r with
  | 1 => 926
  | 2 => 926
  | 3 => 21
  | 4 => 6
  | 5 => 64
  | 6 => 144
  | 7 => 3
  | 8 => 3
  | 9 => 20
  | _ => 0
def nR (r k : Nat) : Option Nat := match r with
  | 0 => match k with
    | 1 => some 1
    | 2 => some 2
    | 3 => some 3
    | 10 => some 4
    | 11 => some 5
    | 12 => some 6
    | 13 => some 7
    | 14 => some 8
    | 16 => some 9
    | _ => none
  | _ => none
def wm (μ : Nat → Nat → Int32) (r k : Nat) (x : Int32) : Nat → Nat → Int32 := fun r' k' => if r' = r ∧ k' = k then x else μ r' k'
theorem fm_inb_nI {j n : Nat} (h : j < n) (hn : n < 2 ^ 31) : fm_inb (nI j) n = true := by
  unfold fm_inb
  rw [nI_clamp (by omega)]
  have h1 : ¬ nI j < 0 := nI_pos (by omega)
  have h2 : ¬ n ≤ j := by omega
  simp [h1, h2]
theorem litN (n : Nat) : (OfNat.ofNat n : Int32) = nI (OfNat.ofNat n) := rfl
theorem litA (n p : Nat) : (OfNat.ofNat n : Int32) + nI p = nI (OfNat.ofNat n + p) := nI_add n p
theorem nr {α : Type} {a b : α} (h : a = b) : a = b := by cases h; rfl
theorem R_let {α β : Type} (x : β) (K : β → Option α) : fm_let x K = K x := nr rfl
section REF
variable {α : Type} {μ : Nat → Nat → Int32}
theorem R_gi (k : Nat) (K : Int32 → Option α) : fm_gi kR 12 0 k (μ, nR) K = K (μ 0 k) := nr rfl
theorem R_pi (k : Nat) (x : Int32) (K : fm_M → Option α) : fm_pi kR 12 0 k (μ, nR) x K = K (wm μ 0 k x, nR) := nr rfl
theorem R_pz (k : Nat) (x : Int32) (h : x = 0 ∨ x = 1) (K : fm_M → Option α) : fm_pz kR 12 0 k (μ, nR) x K = K (wm μ 0 k x, nR) := by
  unfold fm_pz
  rw [if_pos ⟨rfl, h⟩]
  rfl
theorem R_g1 (K : Nat → Option α) : fm_gr kR 12 0 1 (μ, nR) K = K 1 := nr rfl
theorem R_g2 (K : Nat → Option α) : fm_gr kR 12 0 2 (μ, nR) K = K 2 := nr rfl
theorem R_g3 (K : Nat → Option α) : fm_gr kR 12 0 3 (μ, nR) K = K 3 := nr rfl
theorem R_g10 (K : Nat → Option α) : fm_gr kR 12 0 10 (μ, nR) K = K 4 := nr rfl
theorem R_g11 (K : Nat → Option α) : fm_gr kR 12 0 11 (μ, nR) K = K 5 := nr rfl
theorem R_g12 (K : Nat → Option α) : fm_gr kR 12 0 12 (μ, nR) K = K 6 := nr rfl
theorem R_g13 (K : Nat → Option α) : fm_gr kR 12 0 13 (μ, nR) K = K 7 := nr rfl
theorem R_g14 (K : Nat → Option α) : fm_gr kR 12 0 14 (μ, nR) K = K 8 := nr rfl
theorem R_g16 (K : Nat → Option α) : fm_gr kR 12 0 16 (μ, nR) K = K 9 := nr rfl
theorem R_ck (K : Option α) : fm_ck (kR 0 == 12) K = K := nr rfl
theorem R_ld {r j : Nat} {t : Nat} (ht : kR r = t) (h : j < lR r) (hn : lR r < 2 ^ 31) (K : Int32 → Option α) : fm_ld kR lR t r (nI j) (μ, nR) K = K (μ r j) := by
  unfold fm_ld
  rw [if_pos ⟨ht, fm_inb_nI h hn⟩, nI_clamp (by omega)]
theorem R_st {r j : Nat} (ht : kR r = 13) (h : j < lR r) (hn : lR r < 2 ^ 31) (x : Int32) (K : fm_M → Option α) : fm_st kR lR r (nI j) x (μ, nR) K = K (wm μ r j x, nR) := by
  unfold fm_st
  rw [if_pos ⟨ht, fm_inb_nI h hn⟩, nI_clamp (by omega)]
  rfl
theorem R_sz {j : Nat} (h : j < 64) (x : Int32) (hx : x = 0 ∨ x = 1) (K : fm_M → Option α) : fm_sz kR lR 5 (nI j) x (μ, nR) K = K (wm μ 5 j x, nR) := by
  unfold fm_sz
  rw [if_pos ⟨rfl, fm_inb_nI (n := 64) h (by omega), hx⟩, nI_clamp (by omega)]
  rfl
theorem R_s {j : Nat} (h : j < 926) (K : Int32 → Option α) : fm_ld kR lR 13 1 (nI j) (μ, nR) K = K (μ 1 j) := R_ld rfl h (by decide) K
theorem R_sl (n : Nat) (h : (OfNat.ofNat n : Nat) < 926) (K : Int32 → Option α) : fm_ld kR lR 13 1 (OfNat.ofNat n) (μ, nR) K = K (μ 1 (OfNat.ofNat n : Nat)) := R_ld (r := 1) (j := n) rfl h (by decide) K
theorem R_ws {j : Nat} (h : j < 926) (x : Int32) (K : fm_M → Option α) : fm_st kR lR 1 (nI j) x (μ, nR) K = K (wm μ 1 j x, nR) := R_st rfl h (by decide) x K
theorem R_wsl (n : Nat) (h : (OfNat.ofNat n : Nat) < 926) (x : Int32) (K : fm_M → Option α) : fm_st kR lR 1 (OfNat.ofNat n) x (μ, nR) K = K (wm μ 1 (OfNat.ofNat n : Nat) x, nR) := R_st (r := 1) (j := n) rfl h (by decide) x K
theorem wm_s (μ : Nat → Nat → Int32) (r k : Nat) (x : Int32) : wm μ r k x r k = x := by simp [wm]
theorem wm_r {μ : Nat → Nat → Int32} {r k r' : Nat} {x : Int32} (h : r' ≠ r) : wm μ r k x r' = μ r' := by funext j; simp [wm, h]
theorem wm_k {μ : Nat → Nat → Int32} {r k k' : Nat} {x : Int32} (h : k' ≠ k) : wm μ r k x r k' = μ r k' := by simp [wm, h]
theorem wm_u (μ : Nat → Nat → Int32) (r k : Nat) (x : Int32) : wm μ r k x r = upd (μ r) k x := by funext j; simp [wm, upd]
theorem fm_bi_s {β γ : Type} (x : β) (y : γ) (K : β → γ → Option α) : fm_bi (some (x, y)) K = K x y := nr rfl
theorem fm_b1_s {β : Type} (x : β) (K : β → Option α) : fm_b1 (some x) K = K x := nr rfl
theorem fm_z0 (K : Option α) : fm_z 0 K = K := nr rfl
theorem fm_z1 (K : Option α) : fm_z 1 K = K := nr rfl
theorem fm_zb (b : Bool) (K : Option α) : fm_z (if b = true then 1 else 0) K = K := by cases b <;> rfl
theorem fm_zp (c : Prop) [Decidable c] (K : Option α) : fm_z (if c then 1 else 0) K = K := by by_cases h : c <;> simp [h, fm_z]
end REF
def b2i (b : Bool) : Int32 := if b = true then 1 else 0
theorem b2i_0 (b : Bool) : b2i b = 0 ↔ b = false := by cases b <;> decide
theorem r_in (v lo hi : Int32) (S : fm_M) : m_X12_in kR lR v lo hi S = some (b2i (decide (lo ≤ v) && decide (v ≤ hi))) := by
  unfold m_X12_in
  by_cases h1 : v < lo
  · have h2 : ¬ lo ≤ v := by simpa using h1
    simp [h1, h2, fm_z0, b2i]
  · have h2 : lo ≤ v := by simpa using h1
    by_cases h3 : hi < v
    · have h4 : ¬ v ≤ hi := by simpa using h3
      simp [h1, h2, h3, h4, fm_z0, b2i]
    · have h4 : v ≤ hi := by simpa using h3
      simp [h1, h2, h3, h4, fm_z1, b2i]
theorem R_s0 {α : Type} {μ : Nat → Nat → Int32} (K : Int32 → Option α) : fm_ld kR lR 13 1 0 (μ, nR) K = K (μ 1 0) := R_ld (r := 1) (j := 0) rfl (by decide) (by decide) K
theorem R_w0 {α : Type} {μ : Nat → Nat → Int32} (x : Int32) (K : fm_M → Option α) : fm_st kR lR 1 0 x (μ, nR) K = K (wm μ 1 0 x, nR) := R_st (r := 1) (j := 0) rfl (by decide) (by decide) x K
theorem R_s1 {α : Type} {μ : Nat → Nat → Int32} (K : Int32 → Option α) : fm_ld kR lR 13 1 1 (μ, nR) K = K (μ 1 1) := R_ld (r := 1) (j := 1) rfl (by decide) (by decide) K
theorem R_w1 {α : Type} {μ : Nat → Nat → Int32} (x : Int32) (K : fm_M → Option α) : fm_st kR lR 1 1 x (μ, nR) K = K (wm μ 1 1 x, nR) := R_st (r := 1) (j := 1) rfl (by decide) (by decide) x K
theorem R_s2 {α : Type} {μ : Nat → Nat → Int32} (K : Int32 → Option α) : fm_ld kR lR 13 1 2 (μ, nR) K = K (μ 1 2) := R_ld (r := 1) (j := 2) rfl (by decide) (by decide) K
theorem R_w2 {α : Type} {μ : Nat → Nat → Int32} (x : Int32) (K : fm_M → Option α) : fm_st kR lR 1 2 x (μ, nR) K = K (wm μ 1 2 x, nR) := R_st (r := 1) (j := 2) rfl (by decide) (by decide) x K
theorem R_s3 {α : Type} {μ : Nat → Nat → Int32} (K : Int32 → Option α) : fm_ld kR lR 13 1 3 (μ, nR) K = K (μ 1 3) := R_ld (r := 1) (j := 3) rfl (by decide) (by decide) K
theorem R_w3 {α : Type} {μ : Nat → Nat → Int32} (x : Int32) (K : fm_M → Option α) : fm_st kR lR 1 3 x (μ, nR) K = K (wm μ 1 3 x, nR) := R_st (r := 1) (j := 3) rfl (by decide) (by decide) x K
theorem R_s4 {α : Type} {μ : Nat → Nat → Int32} (K : Int32 → Option α) : fm_ld kR lR 13 1 4 (μ, nR) K = K (μ 1 4) := R_ld (r := 1) (j := 4) rfl (by decide) (by decide) K
theorem R_w4 {α : Type} {μ : Nat → Nat → Int32} (x : Int32) (K : fm_M → Option α) : fm_st kR lR 1 4 x (μ, nR) K = K (wm μ 1 4 x, nR) := R_st (r := 1) (j := 4) rfl (by decide) (by decide) x K
theorem R_s5 {α : Type} {μ : Nat → Nat → Int32} (K : Int32 → Option α) : fm_ld kR lR 13 1 5 (μ, nR) K = K (μ 1 5) := R_ld (r := 1) (j := 5) rfl (by decide) (by decide) K
theorem R_w5 {α : Type} {μ : Nat → Nat → Int32} (x : Int32) (K : fm_M → Option α) : fm_st kR lR 1 5 x (μ, nR) K = K (wm μ 1 5 x, nR) := R_st (r := 1) (j := 5) rfl (by decide) (by decide) x K
theorem R_s6 {α : Type} {μ : Nat → Nat → Int32} (K : Int32 → Option α) : fm_ld kR lR 13 1 6 (μ, nR) K = K (μ 1 6) := R_ld (r := 1) (j := 6) rfl (by decide) (by decide) K
theorem R_w6 {α : Type} {μ : Nat → Nat → Int32} (x : Int32) (K : fm_M → Option α) : fm_st kR lR 1 6 x (μ, nR) K = K (wm μ 1 6 x, nR) := R_st (r := 1) (j := 6) rfl (by decide) (by decide) x K
theorem R_s7 {α : Type} {μ : Nat → Nat → Int32} (K : Int32 → Option α) : fm_ld kR lR 13 1 7 (μ, nR) K = K (μ 1 7) := R_ld (r := 1) (j := 7) rfl (by decide) (by decide) K
theorem R_w7 {α : Type} {μ : Nat → Nat → Int32} (x : Int32) (K : fm_M → Option α) : fm_st kR lR 1 7 x (μ, nR) K = K (wm μ 1 7 x, nR) := R_st (r := 1) (j := 7) rfl (by decide) (by decide) x K
theorem R_s8 {α : Type} {μ : Nat → Nat → Int32} (K : Int32 → Option α) : fm_ld kR lR 13 1 8 (μ, nR) K = K (μ 1 8) := R_ld (r := 1) (j := 8) rfl (by decide) (by decide) K
theorem R_w8 {α : Type} {μ : Nat → Nat → Int32} (x : Int32) (K : fm_M → Option α) : fm_st kR lR 1 8 x (μ, nR) K = K (wm μ 1 8 x, nR) := R_st (r := 1) (j := 8) rfl (by decide) (by decide) x K
theorem R_s9 {α : Type} {μ : Nat → Nat → Int32} (K : Int32 → Option α) : fm_ld kR lR 13 1 9 (μ, nR) K = K (μ 1 9) := R_ld (r := 1) (j := 9) rfl (by decide) (by decide) K
theorem R_w9 {α : Type} {μ : Nat → Nat → Int32} (x : Int32) (K : fm_M → Option α) : fm_st kR lR 1 9 x (μ, nR) K = K (wm μ 1 9 x, nR) := R_st (r := 1) (j := 9) rfl (by decide) (by decide) x K
theorem R_s10 {α : Type} {μ : Nat → Nat → Int32} (K : Int32 → Option α) : fm_ld kR lR 13 1 10 (μ, nR) K = K (μ 1 10) := R_ld (r := 1) (j := 10) rfl (by decide) (by decide) K
theorem R_w10 {α : Type} {μ : Nat → Nat → Int32} (x : Int32) (K : fm_M → Option α) : fm_st kR lR 1 10 x (μ, nR) K = K (wm μ 1 10 x, nR) := R_st (r := 1) (j := 10) rfl (by decide) (by decide) x K
theorem R_s11 {α : Type} {μ : Nat → Nat → Int32} (K : Int32 → Option α) : fm_ld kR lR 13 1 11 (μ, nR) K = K (μ 1 11) := R_ld (r := 1) (j := 11) rfl (by decide) (by decide) K
theorem R_w11 {α : Type} {μ : Nat → Nat → Int32} (x : Int32) (K : fm_M → Option α) : fm_st kR lR 1 11 x (μ, nR) K = K (wm μ 1 11 x, nR) := R_st (r := 1) (j := 11) rfl (by decide) (by decide) x K
theorem R_s12 {α : Type} {μ : Nat → Nat → Int32} (K : Int32 → Option α) : fm_ld kR lR 13 1 12 (μ, nR) K = K (μ 1 12) := R_ld (r := 1) (j := 12) rfl (by decide) (by decide) K
theorem R_w12 {α : Type} {μ : Nat → Nat → Int32} (x : Int32) (K : fm_M → Option α) : fm_st kR lR 1 12 x (μ, nR) K = K (wm μ 1 12 x, nR) := R_st (r := 1) (j := 12) rfl (by decide) (by decide) x K
theorem R_s13 {α : Type} {μ : Nat → Nat → Int32} (K : Int32 → Option α) : fm_ld kR lR 13 1 13 (μ, nR) K = K (μ 1 13) := R_ld (r := 1) (j := 13) rfl (by decide) (by decide) K
theorem R_w13 {α : Type} {μ : Nat → Nat → Int32} (x : Int32) (K : fm_M → Option α) : fm_st kR lR 1 13 x (μ, nR) K = K (wm μ 1 13 x, nR) := R_st (r := 1) (j := 13) rfl (by decide) (by decide) x K
theorem R_s14 {α : Type} {μ : Nat → Nat → Int32} (K : Int32 → Option α) : fm_ld kR lR 13 1 14 (μ, nR) K = K (μ 1 14) := R_ld (r := 1) (j := 14) rfl (by decide) (by decide) K
theorem R_w14 {α : Type} {μ : Nat → Nat → Int32} (x : Int32) (K : fm_M → Option α) : fm_st kR lR 1 14 x (μ, nR) K = K (wm μ 1 14 x, nR) := R_st (r := 1) (j := 14) rfl (by decide) (by decide) x K
theorem R_s15 {α : Type} {μ : Nat → Nat → Int32} (K : Int32 → Option α) : fm_ld kR lR 13 1 15 (μ, nR) K = K (μ 1 15) := R_ld (r := 1) (j := 15) rfl (by decide) (by decide) K
theorem R_w15 {α : Type} {μ : Nat → Nat → Int32} (x : Int32) (K : fm_M → Option α) : fm_st kR lR 1 15 x (μ, nR) K = K (wm μ 1 15 x, nR) := R_st (r := 1) (j := 15) rfl (by decide) (by decide) x K
theorem R_s16 {α : Type} {μ : Nat → Nat → Int32} (K : Int32 → Option α) : fm_ld kR lR 13 1 16 (μ, nR) K = K (μ 1 16) := R_ld (r := 1) (j := 16) rfl (by decide) (by decide) K
theorem R_w16 {α : Type} {μ : Nat → Nat → Int32} (x : Int32) (K : fm_M → Option α) : fm_st kR lR 1 16 x (μ, nR) K = K (wm μ 1 16 x, nR) := R_st (r := 1) (j := 16) rfl (by decide) (by decide) x K
theorem R_s17 {α : Type} {μ : Nat → Nat → Int32} (K : Int32 → Option α) : fm_ld kR lR 13 1 17 (μ, nR) K = K (μ 1 17) := R_ld (r := 1) (j := 17) rfl (by decide) (by decide) K
theorem R_w17 {α : Type} {μ : Nat → Nat → Int32} (x : Int32) (K : fm_M → Option α) : fm_st kR lR 1 17 x (μ, nR) K = K (wm μ 1 17 x, nR) := R_st (r := 1) (j := 17) rfl (by decide) (by decide) x K
theorem R_s18 {α : Type} {μ : Nat → Nat → Int32} (K : Int32 → Option α) : fm_ld kR lR 13 1 18 (μ, nR) K = K (μ 1 18) := R_ld (r := 1) (j := 18) rfl (by decide) (by decide) K
theorem R_w18 {α : Type} {μ : Nat → Nat → Int32} (x : Int32) (K : fm_M → Option α) : fm_st kR lR 1 18 x (μ, nR) K = K (wm μ 1 18 x, nR) := R_st (r := 1) (j := 18) rfl (by decide) (by decide) x K
theorem R_s19 {α : Type} {μ : Nat → Nat → Int32} (K : Int32 → Option α) : fm_ld kR lR 13 1 19 (μ, nR) K = K (μ 1 19) := R_ld (r := 1) (j := 19) rfl (by decide) (by decide) K
theorem R_w19 {α : Type} {μ : Nat → Nat → Int32} (x : Int32) (K : fm_M → Option α) : fm_st kR lR 1 19 x (μ, nR) K = K (wm μ 1 19 x, nR) := R_st (r := 1) (j := 19) rfl (by decide) (by decide) x K
theorem R_s20 {α : Type} {μ : Nat → Nat → Int32} (K : Int32 → Option α) : fm_ld kR lR 13 1 20 (μ, nR) K = K (μ 1 20) := R_ld (r := 1) (j := 20) rfl (by decide) (by decide) K
theorem R_w20 {α : Type} {μ : Nat → Nat → Int32} (x : Int32) (K : fm_M → Option α) : fm_st kR lR 1 20 x (μ, nR) K = K (wm μ 1 20 x, nR) := R_st (r := 1) (j := 20) rfl (by decide) (by decide) x K
theorem R_s21 {α : Type} {μ : Nat → Nat → Int32} (K : Int32 → Option α) : fm_ld kR lR 13 1 21 (μ, nR) K = K (μ 1 21) := R_ld (r := 1) (j := 21) rfl (by decide) (by decide) K
theorem R_w21 {α : Type} {μ : Nat → Nat → Int32} (x : Int32) (K : fm_M → Option α) : fm_st kR lR 1 21 x (μ, nR) K = K (wm μ 1 21 x, nR) := R_st (r := 1) (j := 21) rfl (by decide) (by decide) x K
theorem R_s22 {α : Type} {μ : Nat → Nat → Int32} (K : Int32 → Option α) : fm_ld kR lR 13 1 22 (μ, nR) K = K (μ 1 22) := R_ld (r := 1) (j := 22) rfl (by decide) (by decide) K
theorem R_w22 {α : Type} {μ : Nat → Nat → Int32} (x : Int32) (K : fm_M → Option α) : fm_st kR lR 1 22 x (μ, nR) K = K (wm μ 1 22 x, nR) := R_st (r := 1) (j := 22) rfl (by decide) (by decide) x K
theorem R_s23 {α : Type} {μ : Nat → Nat → Int32} (K : Int32 → Option α) : fm_ld kR lR 13 1 23 (μ, nR) K = K (μ 1 23) := R_ld (r := 1) (j := 23) rfl (by decide) (by decide) K
theorem R_w23 {α : Type} {μ : Nat → Nat → Int32} (x : Int32) (K : fm_M → Option α) : fm_st kR lR 1 23 x (μ, nR) K = K (wm μ 1 23 x, nR) := R_st (r := 1) (j := 23) rfl (by decide) (by decide) x K
theorem R_s24 {α : Type} {μ : Nat → Nat → Int32} (K : Int32 → Option α) : fm_ld kR lR 13 1 24 (μ, nR) K = K (μ 1 24) := R_ld (r := 1) (j := 24) rfl (by decide) (by decide) K
theorem R_w24 {α : Type} {μ : Nat → Nat → Int32} (x : Int32) (K : fm_M → Option α) : fm_st kR lR 1 24 x (μ, nR) K = K (wm μ 1 24 x, nR) := R_st (r := 1) (j := 24) rfl (by decide) (by decide) x K
theorem R_s25 {α : Type} {μ : Nat → Nat → Int32} (K : Int32 → Option α) : fm_ld kR lR 13 1 25 (μ, nR) K = K (μ 1 25) := R_ld (r := 1) (j := 25) rfl (by decide) (by decide) K
theorem R_w25 {α : Type} {μ : Nat → Nat → Int32} (x : Int32) (K : fm_M → Option α) : fm_st kR lR 1 25 x (μ, nR) K = K (wm μ 1 25 x, nR) := R_st (r := 1) (j := 25) rfl (by decide) (by decide) x K
theorem R_s26 {α : Type} {μ : Nat → Nat → Int32} (K : Int32 → Option α) : fm_ld kR lR 13 1 26 (μ, nR) K = K (μ 1 26) := R_ld (r := 1) (j := 26) rfl (by decide) (by decide) K
theorem R_w26 {α : Type} {μ : Nat → Nat → Int32} (x : Int32) (K : fm_M → Option α) : fm_st kR lR 1 26 x (μ, nR) K = K (wm μ 1 26 x, nR) := R_st (r := 1) (j := 26) rfl (by decide) (by decide) x K
theorem R_s27 {α : Type} {μ : Nat → Nat → Int32} (K : Int32 → Option α) : fm_ld kR lR 13 1 27 (μ, nR) K = K (μ 1 27) := R_ld (r := 1) (j := 27) rfl (by decide) (by decide) K
theorem R_w27 {α : Type} {μ : Nat → Nat → Int32} (x : Int32) (K : fm_M → Option α) : fm_st kR lR 1 27 x (μ, nR) K = K (wm μ 1 27 x, nR) := R_st (r := 1) (j := 27) rfl (by decide) (by decide) x K
theorem R_b0 {α : Type} {μ : Nat → Nat → Int32} (x : Int32) (K : fm_M → Option α) : fm_st kR lR 4 0 x (μ, nR) K = K (wm μ 4 0 x, nR) := R_st (r := 4) (j := 0) rfl (by decide) (by decide) x K
theorem R_b1 {α : Type} {μ : Nat → Nat → Int32} (x : Int32) (K : fm_M → Option α) : fm_st kR lR 4 1 x (μ, nR) K = K (wm μ 4 1 x, nR) := R_st (r := 4) (j := 1) rfl (by decide) (by decide) x K
theorem R_b2 {α : Type} {μ : Nat → Nat → Int32} (x : Int32) (K : fm_M → Option α) : fm_st kR lR 4 2 x (μ, nR) K = K (wm μ 4 2 x, nR) := R_st (r := 4) (j := 2) rfl (by decide) (by decide) x K
theorem R_b3 {α : Type} {μ : Nat → Nat → Int32} (x : Int32) (K : fm_M → Option α) : fm_st kR lR 4 3 x (μ, nR) K = K (wm μ 4 3 x, nR) := R_st (r := 4) (j := 3) rfl (by decide) (by decide) x K
theorem R_b4 {α : Type} {μ : Nat → Nat → Int32} (x : Int32) (K : fm_M → Option α) : fm_st kR lR 4 4 x (μ, nR) K = K (wm μ 4 4 x, nR) := R_st (r := 4) (j := 4) rfl (by decide) (by decide) x K
theorem R_b5 {α : Type} {μ : Nat → Nat → Int32} (x : Int32) (K : fm_M → Option α) : fm_st kR lR 4 5 x (μ, nR) K = K (wm μ 4 5 x, nR) := R_st (r := 4) (j := 5) rfl (by decide) (by decide) x K
theorem L_3 (p : Nat) : (3 : Int32) + nI p = nI (3 + p) := nI_add 3 p
theorem M_3 (p : Nat) : (3 : Int32) * nI p = nI (3 * p) := pk_mul 3 p
theorem L_9 (p : Nat) : (9 : Int32) + nI p = nI (9 + p) := nI_add 9 p
theorem M_9 (p : Nat) : (9 : Int32) * nI p = nI (9 * p) := pk_mul 9 p
theorem L_15 (p : Nat) : (15 : Int32) + nI p = nI (15 + p) := nI_add 15 p
theorem M_15 (p : Nat) : (15 : Int32) * nI p = nI (15 * p) := pk_mul 15 p
theorem L_28 (p : Nat) : (28 : Int32) + nI p = nI (28 + p) := nI_add 28 p
theorem M_28 (p : Nat) : (28 : Int32) * nI p = nI (28 * p) := pk_mul 28 p
theorem L_34 (p : Nat) : (34 : Int32) + nI p = nI (34 + p) := nI_add 34 p
theorem M_34 (p : Nat) : (34 : Int32) * nI p = nI (34 * p) := pk_mul 34 p
theorem L_40 (p : Nat) : (40 : Int32) + nI p = nI (40 + p) := nI_add 40 p
theorem M_40 (p : Nat) : (40 : Int32) * nI p = nI (40 * p) := pk_mul 40 p
theorem L_64 (p : Nat) : (64 : Int32) + nI p = nI (64 + p) := nI_add 64 p
theorem M_64 (p : Nat) : (64 : Int32) * nI p = nI (64 * p) := pk_mul 64 p
theorem L_69 (p : Nat) : (69 : Int32) + nI p = nI (69 + p) := nI_add 69 p
theorem M_69 (p : Nat) : (69 : Int32) * nI p = nI (69 * p) := pk_mul 69 p
theorem L_74 (p : Nat) : (74 : Int32) + nI p = nI (74 + p) := nI_add 74 p
theorem M_74 (p : Nat) : (74 : Int32) * nI p = nI (74 * p) := pk_mul 74 p
theorem L_79 (p : Nat) : (79 : Int32) + nI p = nI (79 + p) := nI_add 79 p
theorem M_79 (p : Nat) : (79 : Int32) * nI p = nI (79 * p) := pk_mul 79 p
theorem L_87 (p : Nat) : (87 : Int32) + nI p = nI (87 + p) := nI_add 87 p
theorem M_87 (p : Nat) : (87 : Int32) * nI p = nI (87 * p) := pk_mul 87 p
theorem L_95 (p : Nat) : (95 : Int32) + nI p = nI (95 + p) := nI_add 95 p
theorem M_95 (p : Nat) : (95 : Int32) * nI p = nI (95 * p) := pk_mul 95 p
theorem L_103 (p : Nat) : (103 : Int32) + nI p = nI (103 + p) := nI_add 103 p
theorem M_103 (p : Nat) : (103 : Int32) * nI p = nI (103 * p) := pk_mul 103 p
theorem L_111 (p : Nat) : (111 : Int32) + nI p = nI (111 + p) := nI_add 111 p
theorem M_111 (p : Nat) : (111 : Int32) * nI p = nI (111 * p) := pk_mul 111 p
theorem L_211 (p : Nat) : (211 : Int32) + nI p = nI (211 + p) := nI_add 211 p
theorem M_211 (p : Nat) : (211 : Int32) * nI p = nI (211 * p) := pk_mul 211 p
theorem L_216 (p : Nat) : (216 : Int32) + nI p = nI (216 + p) := nI_add 216 p
theorem M_216 (p : Nat) : (216 : Int32) * nI p = nI (216 * p) := pk_mul 216 p
theorem L_221 (p : Nat) : (221 : Int32) + nI p = nI (221 + p) := nI_add 221 p
theorem M_221 (p : Nat) : (221 : Int32) * nI p = nI (221 * p) := pk_mul 221 p
theorem L_226 (p : Nat) : (226 : Int32) + nI p = nI (226 + p) := nI_add 226 p
theorem M_226 (p : Nat) : (226 : Int32) * nI p = nI (226 * p) := pk_mul 226 p
theorem L_140 (p : Nat) : (140 : Int32) + nI p = nI (140 + p) := nI_add 140 p
theorem M_140 (p : Nat) : (140 : Int32) * nI p = nI (140 * p) := pk_mul 140 p
theorem L_24 (p : Nat) : (24 : Int32) + nI p = nI (24 + p) := nI_add 24 p
theorem M_24 (p : Nat) : (24 : Int32) * nI p = nI (24 * p) := pk_mul 24 p
theorem M_4 (p : Nat) : (4 : Int32) * nI p = nI (4 * p) := pk_mul 4 p
theorem r_isPane (p : Int32) (μ : Nat → Nat → Int32) : m_X12_isPane kR lR 0 p (μ, nR) = some (b2i (decide (0 ≤ p) && decide (p ≤ μ 1 21 - 1))) := by
  unfold m_X12_isPane
  simp only [R_g1, R_s21, r_in, fm_b1_s, b2i, fm_zb]
theorem nI_neg1 : ∀ t, t < 5 → ¬ nI t = (-1) := by decide
theorem r_tells0 {w none9 : Int32} {μ : Nat → Nat → Int32} (h : μ 1 27 = (-1)) : m_X12_tellsOf kR lR 0 w none9 (μ, nR) = some none9 := by
  unfold m_X12_tellsOf
  simp only [R_g1, R_s27]
  rw [if_pos h]
theorem r_tells {none9 : Int32} {μ : Nat → Nat → Int32} {t j : Nat} (ht : t < 5) (hj : j < 900) (h : μ 1 27 = nI t) : m_X12_tellsOf kR lR 0 (nI j) none9 (μ, nR) = some (μ 1 (j + t)) := by
  unfold m_X12_tellsOf
  simp only [R_g1, R_s27]
  rw [if_neg (by rw [h]; exact nI_neg1 t ht), h, nI_add, R_s (by omega)]
