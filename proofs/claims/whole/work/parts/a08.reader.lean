/-! methods, both sides: town; words; a clause, a town, by the signs -/
theorem fm_sat_s {α : Type} {t i : Nat} (ht : t < 6) (hi : i < fm_sl t) (K : Int32 → Option α) : fm_sat_ t (nI i) K = K (fm_chr t i) := by
  have hl := (fm_sl_ok t ht).2
  unfold fm_sat_
  rw [if_pos ⟨ht, fm_inb_nI hi (by omega)⟩, nI_clamp (by omega)]
theorem fm_slen_s {α : Type} {t : Nat} (ht : t < 6) (K : Int32 → Option α) : fm_slen_ t K = K (nI (fm_sl t)) := if_pos ht
theorem fm_chr_n : ∀ t, t < 6 → ∀ i, i < fm_sl t → fm_chr t i ≠ -1 := by decide +kernel
def wdl (sg : Nat → Int32) (t : Nat) : Nat → Nat → Nat → Bool × Nat
  | 0, _, p => (true, p)
  | d + 1, i, p => if sg p = fm_chr t i then wdl sg t d (i + 1) (p + 1) else (false, p)
def wd (sg : Nat → Int32) (t p : Nat) : Bool × Nat := wdl sg t (fm_sl t) 0 p
theorem wdl_s (sg : Nat → Int32) (t d i p : Nat) : wdl sg t (d + 1) i p = if sg p = fm_chr t i then wdl sg t d (i + 1) (p + 1) else (false, p) := rfl
theorem wdl_ok {z : Nat} {sg : Nat → Int32} (h : sgI z sg) {t : Nat} (ht : t < 6) : ∀ (d i p : Nat), i + d = fm_sl t → p ≤ z → (wdl sg t d i p).2 ≤ z ∧ p ≤ (wdl sg t d i p).2
  | 0, i, p, _, hp => ⟨hp, Nat.le_refl _⟩
  | d + 1, i, p, hi, hp => by
    rw [wdl_s]
    by_cases hs : sg p = fm_chr t i
    · rw [if_pos hs]
      have hz := sgI_n h (show sg p ≠ -1 by rw [hs]; exact fm_chr_n t ht i (by omega))
      have ih := wdl_ok h ht d (i + 1) (p + 1) (by omega) (by omega)
      exact ⟨ih.1, by omega⟩
    · rw [if_neg hs]
      exact ⟨hp, Nat.le_refl _⟩
def wi (x : Int32) : Nat := if x = 99 then 2 else if x = 102 then 0 else if x = 116 then 1 else 3
abbrev Ts := List Cl × Nat × Nat
def cls (sg : Nat → Int32) (p : Nat) (st : Ts) : Bool × Nat × Ts := if (wd sg (wi (sg p)) p).1 = true then (if (num sg (wd sg (wi (sg p)) p).2).1 = true then (if wi (sg p) = 0 then (true, (num sg (wd sg (wi (sg p)) p).2).2.1, (st.1, (num sg (wd sg (wi (sg p)) p).2).2.2, st.2.2)) else if wi (sg p) = 1 then (true, (num sg (wd sg (wi (sg p)) p).2).2.1, (st.1, st.2.1, (num sg (wd sg (wi (sg p)) p).2).2.2)) else if sg (num sg (wd sg (wi (sg p)) p).2).2.1 = 32 then ((ei sg (pa sg 5) ((num sg (wd sg (wi (sg p)) p).2).2.1 + 1)).1, (ei sg (pa sg 5) ((num sg (wd sg (wi (sg p)) p).2).2.1 + 1)).2.1, (st.1 ++ [((ei sg (pa sg 5) ((num sg (wd sg (wi (sg p)) p).2).2.1 + 1)).2.2, decide (wi (sg p) = 2), (num sg (wd sg (wi (sg p)) p).2).2.2)], st.2.1, st.2.2)) else (false, (num sg (wd sg (wi (sg p)) p).2).2.1, st)) else (false, (num sg (wd sg (wi (sg p)) p).2).2.1, st)) else (false, (wd sg (wi (sg p)) p).2, st)
def tw (sg : Nat → Int32) : Nat → Nat → Ts → Bool × Nat × Ts
  | 0, p, st => (decide (sg p = -1), p, st)
  | k + 1, p, st => if sg p = -1 then (true, p, st) else if sg p = 59 then (if (cls sg (p + 1) st).1 = true then tw sg k (cls sg (p + 1) st).2.1 (cls sg (p + 1) st).2.2 else (false, (cls sg (p + 1) st).2.1, st)) else (false, p, st)
def twn (sg : Nat → Int32) : Bool × Nat × Ts := if (cls sg 0 ([], 3, 2)).1 = true then tw sg 9 (cls sg 0 ([], 3, 2)).2.1 (cls sg 0 ([], 3, 2)).2.2 else (false, (cls sg 0 ([], 3, 2)).2.1, ([], 3, 2))
section R
variable {Kd : Nat → Nat} {m z : Nat} {sg : Nat → Int32} {n : Nat → Nat → Option Nat}
theorem k_wordl (hs : sgI z sg) {t : Nat} (ht : t < 6) {c : Nat} : ∀ (d i p fuel : Nat) (μ : Nat → Nat → Int32), i + d = fm_sl t → cS m z sg n μ p c → ∃ μ', b_X6_word_2 (kC Kd) lC (fuel + d + 1) 30 t (nI i) (μ, n) = some (b2i (wdl sg t d i p).1, (μ', n)) ∧ cS m z sg n μ' (wdl sg t d i p).2 c ∧ ∀ r, r ≠ 30 → μ' r = μ r := by
  have hl := (fm_sl_ok t ht).2
  intro d
  induction d with
  | zero =>
    intro i p fuel μ hi hc
    have hi : i = fm_sl t := hi
    subst hi
    refine ⟨μ, ?_, hc, fun _ _ => rfl⟩
    rw [b_X6_word_2]
    unfold k_X6_word_2
    rw [fm_slen_s ht, if_pos (Int32.le_refl _), fm_z1]
    rfl
  | succ d ih =>
    intro i p fuel μ hi hc
    rw [wdl_s, show fuel + (d + 1) + 1 = fuel + d + 1 + 1 by omega, b_X6_word_2]
    have ih' := fun μ => ih (i + 1) (p + 1) fuel μ (by omega)
    generalize b_X6_word_2 (kC Kd) lC (fuel + d + 1) = G at ih' ⊢
    unfold k_X6_word_2
    rw [fm_slen_s ht, if_neg (nI_ge (show i < fm_sl t by omega) (by omega)), fm_sat_s ht (by omega), C_ck30, k_take hc]
    by_cases hsp : sg p = fm_chr t i
    · have hz := sgI_n hs (show sg p ≠ -1 by rw [hsp]; exact fm_chr_n t ht i (by omega))
      rw [if_pos hsp, if_pos hsp, fm_bi_s, if_neg (by decide), R_let, nI_1]
      obtain ⟨μ', a1, a2, a3⟩ := ih' _ (cS_p hc (by omega))
      exact ⟨μ', a1, a2, fun r hr => (a3 r hr).trans (wm_r hr)⟩
    · rw [if_neg hsp, if_neg hsp, fm_bi_s, if_pos rfl, fm_z0]
      exact ⟨μ, rfl, hc, fun _ _ => rfl⟩
theorem k_word (hs : sgI z sg) {t : Nat} (ht : t < 6) {c p : Nat} {μ : Nat → Nat → Int32} (hc : cS m z sg n μ p c) : ∃ μ', m_X6_word (kC Kd) lC 30 t (μ, n) = some (b2i (wd sg t p).1, (μ', n)) ∧ cS m z sg n μ' (wd sg t p).2 c ∧ ∀ r, r ≠ 30 → μ' r = μ r := by
  have hl := (fm_sl_ok t ht).2
  unfold m_X6_word wd
  rw [R_let, show fm_LF = 999 - fm_sl t + fm_sl t + 1 by unfold fm_LF; omega]
  exact k_wordl hs ht (fm_sl t) 0 p _ μ (by omega) hc
end R
