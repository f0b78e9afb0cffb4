/-! methods, both sides: done -/
def sumN (g : Nat → Nat) : Nat → Nat
  | 0 => 0
  | n + 1 => sumN g n + g n
theorem sumN_c {g g' : Nat → Nat} : ∀ n, (∀ p, p < n → g' p = g p) → sumN g' n = sumN g n
  | 0, _ => rfl
  | n + 1, h => by
    show sumN g' n + g' n = sumN g n + g n
    rw [sumN_c n (fun p hp => h p (by omega)), h n (by omega)]
theorem sumN_a {g g' : Nat → Nat} {j d : Nat} : ∀ n, j < n → (∀ p, p < n → p ≠ j → g' p = g p) → g' j = g j + d → sumN g' n = sumN g n + d
  | 0, h, _, _ => absurd h (by omega)
  | n + 1, h, h1, h2 => by
    show sumN g' n + g' n = sumN g n + g n + d
    by_cases hj : j = n
    · subst hj
      rw [sumN_c j (fun p hp => h1 p (by omega) (by omega)), h2]
      omega
    · rw [sumN_a n (by omega) (fun p hp hn => h1 p (by omega) hn) h2, h1 n (by omega) (by omega)]
      omega
theorem sumO_N (f t : Nat) (g : Nat → Nat) : ∀ n, sumO f t g n = sumN (fun p => offN f t (g p)) n
  | 0 => rfl
  | n + 1 => by
    show sumO f t g n + offN f t (g n) = _
    rw [sumO_N f t g n]
    rfl
/-- what a plan makes of pane p -/
def Zp (s : Nat → Int32) (cl : List Cl) (f t p x : Nat) : Nat × Nat × Bool × Nat := Sx (pq s cl p) f t (fun x => N (s (79 + x))) (fun x => decide (s (87 + x) = nI p)) (N (s 0), N (s (3 + p)), shB s p, 0) x
section X
variable {Kd : Nat → Nat}
theorem k_donel {s : Nat → Int32} {np i f t k : Nat} {cl : List Cl} {a X : Int32} (h99 : N (s 0) ≤ 9999) : ∀ (d p fuel : Nat) (μ : Nat → Nat → Int32) (n : Nat → Nat → Option Nat), p + d = np → gen Kd μ n s np i cl f t → ql μ n s np k → ∃ μ' n', b_X11_done_20 (kC Kd) lC (fuel + d + 1) 0 a (X + nI (sumN (fun p => (Zp s cl f t p k).2.2.2) p)) (nI (sumN (fun p => offN f t (Zp s cl f t p k).2.1) p)) (nI p) (μ, n) = some (if a = 0 then X + nI (sumN (fun p => (Zp s cl f t p k).2.2.2) np) else nI (sumN (fun p => offN f t (Zp s cl f t p k).2.1) np), (μ', n')) ∧ dQ μ n μ' n' := by
  intro d
  induction d with
  | zero =>
    intro p fuel μ n hp hg hq
    have hp : p = np := hp
    subst hp
    refine ⟨μ, n, ?_, dQ_r _ _⟩
    rw [b_X11_done_20]
    unfold k_X11_done_20
    rw [C_g0, hg.2.2.1.1, hg.2.2.2.2.2.1, if_pos (Int32.le_refl _)]
    by_cases h : a = 0
    · rw [if_pos h, if_pos h]
    · rw [if_neg h, if_neg h]
  | succ d ih =>
    intro p fuel μ n hp hg hq
    have hpn : p < np := by omega
    have hg0 := hg
    obtain ⟨g1, g2, ⟨c1, c5, c8, c9, c10⟩, g4, g5, g6, g7, g8, g9, g10⟩ := hg
    have hi6 : i < 6 := by rcases g10 with ⟨_, h⟩ | ⟨h, _⟩ <;> omega
    obtain ⟨e1, l1⟩ := nn_N (by omega) g5.2.1
    obtain ⟨μ1, n1, a1, a2, a3⟩ := k_from hg0 hpn l1
    have hq1 := ql_d a2 hq
    have hg1 := gen_d a2 hg0
    obtain ⟨hk8, h24, h163, h160, hn16, hn12, hrow⟩ := hq1
    obtain ⟨μ2, b1, b2, b3⟩ := k_planl (Kd := Kd) (n := n1) (s := s) (np := np) (k := k) (j := p) (i := i) (f := f) (t := t) (q := pq s cl p) (A := fun x => N (s (79 + x))) (M := fun x => decide (s (87 + x) = nI p)) (fun x hx => nn_N (by omega) (hrow x hx).2.1) (fun x hx => decide_eq_true_iff) hk8 rfl hi6 (N (s 0), N (s (3 + p)), shB s p, 0) (N_lt g5 (by omega)) (show N (s 0) ≤ 15000 by omega) k 0 (999 - k) μ1 (by omega) a3 hg1.2.2.2.2.2.2.2.2.1 ⟨hk8, h24, h163, h160, hn16, hn12, hrow⟩
    have hd2 : dQ μ n μ2 n1 := dQ_t a2 (dQ_3 b3)
    have hg2 := gen_d hd2 hg0
    have ho := k_offer b2 (f := f) (t := t) hg2.2.2.2.2.2.2.2.2.1
    have hb1 : m_X1_goPlan (kC Kd) lC (103 + 6 * p) 16 (μ1, n1) = some (nI (Zp s cl f t p k).2.2.2, (μ2, n1)) := by
      unfold m_X1_goPlan
      rw [R_let, R_let, show fm_LF = 999 - k + k + 1 by unfold fm_LF; omega]
      exact b1
    obtain ⟨μ', n', x1, x2⟩ := ih (p + 1) fuel μ2 n1 (by omega) hg2 (ql_d hd2 hq)
    refine ⟨μ', n', ?_, dQ_t hd2 x2⟩
    rw [← x1, show fuel + (d + 1) + 1 = fuel + d + 1 + 1 by omega, b_X11_done_20]
    unfold k_X11_done_20
    rw [C_g0, c1, g6, if_neg (nI_ge hpn (by omega)), C_g0, c8, C_c0, e1, a1, fm_bi_s, C_r0 hn12, C_ckc, hb1, fm_bi_s, R_let, C_ckc, ho, fm_b1_s, R_let, R_let, Int32.add_assoc, nI_add, nI_add, nI_1]
    rfl
end X
