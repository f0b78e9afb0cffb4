/-! THE CLASS, pure: its memory. Roles: 0 main, 1 panes, 2 courses, 3 towns, 4 pays; 10+3i Rows (+1 numbers, +2 kept); 30 Reader, 31 signs; 40+5i Town (+1 worths, +2 ends, +3 signs, +4 values), i = 5 the bare one; 100+6j Pane (+1, +2 a TOLD one's places, kept ones), +3 its Course, +4 bites, +5 stack -/
def ckK (k : Nat) : Nat := match k with
  | 0 => 5
  | 1 => 3
  | 2 => 4
  | 3 => 7
  | 4 => 2
  | 5 => 0
  | _ => 9
def kA (r : Nat) : Nat := match r with
  | 0 => 11
  | 1 => 16
  | 2 => 15
  | 3 => 17
  | 4 => 13
  | 30 => 6
  | 31 => 13
  | _ => if r < 10 then 99 else if r < 28 then (if (r - 10) % 3 = 0 then 8 else 13) else 99
def kX (k x : Nat) : Nat := if x = 0 then ckK k else if x = 3 then 1 else 13
def lX (x : Nat) : Nat := if x = 1 then 4 else if x = 2 then 4 else if x = 4 then 12 else if x = 5 then 16 else 0
def lX5 (x : Nat) : Nat := if x = 1 then 10 else if x = 2 then 10 else 100
def kC (Kd : Nat → Nat) (r : Nat) : Nat := if r < 40 then kA r else if r < 100 then (if (r - 40) % 5 = 0 then 10 else 13) else kX (Kd ((r - 100) / 6)) ((r - 100) % 6)
def lA (r : Nat) : Nat := match r with
  | 1 => 6
  | 2 => 6
  | 3 => 5
  | 4 => 48
  | 11 => 300
  | 12 => 300
  | 14 => 15
  | 15 => 15
  | 17 => 24
  | 18 => 24
  | 20 => 24
  | 21 => 24
  | 23 => 60
  | 24 => 60
  | 26 => 6
  | 27 => 6
  | 31 => 101
  | _ => 0
def lC (r : Nat) : Nat := if r < 40 then lA r else if r < 100 then lX5 ((r - 40) % 5) else lX ((r - 100) % 6)
section
variable (Kd : Nat → Nat) (j : Nat)
theorem kC_o : kC Kd (100 + 6 * j) = ckK (Kd j) := by
  unfold kC
  rw [if_neg (by omega), if_neg (by omega), show (100 + 6 * j - 100) % 6 = 0 by omega, show (100 + 6 * j - 100) / 6 = j by omega]
  rfl
theorem kC_x (k : Nat) (hk : k < 6) : kC Kd (100 + k + 6 * j) = kX (Kd j) k := by
  unfold kC
  rw [if_neg (by omega), if_neg (by omega), show (100 + k + 6 * j - 100) % 6 = k by omega, show (100 + k + 6 * j - 100) / 6 = j by omega]
theorem kC_1 : kC Kd (101 + 6 * j) = 13 := kC_x Kd j 1 (by omega)
theorem kC_2 : kC Kd (102 + 6 * j) = 13 := kC_x Kd j 2 (by omega)
theorem kC_3 : kC Kd (103 + 6 * j) = 1 := kC_x Kd j 3 (by omega)
theorem kC_4 : kC Kd (104 + 6 * j) = 13 := kC_x Kd j 4 (by omega)
theorem kC_5 : kC Kd (105 + 6 * j) = 13 := kC_x Kd j 5 (by omega)
theorem lC_x (k : Nat) (hk : k < 6) : lC (100 + k + 6 * j) = lX k := by
  unfold lC
  rw [if_neg (by omega), if_neg (by omega), show (100 + k + 6 * j - 100) % 6 = k by omega]
theorem lC_1 : lC (101 + 6 * j) = 4 := lC_x j 1 (by omega)
theorem lC_2 : lC (102 + 6 * j) = 4 := lC_x j 2 (by omega)
theorem lC_4 : lC (104 + 6 * j) = 12 := lC_x j 4 (by omega)
theorem lC_5 : lC (105 + 6 * j) = 16 := lC_x j 5 (by omega)
theorem kC_t {i : Nat} (hi : i < 6) : kC Kd (40 + 5 * i) = 10 := by
  unfold kC
  rw [if_neg (by omega), if_pos (by omega), if_pos (by omega)]
theorem kC_ta {i k : Nat} (hi : i < 6) (h0 : 0 < k) (hk : k < 5) : kC Kd (40 + k + 5 * i) = 13 := by
  unfold kC
  rw [if_neg (by omega), if_pos (by omega), if_neg (by omega)]
theorem lC_ta {i k : Nat} (hi : i < 6) (hk : k < 5) : lC (40 + k + 5 * i) = lX5 k := by
  unfold lC
  rw [if_neg (by omega), if_pos (by omega), show (40 + k + 5 * i - 40) % 5 = k by omega]
end
theorem isC_ck (k : Nat) : fm_isC (ckK k) 5 = true := by
  unfold ckK
  split <;> rfl
section CLS
variable {α : Type} {Kd : Nat → Nat} {μ : Nat → Nat → Int32} {n : Nat → Nat → Option Nat}
theorem C_gi {kap : Nat → Nat} {c0 r k : Nat} (h : fm_isC (kap r) c0 = true) (F : Int32 → Option α) : fm_gi kap c0 r k (μ, n) F = F (μ r k) := if_pos h
theorem C_gr {kap : Nat → Nat} {c0 r k q : Nat} (h : fm_isC (kap r) c0 = true) (hq : n r k = some q) (F : Nat → Option α) : fm_gr kap c0 r k (μ, n) F = F q := by
  unfold fm_gr
  rw [if_pos h, show (μ, n).2 r k = some q from hq]
theorem C_pi {kap : Nat → Nat} {c0 r k : Nat} (h : fm_isC (kap r) c0 = true) (x : Int32) (F : fm_M → Option α) : fm_pi kap c0 r k (μ, n) x F = F (wm μ r k x, n) := if_pos h
theorem C_pz {kap : Nat → Nat} {c0 r k : Nat} (h : fm_isC (kap r) c0 = true) (x : Int32) (hx : x = 0 ∨ x = 1) (F : fm_M → Option α) : fm_pz kap c0 r k (μ, n) x F = F (wm μ r k x, n) := if_pos ⟨h, hx⟩
def wn (n : Nat → Nat → Option Nat) (r k : Nat) (q : Option Nat) : Nat → Nat → Option Nat := fun r' k' => if r' = r ∧ k' = k then q else n r' k'
theorem wn_s (r k : Nat) (q : Option Nat) : wn n r k q r k = q := if_pos ⟨rfl, rfl⟩
theorem wn_r {r k r' k' : Nat} {q : Option Nat} (h : ¬ (r' = r ∧ k' = k)) : wn n r k q r' k' = n r' k' := if_neg h
theorem C_pr {kap : Nat → Nat} {c0 r k : Nat} (h : fm_isC (kap r) c0 = true) (x : Nat) (F : fm_M → Option α) : fm_pr kap c0 r k (μ, n) x F = F (μ, wn n r k (some x)) := if_pos h
theorem C_ck {b : Bool} (h : b = true) (F : Option α) : fm_ck b F = F := if_pos h
theorem C_ld {kap lam : Nat → Nat} {t r j L : Nat} (ht : kap r = t) (hl : lam r = L) (h : j < L) (hL : L < 2 ^ 31) (F : Int32 → Option α) : fm_ld kap lam t r (nI j) (μ, n) F = F (μ r j) := by
  unfold fm_ld
  rw [if_pos ⟨ht, by rw [hl]; exact fm_inb_nI h hL⟩, nI_clamp (by omega)]
theorem C_lr {kap lam : Nat → Nat} {t r j L q : Nat} (ht : kap r = t) (hl : lam r = L) (h : j < L) (hL : L < 2 ^ 31) (hq : n r j = some q) (F : Nat → Option α) : fm_lr kap lam t r (nI j) (μ, n) F = F q := by
  unfold fm_lr
  rw [if_pos ⟨ht, by rw [hl]; exact fm_inb_nI h hL⟩, nI_clamp (by omega), show (μ, n).2 r j = some q from hq]
theorem C_st {kap lam : Nat → Nat} {r j L : Nat} (ht : kap r = 13) (hl : lam r = L) (h : j < L) (hL : L < 2 ^ 31) (x : Int32) (F : fm_M → Option α) : fm_st kap lam r (nI j) x (μ, n) F = F (wm μ r j x, n) := by
  unfold fm_st
  rw [if_pos ⟨ht, by rw [hl]; exact fm_inb_nI h hL⟩, nI_clamp (by omega)]
  rfl
theorem C_ln {kap lam : Nat → Nat} {t r L : Nat} (ht : kap r = t) (hl : lam r = L) (F : Int32 → Option α) : fm_ln kap lam t r F = F (nI L) := by
  unfold fm_ln
  rw [if_pos ht, hl]
/-! by roles -/
theorem C_gic (j k : Nat) (F : Int32 → Option α) : fm_gi (kC Kd) 1 (103 + 6 * j) k (μ, n) F = F (μ (103 + 6 * j) k) := C_gi (by rw [kC_3]; rfl) F
theorem C_pic (j k : Nat) (x : Int32) (F : fm_M → Option α) : fm_pi (kC Kd) 1 (103 + 6 * j) k (μ, n) x F = F (wm μ (103 + 6 * j) k x, n) := C_pi (by rw [kC_3]; rfl) x F
theorem C_pzc (j k : Nat) (b : Bool) (F : fm_M → Option α) : fm_pz (kC Kd) 1 (103 + 6 * j) k (μ, n) (b2i b) F = F (wm μ (103 + 6 * j) k (b2i b), n) := C_pz (by rw [kC_3]; rfl) _ (b2i_or b) F
theorem C_prc (j k x : Nat) (F : fm_M → Option α) : fm_pr (kC Kd) 1 (103 + 6 * j) k (μ, n) x F = F (μ, wn n (103 + 6 * j) k (some x)) := C_pr (by rw [kC_3]; rfl) x F
theorem C_grc {j k q : Nat} (hq : n (103 + 6 * j) k = some q) (F : Nat → Option α) : fm_gr (kC Kd) 1 (103 + 6 * j) k (μ, n) F = F q := C_gr (by rw [kC_3]; rfl) hq F
theorem C_ckc (j : Nat) (F : Option α) : fm_ck (kC Kd (103 + 6 * j) == 1) F = F := C_ck (by rw [kC_3]; rfl) F
theorem C_gio (j k : Nat) (F : Int32 → Option α) : fm_gi (kC Kd) 5 (100 + 6 * j) k (μ, n) F = F (μ (100 + 6 * j) k) := C_gi (by rw [kC_o]; exact isC_ck _) F
theorem C_pio (j k : Nat) (x : Int32) (F : fm_M → Option α) : fm_pi (kC Kd) 5 (100 + 6 * j) k (μ, n) x F = F (wm μ (100 + 6 * j) k x, n) := C_pi (by rw [kC_o]; exact isC_ck _) x F
theorem C_gro {j k q : Nat} (hq : n (100 + 6 * j) k = some q) (F : Nat → Option α) : fm_gr (kC Kd) 5 (100 + 6 * j) k (μ, n) F = F q := C_gr (by rw [kC_o]; exact isC_ck _) hq F
theorem C_git {i : Nat} (hi : i < 6) (k : Nat) (F : Int32 → Option α) : fm_gi (kC Kd) 10 (40 + 5 * i) k (μ, n) F = F (μ (40 + 5 * i) k) := C_gi (by rw [kC_t Kd hi]; rfl) F
theorem C_pit {i : Nat} (hi : i < 6) (k : Nat) (x : Int32) (F : fm_M → Option α) : fm_pi (kC Kd) 10 (40 + 5 * i) k (μ, n) x F = F (wm μ (40 + 5 * i) k x, n) := C_pi (by rw [kC_t Kd hi]; rfl) x F
theorem C_grt {i : Nat} (hi : i < 6) {k q : Nat} (hq : n (40 + 5 * i) k = some q) (F : Nat → Option α) : fm_gr (kC Kd) 10 (40 + 5 * i) k (μ, n) F = F q := C_gr (by rw [kC_t Kd hi]; rfl) hq F
theorem C_ckt {i : Nat} (hi : i < 6) (F : Option α) : fm_ck (kC Kd (40 + 5 * i) == 10) F = F := C_ck (by rw [kC_t Kd hi]; rfl) F
theorem C_lb {j x : Nat} (h : x < 12) (F : Int32 → Option α) : fm_ld (kC Kd) lC 13 (104 + 6 * j) (nI x) (μ, n) F = F (μ (104 + 6 * j) x) := C_ld (kC_4 Kd j) (lC_4 j) h (by decide) F
theorem C_wb {j x : Nat} (h : x < 12) (y : Int32) (F : fm_M → Option α) : fm_st (kC Kd) lC (104 + 6 * j) (nI x) y (μ, n) F = F (wm μ (104 + 6 * j) x y, n) := C_st (kC_4 Kd j) (lC_4 j) h (by decide) y F
theorem C_ls {j x : Nat} (h : x < 16) (F : Int32 → Option α) : fm_ld (kC Kd) lC 13 (105 + 6 * j) (nI x) (μ, n) F = F (μ (105 + 6 * j) x) := C_ld (kC_5 Kd j) (lC_5 j) h (by decide) F
theorem C_ws {j x : Nat} (h : x < 16) (y : Int32) (F : fm_M → Option α) : fm_st (kC Kd) lC (105 + 6 * j) (nI x) y (μ, n) F = F (wm μ (105 + 6 * j) x y, n) := C_st (kC_5 Kd j) (lC_5 j) h (by decide) y F
theorem C_lp {j x : Nat} (h : x < 4) (F : Int32 → Option α) : fm_ld (kC Kd) lC 13 (101 + 6 * j) (nI x) (μ, n) F = F (μ (101 + 6 * j) x) := C_ld (kC_1 Kd j) (lC_1 j) h (by decide) F
theorem C_lt1 {i x : Nat} (hi : i < 6) (h : x < 10) (F : Int32 → Option α) : fm_ld (kC Kd) lC 13 (41 + 5 * i) (nI x) (μ, n) F = F (μ (41 + 5 * i) x) := C_ld (kC_ta Kd (k := 1) hi (by omega) (by omega)) (lC_ta (k := 1) hi (by omega)) h (by decide) F
theorem C_lt2 {i x : Nat} (hi : i < 6) (h : x < 10) (F : Int32 → Option α) : fm_ld (kC Kd) lC 13 (42 + 5 * i) (nI x) (μ, n) F = F (μ (42 + 5 * i) x) := C_ld (kC_ta Kd (k := 2) hi (by omega) (by omega)) (lC_ta (k := 2) hi (by omega)) h (by decide) F
theorem C_lt3 {i x : Nat} (hi : i < 6) (h : x < 100) (F : Int32 → Option α) : fm_ld (kC Kd) lC 13 (43 + 5 * i) (nI x) (μ, n) F = F (μ (43 + 5 * i) x) := C_ld (kC_ta Kd (k := 3) hi (by omega) (by omega)) (lC_ta (k := 3) hi (by omega)) h (by decide) F
theorem C_lt4 {i x : Nat} (hi : i < 6) (h : x < 100) (F : Int32 → Option α) : fm_ld (kC Kd) lC 13 (44 + 5 * i) (nI x) (μ, n) F = F (μ (44 + 5 * i) x) := C_ld (kC_ta Kd (k := 4) hi (by omega) (by omega)) (lC_ta (k := 4) hi (by omega)) h (by decide) F
end CLS
def nP (n : Nat → Nat → Option Nat) (j : Nat) : Prop := n (100 + 6 * j) 9 = some 22 ∧ n (100 + 6 * j) 10 = some (101 + 6 * j) ∧ n (100 + 6 * j) 11 = some (102 + 6 * j) ∧ n (103 + 6 * j) 0 = some (100 + 6 * j) ∧ n (103 + 6 * j) 8 = some (104 + 6 * j) ∧ n (103 + 6 * j) 9 = some (105 + 6 * j)
def nT (n : Nat → Nat → Option Nat) (i : Nat) : Prop := n (40 + 5 * i) 3 = some (41 + 5 * i) ∧ n (40 + 5 * i) 4 = some (42 + 5 * i) ∧ n (40 + 5 * i) 6 = some (43 + 5 * i) ∧ n (40 + 5 * i) 7 = some (44 + 5 * i)
/-! how a TOWN stands in the class -/
def sgC (o : Op) : Int32 := if o.1 < 6 then (match o.1 with
  | 0 => 112
  | 1 => 107
  | 2 => 99
  | 3 => 110
  | 4 => 119
  | _ => 104) else if o.1 = 6 then 33 else if o.1 = 7 then 38 else 124
def vlC (o : Op) : Int32 := if o.1 < 6 then nI (msk o.2.1 o.2.2) else 0
def cdC (g v : Nat → Int32) : Nat → List Op → Prop
  | _, [] => True
  | i, o :: r => g i = sgC o ∧ v i = vlC o ∧ cdC g v (i + 1) r
def clC (g v e w : Nat → Int32) : Nat → Nat → List Cl → Prop
  | _, _, [] => True
  | i, k, (t, ch, n) :: r => cdC g v i t ∧ opH t 0 1 ∧ n < 100 ∧ i + t.length ≤ 100 ∧ e k = nI (i + t.length) ∧ w k = (if ch = true then nI n else - nI n) ∧ clC g v e w (i + t.length) (k + 1) r
def tC (μ : Nat → Nat → Int32) (i : Nat) (cl : List Cl) (f t : Nat) : Prop := μ (40 + 5 * i) 0 = nI f ∧ μ (40 + 5 * i) 1 = nI t ∧ μ (40 + 5 * i) 2 = nI cl.length ∧ cl.length ≤ 10 ∧ clC (μ (43 + 5 * i)) (μ (44 + 5 * i)) (μ (42 + 5 * i)) (μ (41 + 5 * i)) 0 0 cl ∧ f < 100 ∧ t < 100
/-! a course at j that runs by the town i -/
def cI (Kd : Nat → Nat) (μ : Nat → Nat → Int32) (n : Nat → Nat → Option Nat) (j i : Nat) (q : Pn) (h ice : Nat) (sh : Bool) : Prop := (nP n j ∧ nT n i ∧ n (103 + 6 * j) 1 = some (40 + 5 * i)) ∧ (μ (103 + 6 * j) 2 = nI (Pn.c q) ∧ μ (103 + 6 * j) 3 = nI (Pn.w q) ∧ μ (103 + 6 * j) 4 = nI (Pn.v q) ∧ μ (103 + 6 * j) 5 = nI h ∧ μ (103 + 6 * j) 6 = nI ice ∧ μ (103 + 6 * j) 7 = b2i sh) ∧ (μ (100 + 6 * j) 0 = nI (Pn.k q) ∧ μ (100 + 6 * j) 1 = nI (Pn.p q) ∧ Kd j = Pn.k q ∧ (Pn.k q = 6 → ∀ x, x < 4 → μ (101 + 6 * j) x = nI (Pn.r q x))) ∧ (Pn.c q ≤ 20 ∧ Pn.w q ≤ 9 ∧ Pn.v q ≤ 9 ∧ h ≤ 20000 ∧ ice < 4096 ∧ Pn.k q ≤ 6 ∧ Pn.p q < 6 ∧ i < 6)
