/-! RENAMING: memories and worlds -/
def rnS (a b : Nat) (S : fm_M) : fm_M := (fun r k => S.1 (rnm a b r) k, fun r k => (S.2 (rnm a b r) k).map (rnm a b))
theorem kF_rnm {Kd : Nat → Nat} {a b N : Nat} (ha : a < N) (hb : b < N) (r : Nat) : kF (fun j => Kd (sw a b j)) N r = kF Kd N (rnm a b r) := by
  unfold kF
  rw [kC_rnm]
  have e : gRb (fun j => Kd (sw a b j)) N r = true ↔ gRb Kd N (rnm a b r) = true := by rw [gRb_t, gRb_t]; exact gR_rnm ha hb
  by_cases h : gRb Kd N (rnm a b r) = true
  · rw [if_pos h, if_pos (e.2 h)]
  · rw [if_neg h, if_neg (fun x => h (e.1 x))]
theorem rn_map (a b : Nat) (ad : Nat → Nat) (o : Option Nat) : (o.map (rnm a b)).map (fun r => ad (rnm a b r)) = o.map ad := by
  cases o with
  | none => rfl
  | some q => show some (ad (rnm a b (rnm a b q))) = some (ad q); rw [rnm_rnm]
theorem ct_rnm {ids : Nat → ClassId} {Kd : Nat → Nat} {a b N : Nat} (ha : a < N) (hb : b < N) (ad : Nat → Nat) (S : fm_M) (r : Nat) : fm_ct ids (kF (fun j => Kd (sw a b j)) N) lC (fun r => ad (rnm a b r)) (rnS a b S) r = fm_ct ids (kF Kd N) lC ad S (rnm a b r) := by
  unfold fm_ct
  rw [kF_rnm ha hb, lC_rnm a b r]
  have e1 : fm_fv (fun r => ad (rnm a b r)) (rnS a b S) (kF Kd N (rnm a b r)) r = fm_fv ad S (kF Kd N (rnm a b r)) (rnm a b r) := by
    funext k
    unfold fm_fv rnS
    rw [rn_map]
  have e2 : (fun j => ((rnS a b S).2 r j).map (fun r => ad (rnm a b r))) = fun j => (S.2 (rnm a b r) j).map ad := by
    funext j
    exact rn_map a b ad _
  rw [e1, e2]
  rfl
theorem rs_rnm {Kd : Nat → Nat} {a b r k : Nat} : rs (fun j => Kd (sw a b j)) r k ↔ rs Kd (rnm a b r) k := by
  unfold rs
  rw [kC_rnm, lC_rnm a b r]
theorem cl_rnm {Kd : Nat → Nat} {a b N : Nat} {S : fm_M} (ha : a < N) (hb : b < N) (h : cl Kd N S) : cl (fun j => Kd (sw a b j)) N (rnS a b S) := by
  intro r k q hr hk hq
  cases e : S.2 (rnm a b r) k with
  | none => rw [show (rnS a b S).2 r k = (S.2 (rnm a b r) k).map (rnm a b) from rfl, e] at hq; cases hq
  | some x =>
    rw [show (rnS a b S).2 r k = (S.2 (rnm a b r) k).map (rnm a b) from rfl, e] at hq
    have hx : rnm a b x = q := Option.some.inj hq
    have := h _ _ _ ((gR_rnm ha hb).1 hr) (rs_rnm.1 hk) e
    rw [gR_rnm ha hb, ← hx, rnm_rnm]
    exact this
