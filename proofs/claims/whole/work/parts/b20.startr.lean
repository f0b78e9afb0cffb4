/-! START: the world of the reference as it is made -/
def adT (a : Nat) (u : Nat → Nat) (r : Nat) : Nat := if r = 0 then a else u (r - 1)
def RLT : List Nat := [0, 1, 2, 3, 4, 5, 6, 7, 8, 9]
def PT (ids : Nat → ClassId) (a : Nat) (u : Nat → Nat) : va_W := [(a, .inr (12, [.int 0, .ref (u 0), .ref (u 1), .ref (u 2), .int 0, .int 0, .int 0, .int 0, .int 0, .int 0, .ref (u 3), .ref (u 4), .ref (u 5), .ref (u 6), .ref (u 7), .int 0, .ref (u 8), .int 0, .int 0, .int 0, .int 0])), ((u 0), .inl (ids 13, 926, .inl (upd (upd (fun _ => 0) (27 : Int32).toNatClampNeg (-1)) (1 : Int32).toNatClampNeg 5))), ((u 1), .inl (ids 13, 926, .inl (fun _ => 0))), ((u 2), .inl (ids 13, 21, .inl (fun _ => 0))), ((u 3), .inl (ids 13, 6, .inl (fun _ => 0))), ((u 4), .inl (ids 14, 64, .inl (fun _ => 0))), ((u 5), .inl (ids 13, 144, .inl (fun _ => 0))), ((u 6), .inl (ids 13, 3, .inl (fun _ => 0))), ((u 7), .inl (ids 13, 3, .inl (fun _ => 0))), ((u 8), .inl (ids 13, 20, .inl (fun _ => 0)))]
theorem roS_a {r : Nat} (h : r ≠ 1) : roS r = fun _ => 0 := by
  funext i
  unfold roS
  rw [if_neg (fun x => h x.1), if_neg (fun x => h x.1)]
theorem roS_1 : roS 1 = upd (upd (fun _ => 0) (27 : Int32).toNatClampNeg (-1)) (1 : Int32).toNatClampNeg 5 := by
  funext i
  rw [show (27 : Int32).toNatClampNeg = 27 from by decide, show (1 : Int32).toNatClampNeg = 1 from by decide]
  unfold roS upd
  by_cases h1 : i = 1
  · subst h1
    rfl
  · by_cases h2 : i = 27
    · subst h2
      rfl
    · rw [if_neg (fun x => h2 x.2), if_neg (fun x => h1 x.2)]
      simp [h1, h2]
theorem ctT_r0 {ids : Nat → ClassId} {a : Nat} {u : Nat → Nat} : fm_ct ids kR lR (adT a u) (roS, nR) 0 = .inr (12, [.int 0, .ref (u 0), .ref (u 1), .ref (u 2), .int 0, .int 0, .int 0, .int 0, .int 0, .int 0, .ref (u 3), .ref (u 4), .ref (u 5), .ref (u 6), .ref (u 7), .int 0, .ref (u 8), .int 0, .int 0, .int 0, .int 0]) := rfl
theorem ctT_r1 {ids : Nat → ClassId} {a : Nat} {u : Nat → Nat} : fm_ct ids kR lR (adT a u) (roS, nR) 1 = .inl (ids 13, 926, .inl (upd (upd (fun _ => 0) (27 : Int32).toNatClampNeg (-1)) (1 : Int32).toNatClampNeg 5)) := by
  show Sum.inl (ids 13, 926, Sum.inl (roS 1)) = _
  rw [roS_1]
theorem ctT_r2 {ids : Nat → ClassId} {a : Nat} {u : Nat → Nat} : fm_ct ids kR lR (adT a u) (roS, nR) 2 = .inl (ids 13, 926, .inl (fun _ => 0)) := by
  show Sum.inl (ids 13, 926, Sum.inl (roS 2)) = _
  rw [roS_a (by decide)]
theorem ctT_r3 {ids : Nat → ClassId} {a : Nat} {u : Nat → Nat} : fm_ct ids kR lR (adT a u) (roS, nR) 3 = .inl (ids 13, 21, .inl (fun _ => 0)) := by
  show Sum.inl (ids 13, 21, Sum.inl (roS 3)) = _
  rw [roS_a (by decide)]
theorem ctT_r4 {ids : Nat → ClassId} {a : Nat} {u : Nat → Nat} : fm_ct ids kR lR (adT a u) (roS, nR) 4 = .inl (ids 13, 6, .inl (fun _ => 0)) := by
  show Sum.inl (ids 13, 6, Sum.inl (roS 4)) = _
  rw [roS_a (by decide)]
theorem ctT_r5 {ids : Nat → ClassId} {a : Nat} {u : Nat → Nat} : fm_ct ids kR lR (adT a u) (roS, nR) 5 = .inl (ids 14, 64, .inl (fun _ => 0)) := by
  show Sum.inl (ids 14, 64, Sum.inl (roS 5)) = _
  rw [roS_a (by decide)]
theorem ctT_r6 {ids : Nat → ClassId} {a : Nat} {u : Nat → Nat} : fm_ct ids kR lR (adT a u) (roS, nR) 6 = .inl (ids 13, 144, .inl (fun _ => 0)) := by
  show Sum.inl (ids 13, 144, Sum.inl (roS 6)) = _
  rw [roS_a (by decide)]
theorem ctT_r7 {ids : Nat → ClassId} {a : Nat} {u : Nat → Nat} : fm_ct ids kR lR (adT a u) (roS, nR) 7 = .inl (ids 13, 3, .inl (fun _ => 0)) := by
  show Sum.inl (ids 13, 3, Sum.inl (roS 7)) = _
  rw [roS_a (by decide)]
theorem ctT_r8 {ids : Nat → ClassId} {a : Nat} {u : Nat → Nat} : fm_ct ids kR lR (adT a u) (roS, nR) 8 = .inl (ids 13, 3, .inl (fun _ => 0)) := by
  show Sum.inl (ids 13, 3, Sum.inl (roS 8)) = _
  rw [roS_a (by decide)]
theorem ctT_r9 {ids : Nat → ClassId} {a : Nat} {u : Nat → Nat} : fm_ct ids kR lR (adT a u) (roS, nR) 9 = .inl (ids 13, 20, .inl (fun _ => 0)) := by
  show Sum.inl (ids 13, 20, Sum.inl (roS 9)) = _
  rw [roS_a (by decide)]
theorem W_startR {ids : Nat → ClassId} {a : Nat} {u : Nat → Nat} : fm_w ids kR lR RLT (adT a u) (roS, nR) = PT ids a u := cg (Prod.ext rfl (ctT_r0 (ids := ids) (a := a) (u := u))) (cg (Prod.ext rfl (ctT_r1 (ids := ids) (a := a) (u := u))) (cg (Prod.ext rfl (ctT_r2 (ids := ids) (a := a) (u := u))) (cg (Prod.ext rfl (ctT_r3 (ids := ids) (a := a) (u := u))) (cg (Prod.ext rfl (ctT_r4 (ids := ids) (a := a) (u := u))) (cg (Prod.ext rfl (ctT_r5 (ids := ids) (a := a) (u := u))) (cg (Prod.ext rfl (ctT_r6 (ids := ids) (a := a) (u := u))) (cg (Prod.ext rfl (ctT_r7 (ids := ids) (a := a) (u := u))) (cg (Prod.ext rfl (ctT_r8 (ids := ids) (a := a) (u := u))) (cg (Prod.ext rfl (ctT_r9 (ids := ids) (a := a) (u := u))) (rfl))))))))))
