/-! LAW: what holds between the calls -/
theorem va_D_same {A : Nat → Prop} {w1 w2 : va_W} (h : w2.map (fun q => q.1) = w1.map (fun q => q.1)) (hD : va_D A w1) : va_D A w2 := by
  have key : ∀ (i : Nat) (q : Nat × va_E), w2[i]? = some q → ∃ q', w1[i]? = some q' ∧ q'.1 = q.1 := by
    intro i q hi
    have h1 : (w2.map (fun q => q.1))[i]? = some q.1 := by rw [List.getElem?_map, hi]; rfl
    rw [h, List.getElem?_map] at h1
    cases e : w1[i]? with
    | none => rw [e] at h1; cases h1
    | some q' => rw [e] at h1; exact ⟨q', rfl, Option.some.inj h1⟩
  refine ⟨fun i j p q hi hj e => ?_, fun i q hi => ?_⟩
  · obtain ⟨p', h1, h2⟩ := key i p hi
    obtain ⟨q', h3, h4⟩ := key j q hj
    exact hD.1 i j p' q' h1 h3 (by rw [h2, h4]; exact e)
  · obtain ⟨q', h1, h2⟩ := key i q hi
    rw [← h2]
    exact hD.2 i q' h1
theorem fm_w_ads {ids : Nat → ClassId} {kap lam : Nat → Nat} {RL : List Nat} {ad : Nat → Nat} {S : fm_M} : (fm_w ids kap lam RL ad S).map (fun q => q.1) = RL.map ad := by
  unfold fm_w
  rw [List.map_map]
  rfl
theorem va_D_mk {A : Nat → Prop} {w : va_W} (hN : (w.map (fun q => q.1)).Nodup) (hA : ∀ q, q ∈ w → A q.1) : va_D A w := by
  refine ⟨fun i j p q hi hj e => ?_, fun i q hi => hA q (List.mem_of_getElem? hi)⟩
  have h1 : (w.map (fun q => q.1))[i]? = some p.1 := by rw [List.getElem?_map, hi]; rfl
  have h2 : (w.map (fun q => q.1))[j]? = some p.1 := by rw [List.getElem?_map, hj, e]; rfl
  exact (List.getElem?_inj (List.getElem?_eq_some_iff.1 h1).1 hN).1 (h1.trans h2.symm)
theorem va_D_nd {A : Nat → Prop} {w : va_W} (hD : va_D A w) : (w.map (fun q => q.1)).Nodup := by
  refine List.pairwise_iff_getElem.2 (fun i j hi hj hij e => ?_)
  have hi2 : i < w.length := by rw [List.length_map] at hi; exact hi
  have hj2 : j < w.length := by rw [List.length_map] at hj; exact hj
  rw [List.getElem_map, List.getElem_map] at e
  have := hD.1 i j _ _ (List.getElem?_eq_getElem hi2) (List.getElem?_eq_getElem hj2) e
  omega
/-- the roles that stand -/
def RLok (Kd : Nat → Nat) (N : Nat) (RL : List Nat) : Prop := RL.Nodup ∧ ∀ r, r ∈ RL ↔ kF Kd N r < 18
theorem kF_lo {Kd : Nat → Nat} {N r : Nat} (h : r < 75) : kF Kd N r = kC Kd r := kF_g (Or.inl h)
theorem RLS_ok (Kd : Nat → Nat) : RLok Kd 0 RLS := by
  refine ⟨by decide, fun r => ⟨fun h => ?_, fun h => ?_⟩⟩
  · have h70 : r < 75 := (show ∀ r, r ∈ RLS → r < 75 by decide) r h
    rw [kF_lo h70]
    unfold kC
    have := (show ∀ r, r ∈ RLS → (if r < 40 then kA r else if r < 100 then (if (r - 40) % 5 = 0 then 10 else 13) else 0) < 18 by decide) r h
    by_cases h4 : r < 40
    · rw [if_pos h4] at this ⊢; exact this
    · rw [if_neg h4, if_pos (by omega)] at this ⊢; exact this
  · by_cases h70 : r < 75
    · rw [kF_lo h70] at h
      unfold kC at h
      refine (show ∀ r, r < 75 → (if r < 40 then kA r else if r < 100 then (if (r - 40) % 5 = 0 then 10 else 13) else 0) < 18 → r ∈ RLS by decide) r h70 ?_
      by_cases h4 : r < 40
      · rw [if_pos h4] at h ⊢; exact h
      · rw [if_neg h4, if_pos (by omega)] at h ⊢; exact h
    · exfalso
      have e : ¬ gR Kd 0 r := by
        rintro (g | ⟨_, g, _⟩)
        · exact h70 g
        · omega
      rw [show kF Kd 0 r = 99 from if_neg (fun x => e (gRb_t.1 x))] at h
      omega
theorem RLT_ok : RLT.Nodup ∧ ∀ r, kR r < 18 → r ∈ RLT := by
  refine ⟨by decide, fun r h => ?_⟩
  by_cases h10 : r < 10
  · exact (show ∀ r, r < 10 → r ∈ RLT by decide) r h10
  · exfalso
    match r, h10, h with
    | r + 10, _, h => exact absurd h (by show ¬ 99 < 18; omega)
