/-! WORLDS by membership -/
theorem W_sub {D : va_G} {ws ws' : va_W} {H : Heap} (h : va_P D fm_cls ws H) (hs : ∀ q, q ∈ ws' → q ∈ ws) : va_P D fm_cls ws' H := by
  intro k q hk
  obtain ⟨i, hi, e⟩ := List.mem_iff_getElem.1 (hs q (List.mem_of_getElem? hk))
  exact h i q (by rw [List.getElem?_eq_getElem hi, e])
/-- the world of a memory whose groups have changed places -/
theorem W_rnm {D : va_G} {ids : Nat → ClassId} {Kd : Nat → Nat} {a b N : Nat} {ad : Nat → Nat} {S : fm_M} {RL : List Nat} {H : Heap} (ha : a < N) (hb : b < N) (hRL : ∀ r, r ∈ RL → rnm a b r ∈ RL) (h : va_P D fm_cls (fm_w ids (kF Kd N) lC RL ad S) H) : va_P D fm_cls (fm_w ids (kF (fun j => Kd (sw a b j)) N) lC RL (fun r => ad (rnm a b r)) (rnS a b S)) H := by
  refine W_sub h (fun q hq => ?_)
  obtain ⟨r, hr, e⟩ := List.mem_map.1 hq
  refine List.mem_map.2 ⟨rnm a b r, hRL r hr, ?_⟩
  rw [← e, ct_rnm ha hb]
