/-! LAW: from its entry -/
theorem nS_lt {r k q : Nat} (h : nS r k = some q) : q < 75 := by
  unfold nS at h
  by_cases h0 : r = 0
  · rw [if_pos h0] at h
    by_cases hk : k < 17
    · have := (show ∀ k, k < 17 → ((([some 1, some 2, none, some 65, some 3, none, some 10, some 30, none, none, none, some 13, some 16, some 19, some 22, some 25, some 4] : List (Option Nat)).getD k none).getD 0) < 75 by decide) k hk
      rw [h] at this
      exact this
    · rw [List.getD_eq_getElem?_getD, List.getElem?_eq_none (by show 17 ≤ k; omega)] at h
      cases h
  rw [if_neg h0] at h
  by_cases h3 : r = 3
  · rw [if_pos h3] at h
    by_cases c : k < 5
    · rw [if_pos c] at h; cases h; omega
    · rw [if_neg c] at h; cases h
  rw [if_neg h3] at h
  by_cases h30 : r = 30
  · rw [if_pos h30] at h
    by_cases c : k = 0
    · rw [if_pos c] at h; cases h; omega
    rw [if_neg c] at h
    by_cases c : k = 1
    · rw [if_pos c] at h; cases h; omega
    · rw [if_neg c] at h; cases h
  rw [if_neg h30] at h
  by_cases h10 : 10 ≤ r ∧ r < 28 ∧ (r - 10) % 3 = 0
  · rw [if_pos h10] at h
    by_cases c : k = 1
    · rw [if_pos c] at h; cases h; omega
    rw [if_neg c] at h
    by_cases c : k = 2
    · rw [if_pos c] at h; cases h; omega
    · rw [if_neg c] at h; cases h
  rw [if_neg h10] at h
  by_cases h40 : 40 ≤ r ∧ r < 75 ∧ (r - 40) % 5 = 0
  · rw [if_pos h40] at h
    by_cases c : k = 3
    · rw [if_pos c] at h; cases h; omega
    rw [if_neg c] at h
    by_cases c : k = 4
    · rw [if_pos c] at h; cases h; omega
    rw [if_neg c] at h
    by_cases c : k = 6
    · rw [if_pos c] at h; cases h; omega
    rw [if_neg c] at h
    by_cases c : k = 7
    · rw [if_pos c] at h; cases h; omega
    · rw [if_neg c] at h; cases h
  rw [if_neg h40] at h
  cases h
theorem cl_start (Kd : Nat → Nat) : cl Kd 0 (muS, nS) := fun _ _ _ _ _ hq => Or.inl (nS_lt hq)
theorem nd_inj {α β : Type} {f : α → β} : ∀ {l : List α}, (l.map f).Nodup → ∀ a, a ∈ l → ∀ b, b ∈ l → f a = f b → a = b
  | [], _, a, ha, _, _, _ => absurd ha List.not_mem_nil
  | x :: l, h, a, ha, b, hb, e => by
    rw [List.map_cons] at h
    obtain ⟨h1, h2⟩ := List.nodup_cons.1 h
    rcases List.mem_cons.1 ha with ea | ea <;> rcases List.mem_cons.1 hb with eb | eb
    · rw [ea, eb]
    · exact absurd (by rw [← ea, e]; exact List.mem_map.2 ⟨b, eb, rfl⟩) h1
    · exact absurd (by rw [← eb, ← e]; exact List.mem_map.2 ⟨a, ea, rfl⟩) h1
    · exact nd_inj h2 a ea b eb e
theorem start_I {D : va_G} {ids : Nat → Nat} {s : State} {a1 a2 : Nat} {u1 u2 : Nat → Nat} {A : Nat → Prop} (hK : va_K D fm_cls (fm_tys ids) s) (hA : ∀ q, s.heap.size ≤ q → A q) (hD : va_D A (PS ids a1 u1 ++ PT ids a2 u2)) : lw_I D ids s A (fun _ => 0) 0 RLS (adS a1 u1) (adT a2 u2) := by
  have hN := va_D_nd hD
  have e : (PS ids a1 u1 ++ PT ids a2 u2).map (fun q => q.1) = RLS.map (adS a1 u1) ++ RLT.map (adT a2 u2) := by
    rw [List.map_append, ← W_start (Kd := fun _ => 0), ← W_startR, fm_w_ads, fm_w_ads]
  rw [e] at hN
  obtain ⟨n1, n2, n3⟩ := List.pairwise_append.1 hN
  have m1 : ∀ r, r ∈ RLS → A (adS a1 u1 r) := by
    intro r hr
    have h1 : (adS a1 u1 r) ∈ (PS ids a1 u1 ++ PT ids a2 u2).map (fun q => q.1) := by
      rw [e]
      exact List.mem_append_left _ (List.mem_map.2 ⟨r, hr, rfl⟩)
    obtain ⟨q, hq, eq⟩ := List.mem_map.1 h1
    obtain ⟨i, hi⟩ := List.getElem?_of_mem hq
    rw [← eq]
    exact hD.2 i q hi
  have m2 : ∀ r, r ∈ RLT → A (adT a2 u2 r) := by
    intro r hr
    have h1 : (adT a2 u2 r) ∈ (PS ids a1 u1 ++ PT ids a2 u2).map (fun q => q.1) := by
      rw [e]
      exact List.mem_append_right _ (List.mem_map.2 ⟨r, hr, rfl⟩)
    obtain ⟨q, hq, eq⟩ := List.mem_map.1 h1
    obtain ⟨i, hi⟩ := List.getElem?_of_mem hq
    rw [← eq]
    exact hD.2 i q hi
  exact ⟨⟨(RLS_ok (fun _ => 0)).1, fun r hr => ((RLS_ok (fun _ => 0)).2 r).2 hr, nd_inj n1, hK, m1, hA⟩, ⟨RLT_ok.1, RLT_ok.2, nd_inj n2, hK, m2, hA⟩, RLS_ok (fun _ => 0), fun r hr q hq => n3 _ (List.mem_map.2 ⟨r, hr, rfl⟩) _ (List.mem_map.2 ⟨q, hq, rfl⟩)⟩
theorem start_F {D : va_G} {ids : Nat → Nat} {s : State} {a1 a2 : Nat} {u1 u2 : Nat → Nat} {A : Nat → Prop} {H : Heap} {locs : List Loc} (hP : va_P D fm_cls (PS ids a1 u1 ++ PT ids a2 u2) H) (hS : va_S A s.heap H locs) : lw_F2 D ids s A (fun _ => 0) 0 RLS (adS a1 u1) (adT a2 u2) (muS, nS) (roS, nR) H locs := by
  refine ⟨⟨?_, hS⟩, ?_⟩
  · rw [W_start]
    exact W_sub hP (fun q hq => List.mem_append_left _ hq)
  · rw [W_startR]
    exact W_sub hP (fun q hq => List.mem_append_right _ hq)
theorem d_law_0 : lw_db 0 [(.new 7, 3), (.dup, 1), (.invokespecial 9, 3), (.astore_n 1, 1), (.new 10, 3), (.dup, 1), (.invokespecial 12, 3), (.astore_n 2, 1), (.iconst 0, 1), (.istore_n 3, 1)] = true := by decide +kernel
theorem d_law_1193 : lw_db 1193 [(.iconst 1, 1), (.ireturn, 1)] = true := by decide +kernel
/-- from the entry, for every script of at most 2560 ints, the law comes to its end with true -/
theorem whole_start {p : Program} {e : Env} {s : State} {m : MethodId} {below : List Frame} {meth : Method} {c : Code} (l : Launch) (hflags : l.flags = flags0) {b L : Nat} {xs : Nat → Int32} (hL : L ≤ 2560) (C0 : lw_At p s m meth c b L xs) : W p l e room_1 s m #[Value.ref b] below meth c s.heap [] 0 0 (lw_Z below #[Value.ref b] s) (entryFrame m ([Value.ref b] : List Value).toArray 4) := by
  obtain ⟨hx, hb, hr, hml, hown, hts, hX, hbl, hlocks, hgv⟩ := id C0
  obtain ⟨D, ids, hK⟩ := lw_K hts
  obtain ⟨sk, sv, NW⟩ := lw_NW hts hgv
  have hA : ∀ q : Nat, s.heap.size ≤ q → (fun q : Nat => s.heap.size ≤ q) q := fun _ h => h
  have hbA : ¬ (fun q : Nat => s.heap.size ≤ q) b := Nat.not_le.mpr hbl
  have Z : CallFix p m c code 4 s #[Value.ref b] fm_AW R_law := ⟨hx, hb, hml, hown, fun w hw => hts w (fm_AW_good w hw).1⟩
  have hXs : ∀ w ∈ pnC, va_Nw w s := fun w hw => va_Nw.of (lw_pnt w hw) (hts w (lw_pnc w hw))
  have hXA : mk_XA s := ⟨va_AO.of (hts _ lw_wOP), va_AO.of (hts _ lw_wOC), va_AO.of (hts _ lw_wOT), va_Nw.of rfl (hts _ lw_wRN)⟩
  have hP : va_P D fm_cls [] s.heap := fun k q h => by simp at h
  have hD : va_D (fun q : Nat => s.heap.size ≤ q) [] := ⟨fun i j p q h => by simp at h, fun k q h => by simp at h⟩
  have hl := lv_entry ([.ref b]) (n := 4) (Nat.le_of_ble_eq_true rfl)
  rw [lg_entry_eq]
  generalize (lg_sl ([.ref b]) ++ List.replicate (4 - (lg_sl ([.ref b])).length) Slot.unset).toArray = ls at hl ⊢
  have hl : lv_has ls 4 [(0, .ref b)] := hl
  obtain ⟨d0, q⟩ := lw_db_c d_law_0
  obtain ⟨d1, q⟩ := lw_db_c q
  obtain ⟨d2, q⟩ := lw_db_c q
  obtain ⟨d3, q⟩ := lw_db_c q
  obtain ⟨d4, q⟩ := lw_db_c q
  obtain ⟨d5, q⟩ := lw_db_c q
  obtain ⟨d6, q⟩ := lw_db_c q
  obtain ⟨d7, q⟩ := lw_db_c q
  obtain ⟨d8, q⟩ := lw_db_c q
  obtain ⟨d9, q⟩ := lw_db_c q
  refine mk_new (ci := 11) (ids := ids) (fs := [.null, .null, .int 0, .null, .null, .int 0, .null, .null, .int 0, .int 0, .int 0, .null, .null, .null, .null, .null, .null]) Z (by decide) lw_wL1 lw_wN1 lw_wF1 hK hP hD va_S.rf hA mn_11 (by show 0 + 1 ≤ 600000; omega) (by show 0 + 17 ≤ 7302250; omega) d0 (fun a1 H hP hD hS => ?_)
  have hP : va_P D fm_cls [(a1, .inr (11, [.null, .null, .int 0, .null, .null, .int 0, .null, .null, .int 0, .int 0, .int 0, .null, .null, .null, .null, .null, .null]))] H := hP
  have hD : va_D (fun q : Nat => s.heap.size ≤ q) [(a1, .inr (11, [.null, .null, .int 0, .null, .null, .int 0, .null, .null, .int 0, .int 0, .int 0, .null, .null, .null, .null, .null, .null]))] := hD
  refine lv_dup hx hb d1 rfl ?_
  refine lw_callIX (R := room_1) (q := a1) (As := []) (rest := [.ref a1]) (wc := [(a1, .inr (11, [.null, .null, .int 0, .null, .null, .int 0, .null, .null, .int 0, .int 0, .int 0, .null, .null, .null, .null, .null, .null]))]) (wr := []) Z mk_XA_mv hXA (k_X11_init (l := l) (ids := ids) H.size) hK hP hD hS hA [0] [] rfl rfl rfl rfl (by decide) rfl lw_wM1 lw_wI1 lw_wF1 lw_wC1 (by decide +kernel) rfl (by decide) ⟨by show 3 + 1 ≤ 2048; omega, by show 8 + (2 + 11) + 40 * 3 ≤ 84000; omega⟩ hl.1 (by show 1 + 0 ≤ 8; omega) d2 (by show 0 + 1 + 59 ≤ 600000; omega) (by show 0 + 17 + 2654 ≤ 7302250; omega) rfl (fun u1 H locs hP hD hS => ?_)
  have hP : va_P D fm_cls (PS ids a1 u1) H := hP
  have hD : va_D (fun q : Nat => s.heap.size ≤ q) (PS ids a1 u1) := hD
  refine lv_astore_n hx hb d3 rfl hl (by omega) rfl (fun ls hl => ?_)
  refine mk_new (ci := 12) (ids := ids) (fs := [.int 0, .null, .null, .null, .int 0, .int 0, .int 0, .int 0, .int 0, .int 0, .null, .null, .null, .null, .null, .int 0, .null, .int 0, .int 0, .int 0, .int 0]) Z (by decide) lw_wL2 lw_wN2 lw_wF2 hK hP hD hS hA mn_12 (by show 0 + 1 + 59 + 1 ≤ 600000; omega) (by show 0 + 17 + 2654 + 21 ≤ 7302250; omega) d4 (fun a2 H hP hD hS => ?_)
  refine lv_dup hx hb d5 rfl ?_
  refine lw_callI (R := room_1) (q := a2) (As := []) (rest := [.ref a2]) (wc := [(a2, .inr (12, [.int 0, .null, .null, .null, .int 0, .int 0, .int 0, .int 0, .int 0, .int 0, .null, .null, .null, .null, .null, .int 0, .null, .int 0, .int 0, .int 0, .int 0]))]) (wr := PS ids a1 u1) Z (k_X12_init (l := l) (ids := ids) H.size) hK hP hD hS hA [60] (List.range 60) rfl rfl rfl (by decide +kernel) (fun i hi h => by have := List.mem_range.1 hi; have := List.mem_singleton.1 h; omega) rfl lw_wM2 lw_wI2 lw_wF2 lw_wC2 (by decide +kernel) rfl (by decide) ⟨by show 1 + 1 ≤ 2048; omega, by show 8 + (1 + 11) + 40 * 1 ≤ 84000; omega⟩ hl.1 (by show 1 + 0 ≤ 8; omega) d6 (by show 0 + 1 + 59 + 1 + 9 ≤ 600000; omega) (by show 0 + 17 + 2654 + 21 + 2113 ≤ 7302250; omega) rfl (fun u2 H locs hP hD hS => ?_)
  have hP : va_P D fm_cls (PS ids a1 u1 ++ PT ids a2 u2) H := hP
  have hD : va_D (fun q : Nat => s.heap.size ≤ q) (PS ids a1 u1 ++ PT ids a2 u2) := hD
  refine lv_astore_n hx hb d7 rfl hl (by omega) rfl (fun ls hl => ?_)
  refine lv_iconst (v := 0) hx hb d8 (by decide) ?_
  refine lv_istore_n hx hb d9 rfl hl (by omega) rfl (fun ls hl => ?_)
  refine W.widen (k := 100) (n := 5000) (by show 0 + 1 + 59 + 1 + 9 ≤ 100; omega) (by show 0 + 17 + 2654 + 21 + 2113 ≤ 5000; omega) ?_
  have hI := start_I hK hA hD
  have hF := start_F (s := s) hP hS
  refine lw_loop (a0 := a1) (sk := sk) (sv := sv) Z hX hbl hbA NW hXs hL (fun ls H locs cells slots hS hc hs => ?_) 512 0 ls (fun _ => 0) 0 RLS (adS a1 u1) muS nS roS H locs 100 5000 (by omega) (by omega) (by omega) (by omega) rfl hI hF (Rep_start _) (cl_start _) (lv_sub hl [3, 2, 1, 0] rfl)
  obtain ⟨f0, q⟩ := lw_db_c d_law_1193
  obtain ⟨f1, q⟩ := lw_db_c q
  refine lv_iconst (v := 1) hx hb f0 (by decide) ?_
  refine va_forget (fun q hq => hS.2.2 q hq) ?_
  exact W.widen hc hs (lw_ret hx hb hr hlocks f1)
