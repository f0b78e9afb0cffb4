/-! LAW: a maker called, the others stay; pane() -/
theorem mk_Cmv {C T : String} : mk_Mv (fun U => va_Nw (.castable C T) U) := fun u U h _ x => va_tabs rfl (rfl : (u.setVm U.vm).vm = U.vm) (by rw [Cond.castable_setVm h]; exact x)
section PCL
variable {p : Program} {l : Launch} {e : Env} {R : Room} {s : State} {m : MethodId} {args : Array Value} {below : List Frame} {meth : Method} {c : Code} {H : Heap} {locs : List Loc} {cells slots : Nat} {Q : State → Prop}
variable {cc : ByteArray} {pc nL : Nat} {ls : Array Slot} {rest st0 : List Value} {own : String} {D : va_G} {ids : Nat → ClassId} {A : Nat → Prop}
theorem lw_pcall (Z : CallFix p m c cc nL s args fm_AW own) {y : MethodName} {b : ByteArray} {n h mc ms idx k q q0 ci : Nat} {fs : List Value} {wc : va_W} {As : List Value} {β : Type} {post : β → va_W} {ret : Option FieldType} {ri : Int32} {X : State → Prop} (hXm : mk_Mv X) (hXs : X s) (hM : mk_G X l y b n ret h mc ms D ids wc (.ref q :: As) H.size (mk_Qi D ri post)) (hK : va_K D fm_cls (fm_tys ids) s) (hP : va_P D fm_cls wc H) (hD : va_D A wc) (hS : va_S A s.heap H locs) (hA : ∀ q, s.heap.size ≤ q → A q)
    (he : wc[q0]? = some (q, .inr (ci, fs))) (hc : ci < 13) (hcn : fm_R ci = y.cls) (w : lw_wd own idx y b n ret k) (hk : As.length = k) (hR2 : h + 1 ≤ R.frames ∧ 8 + (n + 11) + 40 * h ≤ R.locals) (hl : ls.size = nL) (hW : (rest.map fun v => v.category).sum ≤ 8) (hdg : decode cc pc = .ok (.invokevirtual idx, 3)) (hcells : cells + mc ≤ R.cells) (hslots : slots + ms ≤ R.slots) (hst : st0 = As.reverse ++ .ref q :: rest)
    (wo : va_W) (hO : va_P D fm_cls wo H) (hdis : ∀ x, x ∈ wo → ∀ z, z ∈ wc → x.1 ≠ z.1)
    (kk : ∀ (u : β) (H1 : Heap) (locs1 : List Loc), va_P D fm_cls (post u) H1 → va_D (va_A wc H.size) (post u) → va_P D fm_cls wo H1 → va_S A s.heap H1 locs1 → W p l e R s m args below meth c H1 locs1 (cells + mc) (slots + ms) Q (F0 m (pc + 3) ls (.int ri :: rest))) : W p l e R s m args below meth c H locs cells slots Q (F0 m pc ls st0) := by
  obtain ⟨hx, hb, hml, hown, hts⟩ := Z
  obtain ⟨k1, k2, k3, k4, k5, hd⟩ := w
  subst hst
  have hFc : ∀ q, va_A wc H.size q → A q := by
    intro q hq
    rcases hq with ⟨k, e, hk⟩ | hq
    · exact hD.2 k (q, e) hk
    · exact hA q (Nat.le_trans hS.1 hq)
  have hG : GoodIn fm_AW (fm_ws y b n ret) := by
    intro w hw
    rcases List.mem_cons.mp hw with h | h
    · subst h
      exact ⟨fm_in k5 rfl, Or.inl rfl⟩
    · exact ⟨h, good_of_word (fm_AW_good w h).2⟩
  have hRm : (mk_rm h mc ms).frames + 1 ≤ R.frames ∧ 8 + (n + 11) + (mk_rm h mc ms).locals ≤ R.locals := hR2
  have hB : CallB R s args own idx y b n ret (fm_ws y b n ret) (mk_rm h mc ms) mc ms k := callB_of (Ts := fm_AW) (ws' := fm_AW) k hts hG rfl rfl rfl (hts _ (fm_in k4 rfl)) (hts _ (fm_in k1 rfl)) hd hRm
  refine va_calli (va_runV (n := k) (As := As) (rest := rest) ⟨hx, hb, hml, hown, hts⟩ hM ⟨hB, hts _ (fm_in k2 rfl), hts _ (fm_in k3 rfl)⟩ ⟨mk_blindX hXm, by rw [← hcn]; exact va_recv hK hP (fm_cls_at _ hc) he, fun U hU hW => ⟨rfl, hXm _ _ hW.alike (Or.inr hW) hXs, by rw [hU], by rw [hU]; exact hP, va_K.moved hW.alike hK, hD.weaken (fun _ _ _ _ => trivial)⟩⟩ rfl hk hl rfl (lv_room hW) hdg ⟨hcells, hslots⟩) hS (fun q _ h => hFc q h) hFc (fun r u t H1 locs1 ht hvm hw hB hz1 hk1 hS1 => ?_)
  subst hw
  obtain ⟨hP1, hD1⟩ := hB
  rw [ht] at hP1
  refine kk u H1 locs1 hP1 hD1 (hO.kept (fun i x hi => hk1 x.1 (hO i x hi).lt (fun hA => ?_))) hS1
  rcases hA with ⟨k, e, hk⟩ | hA
  · exact hdis x (List.mem_of_getElem? hi) _ (List.mem_of_getElem? hk) rfl
  · exact absurd (hO i x hi).lt (Nat.not_lt.2 hA)
end PCL
def pnC : List Cond := [.castable "FrostBids$Kitchen" "FrostBids$Pane", .castable "FrostBids$Nursery" "FrostBids$Pane", .castable "FrostBids$Rectory" "FrostBids$Pane", .castable "FrostBids$Jail" "FrostBids$Pane", .castable "FrostBids$Church" "FrostBids$Pane", .castable "FrostBids$Told" "FrostBids$Pane"]
def pnU (k : Nat) (u : Nat → Nat) (x : Nat) : Nat := if k = 6 then u x else if x = 0 then u 0 else u (x - 2)
def pnO (k : Nat) (n y z : Int32) (bd : Nat) (U : Nat → Nat) : List Value := [.int (nI k), .int n, .int y, .int z, .int 0, .int 0, .int 0, .int 0, .int 0, .ref bd] ++ (if k = 6 then [.ref (U 1), .ref (U 2)] else [])
def pnW (ids : Nat → ClassId) (k a pa ca bt bd : Nat) (n y z : Int32) (v4 v5 v6 v7 v8 v9 v10 v11 v12 v13 v15 v16 : Value) (f g : Nat → Option Nat) (U : Nat → Nat) : va_W := [(pa, .inl (ids 16, 6, .inr (.inr (.inr (.inr (va_up f n.toNatClampNeg (some (U 0)))))))), (ca, .inl (ids 15, 6, .inr (.inr (.inr (.inr (va_up g n.toNatClampNeg (some (U 3)))))))), (a, .inr (11, [.ref pa, .ref ca, .int (n + 1), .ref bt, v4, v5, v6, v7, v8, v9, v10, v11, v12, v13, .ref bd, v15, v16])), (U 0, .inr (ckK k, pnO k n y z bd U))] ++ ((if k = 6 then [(U 1, .inl (ids 13, 4, .inl (fun _ => 0))), (U 2, .inl (ids 13, 4, .inl (fun _ => 0)))] else []) ++ [(U 3, .inr (1, [.ref (U 0), .ref bt, .int 0, .int 0, .int 0, .int 0, .int 0, .int 0, .ref (U 4), .ref (U 5)])), (U 4, .inl (ids 13, 12, .inl (fun _ => 0))), (U 5, .inl (ids 13, 16, .inl (fun _ => 0)))])
section PCK
variable {p : Program} {l : Launch} {e : Env} {R : Room} {s : State} {m : MethodId} {args : Array Value} {below : List Frame} {meth : Method} {c : Code} {H : Heap} {locs : List Loc} {cells slots : Nat} {Q : State → Prop}
variable {cc : ByteArray} {pc nL : Nat} {ls : Array Slot} {rest st0 : List Value} {own : String} {D : va_G} {ids : Nat → ClassId} {A : Nat → Prop}
theorem lw_pane_ok (Z : CallFix p m c cc nL s args fm_AW own) (hXs : ∀ w ∈ pnC, va_Nw w s) {idx k a pa ca bt bd : Nat} {n y z : Int32} {v4 v5 v6 v7 v8 v9 v10 v11 v12 v13 v15 v16 : Value} {f g : Nat → Option Nat} (hk6 : k ≤ 6) (hy : (if y < 0 then 0 else if 9 < y then 0 else 1 : Int32) = 1) (hz : (if z < 0 then 0 else if 9 < z then 0 else 1 : Int32) = 1) (hlt : n < 6) (hin : vp_in n 6) (hK : va_K D fm_cls (fm_tys ids) s) {wc : va_W} (hwc : wc = [(a, .inr (11, [.ref pa, .ref ca, .int n, .ref bt, v4, v5, v6, v7, v8, v9, v10, v11, v12, v13, .ref bd, v15, v16])), (pa, .inl (ids 16, 6, .inr (.inr (.inr (.inr f))))), (ca, .inl (ids 15, 6, .inr (.inr (.inr (.inr g)))))]) (hP : va_P D fm_cls wc H) (hD : va_D A wc) (hS : va_S A s.heap H locs) (hA : ∀ q, s.heap.size ≤ q → A q)
    (w : lw_wd own idx y_X11_pane prog_1_method_4_code 5 (some .int) 3) (hR2 : 6 ≤ R.frames ∧ 300 ≤ R.locals) (hl : ls.size = nL) (hW : (rest.map fun v => v.category).sum ≤ 8) (hdg : decode cc pc = .ok (.invokevirtual idx, 3)) (hcells : cells + 6 ≤ R.cells) (hslots : slots + 58 ≤ R.slots) (hst : st0 = [.int z, .int y, .int (nI k), .ref a] ++ rest)
    (wo : va_W) (hO : va_P D fm_cls wo H) (hdis : ∀ x, x ∈ wo → ∀ z, z ∈ wc → x.1 ≠ z.1)
    (kk : ∀ (u : Nat → Nat) (H1 : Heap) (locs1 : List Loc), va_P D fm_cls (pnW ids k a pa ca bt bd n y z v4 v5 v6 v7 v8 v9 v10 v11 v12 v13 v15 v16 f g (pnU k u)) H1 → va_D (va_A wc H.size) (pnW ids k a pa ca bt bd n y z v4 v5 v6 v7 v8 v9 v10 v11 v12 v13 v15 v16 f g (pnU k u)) → va_P D fm_cls wo H1 → va_S A s.heap H1 locs1 → W p l e R s m args below meth c H1 locs1 (cells + 6) (slots + 58) Q (F0 m (pc + 3) ls (.int (n + 1 - 1) :: rest))) : W p l e R s m args below meth c H locs cells slots Q (F0 m pc ls st0) := by
  subst hwc
  have hR3 : 5 + 1 ≤ R.frames ∧ 8 + (5 + 11) + 40 * 5 ≤ R.locals := ⟨hR2.1, by omega⟩
  match k, hk6, hst, kk with
  | 0, _, hst, kk => exact lw_pcall (As := [.int (nI 0), .int y, .int z]) (rest := rest) (q0 := 0) Z mk_Tmv trivial (k_X11_pane_0 (l := l) (f := f) (g := g) hy hz hlt hin H.size) hK hP hD hS hA rfl (by decide) rfl w rfl hR3 hl hW hdg (by omega) (by omega) hst wo hO hdis (fun u H1 locs1 q1 q2 q3 q4 => W.widen (by omega) (by omega) (kk u H1 locs1 q1 q2 q3 q4))
  | 1, _, hst, kk => exact lw_pcall (As := [.int (nI 1), .int y, .int z]) (rest := rest) (q0 := 0) Z (X := fun U => va_Nw (.castable "FrostBids$Kitchen" "FrostBids$Pane") U) mk_Cmv (hXs _ (by decide)) (k_X11_pane_1 (l := l) (f := f) (g := g) hy hz hlt hin H.size) hK hP hD hS hA rfl (by decide) rfl w rfl hR3 hl hW hdg (by omega) (by omega) hst wo hO hdis (fun u H1 locs1 q1 q2 q3 q4 => W.widen (by omega) (by omega) (kk u H1 locs1 q1 q2 q3 q4))
  | 2, _, hst, kk => exact lw_pcall (As := [.int (nI 2), .int y, .int z]) (rest := rest) (q0 := 0) Z (X := fun U => va_Nw (.castable "FrostBids$Nursery" "FrostBids$Pane") U) mk_Cmv (hXs _ (by decide)) (k_X11_pane_2 (l := l) (f := f) (g := g) hy hz hlt hin H.size) hK hP hD hS hA rfl (by decide) rfl w rfl hR3 hl hW hdg (by omega) (by omega) hst wo hO hdis (fun u H1 locs1 q1 q2 q3 q4 => W.widen (by omega) (by omega) (kk u H1 locs1 q1 q2 q3 q4))
  | 3, _, hst, kk => exact lw_pcall (As := [.int (nI 3), .int y, .int z]) (rest := rest) (q0 := 0) Z (X := fun U => va_Nw (.castable "FrostBids$Rectory" "FrostBids$Pane") U) mk_Cmv (hXs _ (by decide)) (k_X11_pane_3 (l := l) (f := f) (g := g) hy hz hlt hin H.size) hK hP hD hS hA rfl (by decide) rfl w rfl hR3 hl hW hdg (by omega) (by omega) hst wo hO hdis (fun u H1 locs1 q1 q2 q3 q4 => W.widen (by omega) (by omega) (kk u H1 locs1 q1 q2 q3 q4))
  | 4, _, hst, kk => exact lw_pcall (As := [.int (nI 4), .int y, .int z]) (rest := rest) (q0 := 0) Z (X := fun U => va_Nw (.castable "FrostBids$Jail" "FrostBids$Pane") U) mk_Cmv (hXs _ (by decide)) (k_X11_pane_4 (l := l) (f := f) (g := g) hy hz hlt hin H.size) hK hP hD hS hA rfl (by decide) rfl w rfl hR3 hl hW hdg (by omega) (by omega) hst wo hO hdis (fun u H1 locs1 q1 q2 q3 q4 => W.widen (by omega) (by omega) (kk u H1 locs1 q1 q2 q3 q4))
  | 5, _, hst, kk => exact lw_pcall (As := [.int (nI 5), .int y, .int z]) (rest := rest) (q0 := 0) Z (X := fun U => va_Nw (.castable "FrostBids$Church" "FrostBids$Pane") U) mk_Cmv (hXs _ (by decide)) (k_X11_pane_5 (l := l) (f := f) (g := g) hy hz hlt hin H.size) hK hP hD hS hA rfl (by decide) rfl w rfl hR3 hl hW hdg (by omega) (by omega) hst wo hO hdis (fun u H1 locs1 q1 q2 q3 q4 => W.widen (by omega) (by omega) (kk u H1 locs1 q1 q2 q3 q4))
  | 6, _, hst, kk => exact lw_pcall (As := [.int (nI 6), .int y, .int z]) (rest := rest) (q0 := 0) Z (X := fun U => va_Nw (.castable "FrostBids$Told" "FrostBids$Pane") U) mk_Cmv (hXs _ (by decide)) (k_X11_pane_6 (l := l) (f := f) (g := g) hy hz hlt hin H.size) hK hP hD hS hA rfl (by decide) rfl w rfl hR3 hl hW hdg (by omega) (by omega) hst wo hO hdis (fun u H1 locs1 q1 q2 q3 q4 => W.widen (by omega) (by omega) (kk u H1 locs1 q1 q2 q3 q4))
  | k + 7, h, _, _ => exact absurd h (by omega)
end PCK
