set_option maxRecDepth 100000 in
theorem lk_9 : Cond.methodLink R_law 9 xmi_73.2.1 ∈ xtb := xtb_in (List.mem_of_getElem? (i := 98) rfl) rfl
set_option maxRecDepth 100000 in
theorem lk_12 : Cond.methodLink R_law 12 xmi_102.2.1 ∈ xtb := xtb_in (List.mem_of_getElem? (i := 649) rfl) rfl
set_option maxRecDepth 100000 in
theorem lk_c7 : Cond.classLink R_law 7 RX5 ∈ xtb := xtb_in (List.mem_of_getElem? (i := 96) rfl) rfl
set_option maxRecDepth 100000 in
theorem lk_c10 : Cond.classLink R_law 10 RX6 ∈ xtb := xtb_in (List.mem_of_getElem? (i := 647) rfl) rfl
def lw_h0 : xH := (0, 0, fun _ => xdead)
def lw_hA : xH := xnw lw_h0 (.inr (.inr (4, xdef 4))) 10
/-- the two makers' work -/
def lwMk (Sim : xH → Prop) : Prop := ∃ hB hD : xH, xM 73 [.ref 0] lw_hA = some (none, hB) ∧ hB.1 = 104 ∧ xM 102 [.ref 104] (xnw hB (.inr (.inr (5, xdef 5))) 25) = some (none, hD) ∧ Sim hD
theorem lw_K {s : State} {args : Array Value} (hts : ∀ w ∈ lw_tbl, w.before args s = true) : ∃ (D : va_G) (G : xG), va_K D vwCl (xtys G) s ∧ xNw s := by
  have hx : ∀ w ∈ xtb, w.before args s = true := fun w hw => hts w (List.mem_filter.mp hw).1
  obtain ⟨c0, i0, k0⟩ := u_known (C := RX1) (T := TX1) (N := xNc 0) (n := xNc 0) hx xlay_0 (hx _ xins_0)
  obtain ⟨c1, i1, k1⟩ := u_known (C := RX2) (T := TX2) (N := xNc 1) (n := xNc 1) hx xlay_1 (hx _ xins_1)
  obtain ⟨c2, i2, k2⟩ := u_known (C := RX3) (T := TX3) (N := xNc 2) (n := xNc 2) hx xlay_2 (hx _ xins_2)
  obtain ⟨c3, i3, k3⟩ := u_known (C := RX4) (T := TX4) (N := xNc 3) (n := xNc 3) hx xlay_3 (hx _ xins_3)
  obtain ⟨c4, i4, k4⟩ := u_known (C := RX5) (T := TX5) (N := xNc 4) (n := xNc 4) hx xlay_4 (hx _ xins_4)
  obtain ⟨c5, i5, k5⟩ := u_known (C := RX6) (T := TX6) (N := xNc 5) (n := xNc 5) hx xlay_5 (hx _ xins_5)
  obtain ⟨cI, kI, pI, a1, a2, a3⟩ := Cond.arrayClass_spec (hx _ xac_int)
  obtain ⟨cZ, kZ, pZ, b1, b2, b3⟩ := Cond.arrayClass_spec (hx _ xac_boolean)
  obtain ⟨pS', cS, kS, d1, d2, d3, d4, d5⟩ := Cond.arrayOver_spec (hts _ xao_scene)
  refine ⟨(fun k => if k = 0 then c0 else if k = 1 then c1 else if k = 2 then c2 else if k = 3 then c3 else if k = 4 then c4 else c5, fun k => if k = 0 then i0 else if k = 1 then i1 else if k = 2 then i2 else if k = 3 then i3 else if k = 4 then i4 else i5), (cI, cZ, cS), ⟨fun k q hq => ?_, fun k q hq => ?_⟩, fun q hq => va_Nw.of rfl (hts _ (xmn_ok q hq)), va_AO.of (hts _ xao_scene)⟩
  · match k, hq with
    | 0, hq => cases hq; exact k0
    | 1, hq => cases hq; exact k1
    | 2, hq => cases hq; exact k2
    | 3, hq => cases hq; exact k3
    | 4, hq => cases hq; exact k4
    | 5, hq => cases hq; exact k5
    | k + 6, hq => simp [vwCl] at hq
  · match k, hq with
    | 0, hq => cases hq; exact ⟨fun n z => ⟨fun k h => (by cases h), kI, a2, pI, a3⟩, a1⟩
    | 1, hq => cases hq; exact ⟨fun n z => ⟨fun k h => (by cases h), kZ, b2, pZ, b3⟩, b1⟩
    | 2, hq => cases hq; exact ⟨fun n z => ⟨fun k h => (by cases h), kS, d3, pS', d4⟩, kS, pS', d3, d4, d1, d5⟩
    | k + 3, hq => simp [xtys] at hq
set_option maxHeartbeats 4000000 in
set_option maxRecDepth 100000 in
theorem lw_start {Sim : xH → Prop} (hOK : lwOK Sim) (hMk : lwMk Sim) {p : Program} {e : Env} {s : State} {m : MethodId} {below : List Frame} {meth : Method} {c : Code} (l : Launch) {b L : Nat} {xs : Nat → Int32} (hL : L ≤ 3072) (C0 : lw_At p s m meth c b L xs) : W p l e room_1 s m #[Value.ref b] below meth c s.heap [] 0 0 (lw_Z below #[Value.ref b] s) (entryFrame m ([Value.ref b] : List Value).toArray 4) := by
  obtain ⟨hx, hb, hr, hml, hown, hts0, hX, hbl, hlocks, hgv⟩ := id C0
  have hts : ∀ w ∈ xtb, w.before #[Value.ref b] s = true := fun w hw => hts0 w (List.mem_filter.mp hw).1
  obtain ⟨D, G, hKv, hNw⟩ := lw_K hts0
  obtain ⟨hB, hD, m1, eB, m2, hsim⟩ := hMk
  have hA : ∀ q : Nat, s.heap.size ≤ q → (fun q : Nat => s.heap.size ≤ q) q := fun _ h => h
  have hw0 : xwf lw_h0 := fun _ _ => rfl
  obtain ⟨hwA, -, -⟩ := xge_nw (.inr (.inr (4, xdef 4))) 10 hw0
  obtain ⟨hwB, gB1, gB2⟩ := xM_go m1 hwA
  obtain ⟨hwC, gC1, gC2⟩ := xge_nw (.inr (.inr (5, xdef 5))) 25 hwB
  obtain ⟨hwD, gD1, gD2⟩ := xM_go m2 hwC
  obtain ⟨z1, z2, -, -⟩ := (hOK hD hsim).1
  have gC3 : hB.1 + 1 ≤ hD.1 := gD1
  have gC4 : hB.2.1 + 25 ≤ hD.2.1 := gD2
  have hl := lv_entry ([.ref b]) (n := 4) (Nat.le_of_ble_eq_true rfl)
  rw [lg_entry_eq]
  generalize (lg_sl ([.ref b]) ++ List.replicate (4 - (lg_sl ([.ref b])).length) Slot.unset).toArray = ls at hl ⊢
  have hl : lv_has ls 4 [(0, .ref b)] := hl
  have hP0 : va_P D vwCl (xws G s.heap.size lw_h0) s.heap := fun k q h => by simp [xws, lw_h0] at h
  obtain ⟨hc1, hc2, hc3, hc4, hc5, hc6⟩ := xcl_at (ci := 4) (by decide)
  refine va_new (ci := 4) (fs := (xdef 4).map (xcv s.heap.size)) hx hb hts hc2 (xYc 4) hc3 hown (hts _ lk_c7) (hts _ hc5) (hts _ hc6) hKv hP0 (xws_D G s.heap.size lw_h0) va_S.rf hA hc1 (fun j hj => by rw [xdef_cv _ 4 (by decide)]; exact xdef_ok (by decide) hj) (by decide) (by decide) dL_0 (fun q1 H1 hP1 hD1 hS1 => ?_)
  refine x_size fun hz => ?_
  have hqe : q1 = s.heap.size + lw_h0.1 := x_new (z := 0) (by show H1.size ≤ s.heap.size + 0 + 1; omega) hP1 hD1
  subst hqe
  have hPA : va_P D vwCl (xws G s.heap.size lw_hA) H1 := by unfold lw_hA; rw [xws_nw]; exact hP1
  refine lv_dup hx hb dL_3 rfl ?_
  refine lc_I (h := lw_hA) (q1 := xmi_73) (rest := [.ref (s.heap.size + 0)]) (ob := 0) C0 hKv hNw rfl rfl lk_9 (by decide) (by decide) rfl m1 hwA (by omega) (by show 1 ≤ 8; decide) dL_4 hPA hS1 hl.1 (fun H2 locs2 hP2 hS2 => ?_)
  refine lv_astore_n (lv' := [(1, .ref (s.heap.size + 0)), (0, .ref b)]) hx hb dL_7 rfl hl (by decide) rfl (fun ls hl => ?_)
  obtain ⟨hc1, hc2, hc3, hc4, hc5, hc6⟩ := xcl_at (ci := 5) (by decide)
  refine va_new (ci := 5) (fs := (xdef 5).map (xcv s.heap.size)) hx hb hts hc2 (xYc 5) hc3 hown (hts _ lk_c10) (hts _ hc5) (hts _ hc6) hKv hP2 (xws_D G s.heap.size hB) hS2 hA hc1 (fun j hj => by rw [xdef_cv _ 5 (by decide)]; exact xdef_ok (by decide) hj) (by show hB.1 + 1 ≤ 600000; omega) (by show hB.2.1 + 25 ≤ 7302250; omega) dL_8 (fun q1 H3 hP3 hD3 hS3 => ?_)
  refine x_size fun hz => ?_
  have hqe : q1 = s.heap.size + hB.1 := x_new (z := 0) (by omega) hP3 hD3
  subst hqe
  have hPC : va_P D vwCl (xws G s.heap.size (xnw hB (.inr (.inr (5, xdef 5))) 25)) H3 := by rw [xws_nw]; exact hP3
  rw [eB]
  refine W.cs (cells' := (xnw hB (.inr (.inr (5, xdef 5))) 25).1) (slots' := (xnw hB (.inr (.inr (5, xdef 5))) 25).2.1) (by show 104 + 1 = hB.1 + 1; rw [eB]) rfl ?_
  refine lv_dup hx hb dL_11 rfl ?_
  refine lc_I (h := xnw hB (.inr (.inr (5, xdef 5))) 25) (q1 := xmi_102) (rest := [.ref (s.heap.size + 104)]) (ob := 104) C0 hKv hNw rfl rfl lk_12 (by decide) (by decide) rfl m2 hwC (by omega) (by show 1 ≤ 8; decide) dL_12 hPC hS3 hl.1 (fun H4 locs4 hP4 hS4 => ?_)
  refine lv_astore_n (lv' := [(2, .ref (s.heap.size + 104)), (1, .ref (s.heap.size + 0)), (0, .ref b)]) hx hb dL_15 rfl hl (by decide) rfl (fun ls hl => ?_)
  refine lv_iconst (v := 0) hx hb dL_16 (by decide) ?_
  refine lv_istore_n (lv' := [(3, .int (nI 0)), (2, .ref (s.heap.size + 104)), (1, .ref (s.heap.size + 0)), (0, .ref b)]) hx hb dL_17 rfl hl (by decide) rfl (fun ls hl => ?_)
  exact lw_loop hOK C0 hKv hNw hL (L + 1) 0 (by omega) (by omega) hD hsim H4 locs4 ls hP4 hS4 (lv_sub hl [3, 2, 1, 0] rfl)
