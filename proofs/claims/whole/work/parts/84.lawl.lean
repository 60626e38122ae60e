section LAW
variable {p : Program} {l : Launch} {e : Env} {s : State} {m : MethodId} {below : List Frame} {meth : Method} {c : Code} {b L : Nat} {xs : Nat → Int32} {D : va_G} {G : xG}
set_option maxHeartbeats 4000000 in
set_option maxRecDepth 100000 in
theorem lw_loop {Sim : xH → Prop} (hOK : lwOK Sim) (C0 : lw_At p s m meth c b L xs) (hKv : va_K D vwCl (xtys G) s) (hNw : xNw s) (hL : L ≤ 3072) : ∀ (n i : Nat), L + 1 ≤ i + n → i ≤ L + 6 → ∀ (h : xH), Sim h → ∀ (H : Heap) (locs : List Loc) (ls : Array Slot), va_P D vwCl (xws G s.heap.size h) H → va_S (fun a => s.heap.size ≤ a) s.heap H locs → lv_has ls 4 [(0, .ref b), (1, .ref (s.heap.size + 0)), (2, .ref (s.heap.size + 104)), (3, .int (nI i))] →
    W p l e room_1 s m #[Value.ref b] below meth c H locs h.1 h.2.1 (lw_Z below #[Value.ref b] s) (F0 m 18 ls []) := by
  obtain ⟨hx, hb, hr, hml, hown, hts0, hX, hbl, hlocks, hgv⟩ := id C0
  have hbA : ¬ (fun q : Nat => s.heap.size ≤ q) b := Nat.not_le.mpr hbl
  have hend : ∀ (h : xH), Sim h → ∀ (H : Heap) (locs : List Loc) (ls : Array Slot), va_S (fun a => s.heap.size ≤ a) s.heap H locs → W p l e room_1 s m #[Value.ref b] below meth c H locs h.1 h.2.1 (lw_Z below #[Value.ref b] s) (F0 m 772 ls []) := by
    intro h hs H locs ls hS
    obtain ⟨hz1, hz2, -⟩ := (hOK h hs).1
    refine lv_iconst (v := 1) hx hb dL_772 (by decide) ?_
    refine va_forget (fun q hq => hS.2.2 q hq) ?_
    refine W.widen (k := 600000) (n := 7302250) (by omega) (by omega) ?_
    exact lw_ret hx hb hr hlocks dL_773
  have hcmp : ∀ i : Nat, i ≤ L + 6 → (¬ (nI L - 6 < nI i) ↔ i + 6 ≤ L) := by
    intro i hi
    have e1 : (nI L - 6).toInt = (L : Int) - 6 := pk_sub_toInt (a := L) (b := 6) (by omega) (by omega)
    rw [Int32.lt_iff_toInt_lt, e1, nI_toInt (by omega)]
    omega
  intro n
  induction n with
  | zero =>
    intro i h1 h2 h hs H locs ls hP hS hl
    refine lv_iload_n hx hb dL_18 rfl (lv_at hl 3 rfl) ?_
    refine lv_aload_n hx hb dL_19 rfl (lv_at hl 0 rfl) ?_
    refine va_slen hx hb hX hbl hbA hS dL_20 ?_
    refine lv_bipush (v := 6) hx hb dL_21 (by decide) ?_
    refine lv_isub hx hb dL_23 ?_
    refine lv_icmp_gt (tgt := 772) hx hb dL_24 (by decide) (fun _ => hend h hs H locs ls hS) (fun hc => ?_)
    have := (hcmp i h2).mp hc
    omega
  | succ n ih =>
    intro i h1 h2 h hs H locs ls hP hS hl
    refine lv_iload_n hx hb dL_18 rfl (lv_at hl 3 rfl) ?_
    refine lv_aload_n hx hb dL_19 rfl (lv_at hl 0 rfl) ?_
    refine va_slen hx hb hX hbl hbA hS dL_20 ?_
    refine lv_bipush (v := 6) hx hb dL_21 (by decide) ?_
    refine lv_isub hx hb dL_23 ?_
    refine lv_icmp_gt (tgt := 772) hx hb dL_24 (by decide) (fun _ => hend h hs H locs ls hS) (fun hc => ?_)
    have hi := (hcmp i h2).mp hc
    refine lv_aload_n hx hb dL_27 rfl (lv_at hl 0 rfl) ?_
    refine lv_iload_n hx hb dL_28 rfl (lv_at hl 3 rfl) ?_
    refine va_sld hx hb hX hbl hbA hS (vp_in_nI (by omega) (by omega)) dL_29 ?_
    refine lv_bipush (v := 31) hx hb dL_30 (by decide) ?_
    refine lv_iand hx hb dL_32 ?_
    obtain ⟨j, hj, ej⟩ := pk_andE (xs (nI i).toNatClampNeg) (m := 31) 5 (by decide)
    rw [ej]
    have kk : ∀ (h2 : xH) (H2 : Heap) (locs2 : List Loc), Sim h2 → va_P D vwCl (xws G s.heap.size h2) H2 → va_S (fun a => s.heap.size ≤ a) s.heap H2 locs2 → W p l e room_1 s m #[Value.ref b] below meth c H2 locs2 h2.1 h2.2.1 (lw_Z below #[Value.ref b] s) (F0 m 766 ls []) := by
      intro h2 H2 locs2 hs2 hP2 hS2
      refine lv_iinc (v := nI (i + 6)) (lv' := [(3, .int (nI (i + 6))), (0, .ref b), (1, .ref (s.heap.size + 0)), (2, .ref (s.heap.size + 104))]) hx hb dL_766 hl (k := 3) rfl (by rw [show Int32.ofInt 6 = nI 6 by decide, nI_add]) (by decide) rfl (fun ls' hl' => ?_)
      refine lv_goto (tgt := 18) hx hb dL_769 (by decide) ?_
      exact ih (i + 6) (by omega) (by omega) h2 hs2 H2 locs2 ls' hP2 hS2 (lv_sub hl' [1, 2, 3, 0] rfl)
    match j, hj with
    | 0, _ => exact lv_tableIn hx hb dL_33 (by decide) (by decide) (off := 99) rfl (tgt := 132) (by decide) (lw_c0 hOK C0 hKv hNw hi hL hs hP hS hl kk)
    | 1, _ => exact lv_tableIn hx hb dL_33 (by decide) (by decide) (off := 162) rfl (tgt := 195) (by decide) (lw_c1 hOK C0 hKv hNw hi hL hs hP hS hl kk)
    | 2, _ => exact lv_tableIn hx hb dL_33 (by decide) (by decide) (off := 225) rfl (tgt := 258) (by decide) (lw_c2 hOK C0 hKv hNw hi hL hs hP hS hl kk)
    | 3, _ => exact lv_tableIn hx hb dL_33 (by decide) (by decide) (off := 258) rfl (tgt := 291) (by decide) (lw_c3 hOK C0 hKv hNw hi hL hs hP hS hl kk)
    | 4, _ => exact lv_tableIn hx hb dL_33 (by decide) (by decide) (off := 291) rfl (tgt := 324) (by decide) (lw_c4 hOK C0 hKv hNw hi hL hs hP hS hl kk)
    | 5, _ => exact lv_tableIn hx hb dL_33 (by decide) (by decide) (off := 314) rfl (tgt := 347) (by decide) (lw_c5 hOK C0 hKv hNw hi hL hs hP hS hl kk)
    | 6, _ => exact lv_tableIn hx hb dL_33 (by decide) (by decide) (off := 327) rfl (tgt := 360) (by decide) (lw_c6 hOK C0 hKv hNw hi hL hs hP hS hl kk)
    | 7, _ => exact lv_tableIn hx hb dL_33 (by decide) (by decide) (off := 360) rfl (tgt := 393) (by decide) (lw_c7 hOK C0 hKv hNw hi hL hs hP hS hl kk)
    | 8, _ => exact lv_tableIn hx hb dL_33 (by decide) (by decide) (off := 393) rfl (tgt := 426) (by decide) (lw_c8 hOK C0 hKv hNw hi hL hs hP hS hl kk)
    | 9, _ => exact lv_tableIn hx hb dL_33 (by decide) (by decide) (off := 436) rfl (tgt := 469) (by decide) (lw_c9 hOK C0 hKv hNw hi hL hs hP hS hl kk)
    | 10, _ => exact lv_tableIn hx hb dL_33 (by decide) (by decide) (off := 489) rfl (tgt := 522) (by decide) (lw_c10 hOK C0 hKv hNw hi hL hs hP hS hl kk)
    | 11, _ => exact lv_tableIn hx hb dL_33 (by decide) (by decide) (off := 522) rfl (tgt := 555) (by decide) (lw_c11 hOK C0 hKv hNw hi hL hs hP hS hl kk)
    | 12, _ => exact lv_tableIn hx hb dL_33 (by decide) (by decide) (off := 555) rfl (tgt := 588) (by decide) (lw_c12 hOK C0 hKv hNw hi hL hs hP hS hl kk)
    | 13, _ => exact lv_tableIn hx hb dL_33 (by decide) (by decide) (off := 578) rfl (tgt := 611) (by decide) (lw_c13 hOK C0 hKv hNw hi hL hs hP hS hl kk)
    | 14, _ => exact lv_tableIn hx hb dL_33 (by decide) (by decide) (off := 611) rfl (tgt := 644) (by decide) (lw_c14 hOK C0 hKv hNw hi hL hs hP hS hl kk)
    | 15, _ => exact lv_tableIn hx hb dL_33 (by decide) (by decide) (off := 634) rfl (tgt := 667) (by decide) (lw_c15 hOK C0 hKv hNw hi hL hs hP hS hl kk)
    | 16, _ => exact lv_tableIn hx hb dL_33 (by decide) (by decide) (off := 657) rfl (tgt := 690) (by decide) (lw_c16 hOK C0 hKv hNw hi hL hs hP hS hl kk)
    | 17, _ => exact lv_tableIn hx hb dL_33 (by decide) (by decide) (off := 670) rfl (tgt := 703) (by decide) (lw_c17 hOK C0 hKv hNw hi hL hs hP hS hl kk)
    | 18, _ => exact lv_tableIn hx hb dL_33 (by decide) (by decide) (off := 683) rfl (tgt := 716) (by decide) (lw_c18 hOK C0 hKv hNw hi hL hs hP hS hl kk)
    | 19, _ => exact lv_tableIn hx hb dL_33 (by decide) (by decide) (off := 696) rfl (tgt := 729) (by decide) (lw_c19 hOK C0 hKv hNw hi hL hs hP hS hl kk)
    | 20, _ => exact lv_tableIn hx hb dL_33 (by decide) (by decide) (off := 719) rfl (tgt := 752) (by decide) (lw_c20 hOK C0 hKv hNw hi hL hs hP hS hl kk)
    | 21, _ => exact lv_tableOut hx hb dL_33 (by decide) (tgt := 766) (by decide) (kk h H locs hs hP hS)
    | 22, _ => exact lv_tableOut hx hb dL_33 (by decide) (tgt := 766) (by decide) (kk h H locs hs hP hS)
    | 23, _ => exact lv_tableOut hx hb dL_33 (by decide) (tgt := 766) (by decide) (kk h H locs hs hP hS)
    | 24, _ => exact lv_tableOut hx hb dL_33 (by decide) (tgt := 766) (by decide) (kk h H locs hs hP hS)
    | 25, _ => exact lv_tableOut hx hb dL_33 (by decide) (tgt := 766) (by decide) (kk h H locs hs hP hS)
    | 26, _ => exact lv_tableOut hx hb dL_33 (by decide) (tgt := 766) (by decide) (kk h H locs hs hP hS)
    | 27, _ => exact lv_tableOut hx hb dL_33 (by decide) (tgt := 766) (by decide) (kk h H locs hs hP hS)
    | 28, _ => exact lv_tableOut hx hb dL_33 (by decide) (tgt := 766) (by decide) (kk h H locs hs hP hS)
    | 29, _ => exact lv_tableOut hx hb dL_33 (by decide) (tgt := 766) (by decide) (kk h H locs hs hP hS)
    | 30, _ => exact lv_tableOut hx hb dL_33 (by decide) (tgt := 766) (by decide) (kk h H locs hs hP hS)
    | 31, _ => exact lv_tableOut hx hb dL_33 (by decide) (tgt := 766) (by decide) (kk h H locs hs hP hS)
    | j + 32, hj => exact absurd hj (by omega)
end LAW
