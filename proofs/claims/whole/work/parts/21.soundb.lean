/-- every field stands in its own place -/
theorem xTc_own {a b cn : Nat} (ha : a < 6) (hb : b < xNc a) (hc : cn = a + 1) : (xTc a b).1 = xcnm cn := by
  subst hc
  have h : ∀ a, a < 6 → ∀ b, b < xNc a → (xTc a b).1 = xcnm (a + 1) := by decide +kernel
  exact h a ha b hb
theorem xdty9 {a b : Nat} (ha : a < 6) (hb : b < xNc a) : xdty (xYc a b) ≠ 9 := by
  have h : ∀ a, a < 6 → ∀ b, b < xNc a → xdty (xYc a b) ≠ 9 := by decide +kernel
  exact h a ha b hb
theorem xsw_tg (x : Int32) (d : Nat) (k : Nat → Option xR) : ∀ ps, xsw x ps d k = k (xtg x ps d)
  | [] => rfl
  | p :: r => by
    unfold xsw xtg
    by_cases hc : x = p.1
    · rw [if_pos hc, if_pos hc]
    · rw [if_neg hc, if_neg hc]; exact xsw_tg x d k r
theorem xtg_out {x : Int32} {d : Nat} {lo hi : Int} : ∀ {ps : List (Int32 × Nat)}, (ps.all fun p => decide (lo ≤ p.1.toInt) && decide (p.1.toInt ≤ hi)) = true → (x.toInt < lo ∨ hi < x.toInt) → xtg x ps d = d
  | [], _, _ => rfl
  | p :: r, h, hx => by
    simp only [List.all_cons, Bool.and_eq_true, decide_eq_true_eq] at h
    unfold xtg
    rw [if_neg (fun q => by rw [q] at hx; omega)]
    exact xtg_out h.2 hx
theorem xtg_look {x : Int32} {pc d : Nat} {df : Int} (hd : (pc : Int) + df = (d : Int)) : ∀ (sw : List (Int32 × Nat)), (pc : Int) + Op.lookupswitch.offset (sw.map (fun p => (p.1.toInt, (p.2 : Int) - (pc : Int)))) df x.toInt = (xtg x sw d : Int)
  | [] => hd
  | p :: r => by
    simp only [List.map_cons]
    rw [Op.lookupswitch.offset_cons]
    unfold xtg
    by_cases hc : x = p.1
    · rw [if_pos hc, if_pos (by rw [hc])]; omega
    · rw [if_neg hc, if_neg (fun q => hc (Int32.toInt_inj.mp (by first | exact q | exact q.symm)))]; exact xtg_look hd r
theorem xbz_nar {x : Int32} (h : xbz x = true) : vp_nar .boolean x = x ∧ narrow .boolean (.int x) = .int x := by
  unfold xbz at h
  simp only [Bool.or_eq_true, decide_eq_true_eq] at h
  rcases h with rfl | rfl <;> decide +kernel
theorem xnilE {α : Type} {st : List α} (h : st.isEmpty = true) : st = [] := by
  cases st with
  | nil => rfl
  | cons => cases h
section SND
variable {l : Launch} {D : va_G} {G : xG} {Bs : Nat} {p : Program} {e : Env} {s : State} {m : MethodId} {args : Array Value} {below : List Frame} {meth : Method} {c : Code}
variable {q : xMI} {h0 : Nat × Nat} {r : Option Value} {h' : xH} {K : Nat → xL → List Value → xH → Option xR} {C : Nat → List Value → xH → Option xR}
set_option maxHeartbeats 1000000 in
theorem xs_table (hq : xmOK q) (cx : xCx D G p s m args meth c q) (hs0 : s.heap.size = Bs + h0.1) (hK : ∀ pc L st h, K pc L st h = some (r, h') → xW l D G Bs p e s m args below meth c q h0 r h' pc L st h)
    (hG : ∀ pc L st h, xgo h (K pc L st h)) (hC : ∀ j as h r1 h1 q1, xmis[j]? = some q1 → C j as h = some (r1, h1) → xwf h → xCon l D G Bs q1 as h r1 h1) (hCG : ∀ j as h, xgo h (C j as h))
    {pc n a b d : Nat} {k : Int32} {sw : List (Int32 × Nat)} {L : xL} {st : List Value} {h : xH} {df lo hi : Int} {offs : Array Int} (hok : xoki q pc (.tableswitch df lo hi offs, n, a, b, d, k, sw) = true) (hx : xF K C (.tableswitch df lo hi offs, n, a, b, d, k, sw) L st h = some (r, h')) : xW l D G Bs p e s m args below meth c q h0 r h' pc L st h := by
  obtain ⟨hxe, hb, hr, hml, hown, hts, hlk, hin, hKv, hNw⟩ := cx
  simp only [xoki, Bool.and_eq_true, decide_eq_true_eq] at hok
  obtain ⟨⟨⟨⟨hdg, hd⟩, hsz⟩, hall⟩, hks⟩ := hok
  obtain ⟨x, e1, hx_⟩ := Option.bind_eq_some_iff.mp hx
  clear hx
  have hx := hx_
  clear hx_
  replace e1 := xpI_inv e1
  subst e1
  rw [xsw_tg] at hx
  intro H locs ls hwf hl1 hl2 hP hS hL
  by_cases ho : x.1.toInt < lo ∨ hi < x.1.toInt
  · exact lv_tableOut hxe hb hdg ho (tgt := xtg x.1 sw a) (by rw [xtg_out hks ho]; exact hd) (hK _ _ _ _ hx H locs ls hwf hl1 hl2 hP hS hL)
  · have h1 : ¬ x.1.toInt < lo := fun q => ho (Or.inl q)
    have h2 : ¬ hi < x.1.toInt := fun q => ho (Or.inr q)
    have hj : (x.1.toInt - lo).toNat < offs.size := by omega
    have h3 := List.all_eq_true.mp hall (x.1.toInt - lo).toNat (List.mem_range.mpr hj)
    rw [decide_eq_true_eq] at h3
    have h4 : lo + ((x.1.toInt - lo).toNat : Int) = x.1.toInt := by omega
    rw [h4, Int32.ofInt_toInt] at h3
    have h5 : offs[(x.1.toInt - lo).toNat]? = some (offs.getD (x.1.toInt - lo).toNat 0) := by
      rw [Array.getD_eq_getD_getElem?, Array.getElem?_eq_getElem hj]; rfl
    exact lv_tableIn hxe hb hdg h1 h2 h5 (tgt := xtg x.1 sw a) h3 (hK _ _ _ _ hx H locs ls hwf hl1 hl2 hP hS hL)
set_option maxHeartbeats 1000000 in
theorem xs_look (hq : xmOK q) (cx : xCx D G p s m args meth c q) (hs0 : s.heap.size = Bs + h0.1) (hK : ∀ pc L st h, K pc L st h = some (r, h') → xW l D G Bs p e s m args below meth c q h0 r h' pc L st h)
    (hG : ∀ pc L st h, xgo h (K pc L st h)) (hC : ∀ j as h r1 h1 q1, xmis[j]? = some q1 → C j as h = some (r1, h1) → xwf h → xCon l D G Bs q1 as h r1 h1) (hCG : ∀ j as h, xgo h (C j as h))
    {pc n a b d : Nat} {k : Int32} {sw : List (Int32 × Nat)} {L : xL} {st : List Value} {h : xH} {df : Int} {ps : Array (Int × Int)} (hok : xoki q pc (.lookupswitch df ps, n, a, b, d, k, sw) = true) (hx : xF K C (.lookupswitch df ps, n, a, b, d, k, sw) L st h = some (r, h')) : xW l D G Bs p e s m args below meth c q h0 r h' pc L st h := by
  obtain ⟨hxe, hb, hr, hml, hown, hts, hlk, hin, hKv, hNw⟩ := cx
  simp only [xoki, Bool.and_eq_true, decide_eq_true_eq] at hok
  obtain ⟨⟨⟨hdg, hd⟩, hso⟩, hps⟩ := hok
  obtain ⟨x, e1, hx_⟩ := Option.bind_eq_some_iff.mp hx
  clear hx
  have hx := hx_
  clear hx_
  replace e1 := xpI_inv e1
  subst e1
  rw [xsw_tg] at hx
  intro H locs ls hwf hl1 hl2 hP hS hL
  exact lv_lookup hxe hb hdg hso (off := Op.lookupswitch.offset ps.toList df x.1.toInt) rfl (tgt := xtg x.1 sw a) (by rw [hps]; exact xtg_look hd sw) (hK _ _ _ _ hx H locs ls hwf hl1 hl2 hP hS hL)
set_option maxHeartbeats 1000000 in
theorem xs_getfield (hq : xmOK q) (cx : xCx D G p s m args meth c q) (hs0 : s.heap.size = Bs + h0.1) (hK : ∀ pc L st h, K pc L st h = some (r, h') → xW l D G Bs p e s m args below meth c q h0 r h' pc L st h)
    (hG : ∀ pc L st h, xgo h (K pc L st h)) (hC : ∀ j as h r1 h1 q1, xmis[j]? = some q1 → C j as h = some (r1, h1) → xwf h → xCon l D G Bs q1 as h r1 h1) (hCG : ∀ j as h, xgo h (C j as h))
    {pc n a b d : Nat} {k : Int32} {sw : List (Int32 × Nat)} {L : xL} {st : List Value} {h : xH} {ix : Nat} (hok : xoki q pc (.getfield ix, n, a, b, d, k, sw) = true) (hx : xF K C (.getfield ix, n, a, b, d, k, sw) L st h = some (r, h')) : xW l D G Bs p e s m args below meth c q h0 r h' pc L st h := by
  obtain ⟨hxe, hb, hr, hml, hown, hts, hlk, hin, hKv, hNw⟩ := cx
  simp only [xoki, xdc, Bool.and_eq_true, decide_eq_true_eq] at hok
  obtain ⟨⟨hdg, hn⟩, hfl⟩ := hok
  have hn := Nat.eq_of_beq_eq_true hn
  subst hn
  obtain ⟨x, e1, hx_⟩ := Option.bind_eq_some_iff.mp hx
  clear hx
  have hx := hx_
  clear hx_
  replace e1 := xpA_inv e1
  subst e1
  have hf := xfl_ok _ (List.elem_iff.mp hfl)
  obtain ⟨hc1, hc2, hc3, hc4, -, -⟩ := xcl_at hf.1
  try dsimp only at hf hc1 hc2
  intro H locs ls hwf hl1 hl2 hP hS hL
  try dsimp only at hx
  split at hx
  · obtain ⟨v, e2, hx_⟩ := Option.bind_eq_some_iff.mp hx
    obtain ⟨fs, e3, e4⟩ := Option.bind_eq_some_iff.mp e2
    replace e4 := xvI_inv e4
    have e5 := xobj_inv e3
    have hlt := xlive_o hwf e5 hf.1
    have hv : (fs.map (xcv Bs))[b]? = some (.int v) := by rw [List.getElem?_map, e4]; rfl
    exact va_get hxe hb hts hc2 hown hKv hP x.1 (fs := fs.map (xcv Bs)) (by rw [xws_get hlt, e5]; rfl) hc1 b hf.2.1 (hts _ hf.2.2) (fun _ z => z) hv hdg (hK _ _ _ _ hx_ H locs ls hwf hl1 hl2 hP hS hL)
  · obtain ⟨v, e2, hx_⟩ := Option.bind_eq_some_iff.mp hx
    obtain ⟨fs, e3, e4⟩ := Option.bind_eq_some_iff.mp e2
    replace e4 := xvA_inv e4
    have e5 := xobj_inv e3
    have hlt := xlive_o hwf e5 hf.1
    have hv : (fs.map (xcv Bs))[b]? = some (.ref (Bs + v)) := by rw [List.getElem?_map, e4]; rfl
    exact va_get hxe hb hts hc2 hown hKv hP x.1 (fs := fs.map (xcv Bs)) (by rw [xws_get hlt, e5]; rfl) hc1 b hf.2.1 (hts _ hf.2.2) (fun _ z => z) hv hdg (hK _ _ _ _ hx_ H locs ls hwf hl1 hl2 hP hS hL)
  · obtain ⟨v, e2, hx_⟩ := Option.bind_eq_some_iff.mp hx
    obtain ⟨fs, e3, e4⟩ := Option.bind_eq_some_iff.mp e2
    replace e4 := xvL_inv e4
    have e5 := xobj_inv e3
    have hlt := xlive_o hwf e5 hf.1
    have hv : (fs.map (xcv Bs))[b]? = some (.long v) := by rw [List.getElem?_map, e4]; rfl
    exact va_get hxe hb hts hc2 hown hKv hP x.1 (fs := fs.map (xcv Bs)) (by rw [xws_get hlt, e5]; rfl) hc1 b hf.2.1 (hts _ hf.2.2) (fun _ z => z) hv hdg (hK _ _ _ _ hx_ H locs ls hwf hl1 hl2 hP hS hL)
set_option maxHeartbeats 1000000 in
theorem xs_putfield (hq : xmOK q) (cx : xCx D G p s m args meth c q) (hs0 : s.heap.size = Bs + h0.1) (hK : ∀ pc L st h, K pc L st h = some (r, h') → xW l D G Bs p e s m args below meth c q h0 r h' pc L st h)
    (hG : ∀ pc L st h, xgo h (K pc L st h)) (hC : ∀ j as h r1 h1 q1, xmis[j]? = some q1 → C j as h = some (r1, h1) → xwf h → xCon l D G Bs q1 as h r1 h1) (hCG : ∀ j as h, xgo h (C j as h))
    {pc n a b d : Nat} {k : Int32} {sw : List (Int32 × Nat)} {L : xL} {st : List Value} {h : xH} {ix : Nat} (hok : xoki q pc (.putfield ix, n, a, b, d, k, sw) = true) (hx : xF K C (.putfield ix, n, a, b, d, k, sw) L st h = some (r, h')) : xW l D G Bs p e s m args below meth c q h0 r h' pc L st h := by
  obtain ⟨hxe, hb, hr, hml, hown, hts, hlk, hin, hKv, hNw⟩ := cx
  simp only [xoki, xdc, Bool.and_eq_true, decide_eq_true_eq] at hok
  obtain ⟨⟨⟨⟨hdg, hn⟩, hfl⟩, hty⟩, hfin⟩ := hok
  have hn := Nat.eq_of_beq_eq_true hn
  subst hn
  have hf := xfl_ok _ (List.elem_iff.mp hfl)
  obtain ⟨hc1, hc2, hc3, hc4, -, -⟩ := xcl_at hf.1
  try dsimp only at hf hc1 hc2 hc3 hc4
  have hty := Nat.eq_of_beq_eq_true hty
  simp only [Bool.or_eq_true, Bool.not_eq_true', Bool.and_eq_true] at hfin
  intro H locs ls hwf hl1 hl2 hP hS hL
  unfold xF at hx
  dsimp only at hx
  split at hx
  · obtain ⟨v, e1, hx1⟩ := Option.bind_eq_some_iff.mp hx
    obtain ⟨x, e2, hx2⟩ := Option.bind_eq_some_iff.mp hx1
    obtain ⟨h1, e3, hx3⟩ := Option.bind_eq_some_iff.mp hx2
    clear hx hx1 hx2
    replace e1 := xpI_inv e1
    replace e2 := xpA_inv e2
    rw [e2] at e1
    subst e1
    obtain ⟨fs, e5, hkl, e6⟩ := xpf_inv e3
    subst e6
    have hlt := xlive_o hwf e5 hf.1
    obtain ⟨hn1, hn2⟩ := xfit0 hty v.1
    have hw' : xwf (xup h x.1 (.inr (.inr (a, fs.set b (.int v.1))))) := (xge_up _ (fun _ => hlt) hwf).1
    have he : (xws G Bs h).set x.1 (Bs + x.1, .inr (a, (fs.map (xcv Bs)).set b (.int v.1))) = xws G Bs (xup h x.1 (.inr (.inr (a, fs.set b (.int v.1))))) := by
      rw [← xws_up]
      simp only [xce, List.map_set]
      rfl
    by_cases hfi : (xTc a b).2.2.2 = false
    · exact va_put hxe hb hts hc2 (xYc a) hc3 hc4 hown hKv hP (xws_D G Bs h) hS x.1 (fs := fs.map (xcv Bs)) (by rw [xws_get hlt, e5]; rfl) hc1 b hf.2.1 (hts _ hf.2.2) (fun _ z => z) hfi (hc3 b hf.2.1) hn1 hn2 (by rw [List.length_map]; exact hkl) hdg (fun H1 locs1 hP1 hD1 hS1 => hK _ _ _ _ hx3 H1 locs1 ls hw' hl1 hl2 (by rw [← he]; exact hP1) hS1 hL)
    · have hfi : (xTc a b).2.2.2 = true := by simpa using hfi
      have hfk := hfin.resolve_left (by rw [hfi]; decide)
      have hki := Nat.eq_of_beq_eq_true hfk.1
      have hcn := Nat.eq_of_beq_eq_true hfk.2
      exact va_putF hxe hb hts hc2 (xYc a) hc3 hc4 hown hKv hP (xws_D G Bs h) hS x.1 (fs := fs.map (xcv Bs)) (by rw [xws_get hlt, e5]; rfl) hc1 b hf.2.1 (hts _ hf.2.2) (fun _ z => z) hfi (hin hki) (xTc_own hf.1 hf.2.1 hcn) (hc3 b hf.2.1) hn1 hn2 (by rw [List.length_map]; exact hkl) hdg (fun H1 locs1 hP1 hD1 hS1 => hK _ _ _ _ hx3 H1 locs1 ls hw' hl1 hl2 (by rw [← he]; exact hP1) hS1 hL)
  · obtain ⟨v, e1, hx1⟩ := Option.bind_eq_some_iff.mp hx
    obtain ⟨x, e2, hx2⟩ := Option.bind_eq_some_iff.mp hx1
    obtain ⟨h1, e3, hx3⟩ := Option.bind_eq_some_iff.mp hx2
    clear hx hx1 hx2
    replace e1 := xpA_inv e1
    replace e2 := xpA_inv e2
    rw [e2] at e1
    subst e1
    obtain ⟨fs, e5, hkl, e6⟩ := xpf_inv e3
    subst e6
    have hlt := xlive_o hwf e5 hf.1
    obtain ⟨hn1, hn2⟩ := xfit1 hty (Bs + v.1)
    have hw' : xwf (xup h x.1 (.inr (.inr (a, fs.set b (.ref v.1))))) := (xge_up _ (fun _ => hlt) hwf).1
    have he : (xws G Bs h).set x.1 (Bs + x.1, .inr (a, (fs.map (xcv Bs)).set b (.ref (Bs + v.1)))) = xws G Bs (xup h x.1 (.inr (.inr (a, fs.set b (.ref v.1))))) := by
      rw [← xws_up]
      simp only [xce, List.map_set]
      rfl
    by_cases hfi : (xTc a b).2.2.2 = false
    · exact va_put hxe hb hts hc2 (xYc a) hc3 hc4 hown hKv hP (xws_D G Bs h) hS x.1 (fs := fs.map (xcv Bs)) (by rw [xws_get hlt, e5]; rfl) hc1 b hf.2.1 (hts _ hf.2.2) (fun _ z => z) hfi (hc3 b hf.2.1) hn1 hn2 (by rw [List.length_map]; exact hkl) hdg (fun H1 locs1 hP1 hD1 hS1 => hK _ _ _ _ hx3 H1 locs1 ls hw' hl1 hl2 (by rw [← he]; exact hP1) hS1 hL)
    · have hfi : (xTc a b).2.2.2 = true := by simpa using hfi
      have hfk := hfin.resolve_left (by rw [hfi]; decide)
      have hki := Nat.eq_of_beq_eq_true hfk.1
      have hcn := Nat.eq_of_beq_eq_true hfk.2
      exact va_putF hxe hb hts hc2 (xYc a) hc3 hc4 hown hKv hP (xws_D G Bs h) hS x.1 (fs := fs.map (xcv Bs)) (by rw [xws_get hlt, e5]; rfl) hc1 b hf.2.1 (hts _ hf.2.2) (fun _ z => z) hfi (hin hki) (xTc_own hf.1 hf.2.1 hcn) (hc3 b hf.2.1) hn1 hn2 (by rw [List.length_map]; exact hkl) hdg (fun H1 locs1 hP1 hD1 hS1 => hK _ _ _ _ hx3 H1 locs1 ls hw' hl1 hl2 (by rw [← he]; exact hP1) hS1 hL)
  · next d2 hd0 hd1 =>
    have h9 : xdty (xYc a b) ≠ 9 := xdty9 hf.1 hf.2.1
    obtain ⟨v, e1, hx1⟩ := Option.bind_eq_some_iff.mp hx
    obtain ⟨x, e2, hx2⟩ := Option.bind_eq_some_iff.mp hx1
    obtain ⟨h1, e3, hx3⟩ := Option.bind_eq_some_iff.mp hx2
    clear hx hx1 hx2
    replace e1 := xpL_inv e1
    replace e2 := xpA_inv e2
    rw [e2] at e1
    subst e1
    obtain ⟨fs, e5, hkl, e6⟩ := xpf_inv e3
    subst e6
    have hlt := xlive_o hwf e5 hf.1
    obtain ⟨hn1, hn2⟩ := xfit2 (by rw [hty]; exact hd0) (by rw [hty]; exact hd1) h9 v.1
    have hw' : xwf (xup h x.1 (.inr (.inr (a, fs.set b (.long v.1))))) := (xge_up _ (fun _ => hlt) hwf).1
    have he : (xws G Bs h).set x.1 (Bs + x.1, .inr (a, (fs.map (xcv Bs)).set b (.long v.1))) = xws G Bs (xup h x.1 (.inr (.inr (a, fs.set b (.long v.1))))) := by
      rw [← xws_up]
      simp only [xce, List.map_set]
      rfl
    by_cases hfi : (xTc a b).2.2.2 = false
    · exact va_put hxe hb hts hc2 (xYc a) hc3 hc4 hown hKv hP (xws_D G Bs h) hS x.1 (fs := fs.map (xcv Bs)) (by rw [xws_get hlt, e5]; rfl) hc1 b hf.2.1 (hts _ hf.2.2) (fun _ z => z) hfi (hc3 b hf.2.1) hn1 hn2 (by rw [List.length_map]; exact hkl) hdg (fun H1 locs1 hP1 hD1 hS1 => hK _ _ _ _ hx3 H1 locs1 ls hw' hl1 hl2 (by rw [← he]; exact hP1) hS1 hL)
    · have hfi : (xTc a b).2.2.2 = true := by simpa using hfi
      have hfk := hfin.resolve_left (by rw [hfi]; decide)
      have hki := Nat.eq_of_beq_eq_true hfk.1
      have hcn := Nat.eq_of_beq_eq_true hfk.2
      exact va_putF hxe hb hts hc2 (xYc a) hc3 hc4 hown hKv hP (xws_D G Bs h) hS x.1 (fs := fs.map (xcv Bs)) (by rw [xws_get hlt, e5]; rfl) hc1 b hf.2.1 (hts _ hf.2.2) (fun _ z => z) hfi (hin hki) (xTc_own hf.1 hf.2.1 hcn) (hc3 b hf.2.1) hn1 hn2 (by rw [List.length_map]; exact hkl) hdg (fun H1 locs1 hP1 hD1 hS1 => hK _ _ _ _ hx3 H1 locs1 ls hw' hl1 hl2 (by rw [← he]; exact hP1) hS1 hL)
set_option maxHeartbeats 1000000 in
theorem xs_iaload (hq : xmOK q) (cx : xCx D G p s m args meth c q) (hs0 : s.heap.size = Bs + h0.1) (hK : ∀ pc L st h, K pc L st h = some (r, h') → xW l D G Bs p e s m args below meth c q h0 r h' pc L st h)
    (hG : ∀ pc L st h, xgo h (K pc L st h)) (hC : ∀ j as h r1 h1 q1, xmis[j]? = some q1 → C j as h = some (r1, h1) → xwf h → xCon l D G Bs q1 as h r1 h1) (hCG : ∀ j as h, xgo h (C j as h))
    {pc n a b d : Nat} {k : Int32} {sw : List (Int32 × Nat)} {L : xL} {st : List Value} {h : xH}  (hok : xoki q pc (.iaload, n, a, b, d, k, sw) = true) (hx : xF K C (.iaload, n, a, b, d, k, sw) L st h = some (r, h')) : xW l D G Bs p e s m args below meth c q h0 r h' pc L st h := by
  obtain ⟨hxe, hb, hr, hml, hown, hts, hlk, hin, hKv, hNw⟩ := cx
  simp only [xoki, xdc, Bool.and_eq_true, decide_eq_true_eq] at hok
  obtain ⟨hdg, hn⟩ := hok
  have hn := Nat.eq_of_beq_eq_true hn
  subst hn
  obtain ⟨i, e1, hx_⟩ := Option.bind_eq_some_iff.mp hx
  clear hx
  have hx := hx_
  clear hx_
  replace e1 := xpI_inv e1
  obtain ⟨x, e2, hx_⟩ := Option.bind_eq_some_iff.mp hx
  clear hx
  have hx := hx_
  clear hx_
  replace e2 := xpA_inv e2
  rw [e2] at e1
  subst e1
  obtain ⟨v, e3, hx_⟩ := Option.bind_eq_some_iff.mp hx
  obtain ⟨n1, f, e4, e5, e6⟩ := xri_inv e3
  subst e6
  intro H locs ls hwf hl1 hl2 hP hS hL
  have hlt := xlive_i hwf e4
  exact va_iald hxe hb hKv hP x.1 0 (by rw [xws_get hlt, e4]; rfl) rfl (xin_in e5) hdg (hK _ _ _ _ hx_ H locs ls hwf hl1 hl2 hP hS hL)
set_option maxHeartbeats 1000000 in
theorem xs_baload (hq : xmOK q) (cx : xCx D G p s m args meth c q) (hs0 : s.heap.size = Bs + h0.1) (hK : ∀ pc L st h, K pc L st h = some (r, h') → xW l D G Bs p e s m args below meth c q h0 r h' pc L st h)
    (hG : ∀ pc L st h, xgo h (K pc L st h)) (hC : ∀ j as h r1 h1 q1, xmis[j]? = some q1 → C j as h = some (r1, h1) → xwf h → xCon l D G Bs q1 as h r1 h1) (hCG : ∀ j as h, xgo h (C j as h))
    {pc n a b d : Nat} {k : Int32} {sw : List (Int32 × Nat)} {L : xL} {st : List Value} {h : xH}  (hok : xoki q pc (.baload, n, a, b, d, k, sw) = true) (hx : xF K C (.baload, n, a, b, d, k, sw) L st h = some (r, h')) : xW l D G Bs p e s m args below meth c q h0 r h' pc L st h := by
  obtain ⟨hxe, hb, hr, hml, hown, hts, hlk, hin, hKv, hNw⟩ := cx
  simp only [xoki, xdc, Bool.and_eq_true, decide_eq_true_eq] at hok
  obtain ⟨hdg, hn⟩ := hok
  have hn := Nat.eq_of_beq_eq_true hn
  subst hn
  obtain ⟨i, e1, hx_⟩ := Option.bind_eq_some_iff.mp hx
  clear hx
  have hx := hx_
  clear hx_
  replace e1 := xpI_inv e1
  obtain ⟨x, e2, hx_⟩ := Option.bind_eq_some_iff.mp hx
  clear hx
  have hx := hx_
  clear hx_
  replace e2 := xpA_inv e2
  rw [e2] at e1
  subst e1
  obtain ⟨v, e3, hx_⟩ := Option.bind_eq_some_iff.mp hx
  obtain ⟨n1, f, e4, e5, e6⟩ := xri_inv e3
  subst e6
  intro H locs ls hwf hl1 hl2 hP hS hL
  have hlt := xlive_i hwf e4
  exact va_zald hxe hb hKv hP x.1 1 (by rw [xws_get hlt, e4]; rfl) rfl (xin_in e5) hdg (hK _ _ _ _ hx_ H locs ls hwf hl1 hl2 hP hS hL)
set_option maxHeartbeats 1000000 in
theorem xs_iastore (hq : xmOK q) (cx : xCx D G p s m args meth c q) (hs0 : s.heap.size = Bs + h0.1) (hK : ∀ pc L st h, K pc L st h = some (r, h') → xW l D G Bs p e s m args below meth c q h0 r h' pc L st h)
    (hG : ∀ pc L st h, xgo h (K pc L st h)) (hC : ∀ j as h r1 h1 q1, xmis[j]? = some q1 → C j as h = some (r1, h1) → xwf h → xCon l D G Bs q1 as h r1 h1) (hCG : ∀ j as h, xgo h (C j as h))
    {pc n a b d : Nat} {k : Int32} {sw : List (Int32 × Nat)} {L : xL} {st : List Value} {h : xH}  (hok : xoki q pc (.iastore, n, a, b, d, k, sw) = true) (hx : xF K C (.iastore, n, a, b, d, k, sw) L st h = some (r, h')) : xW l D G Bs p e s m args below meth c q h0 r h' pc L st h := by
  obtain ⟨hxe, hb, hr, hml, hown, hts, hlk, hin, hKv, hNw⟩ := cx
  simp only [xoki, xdc, Bool.and_eq_true, decide_eq_true_eq] at hok
  obtain ⟨hdg, hn⟩ := hok
  have hn := Nat.eq_of_beq_eq_true hn
  subst hn
  obtain ⟨v, e0, hx_⟩ := Option.bind_eq_some_iff.mp hx
  clear hx
  have hx := hx_
  clear hx_
  replace e0 := xpI_inv e0
  obtain ⟨i, e1, hx_⟩ := Option.bind_eq_some_iff.mp hx
  clear hx
  have hx := hx_
  clear hx_
  replace e1 := xpI_inv e1
  obtain ⟨x, e2, hx_⟩ := Option.bind_eq_some_iff.mp hx
  clear hx
  have hx := hx_
  clear hx_
  replace e2 := xpA_inv e2
  rw [e2] at e1
  rw [e1] at e0
  subst e0
  obtain ⟨h1, e3, hx_⟩ := Option.bind_eq_some_iff.mp hx
  obtain ⟨n1, f, e4, e5, e6⟩ := xwi_inv e3
  subst e6
  intro H locs ls hwf hl1 hl2 hP hS hL
  have hlt := xlive_i hwf e4
  have hw' : xwf (xup h x.1 (.inl (0, n1, upd f i.1.toNatClampNeg v.1))) := (xge_up _ (fun _ => hlt) hwf).1
  have he : (xws G Bs h).set x.1 (Bs + x.1, .inl (G.1, n1, .inl (upd f i.1.toNatClampNeg v.1))) = xws G Bs (xup h x.1 (.inl (0, n1, upd f i.1.toNatClampNeg v.1))) := by
    rw [← xws_up]
    rfl
  exact va_iast hxe hb hKv hP (xws_D G Bs h) hS x.1 0 (by rw [xws_get hlt, e4]; rfl) rfl (xin_in e5) hdg (fun H1 locs1 hP1 hD1 hS1 => hK _ _ _ _ hx_ H1 locs1 ls hw' hl1 hl2 (by rw [he] at hP1; exact hP1) hS1 hL)
set_option maxHeartbeats 1000000 in
theorem xs_bastore (hq : xmOK q) (cx : xCx D G p s m args meth c q) (hs0 : s.heap.size = Bs + h0.1) (hK : ∀ pc L st h, K pc L st h = some (r, h') → xW l D G Bs p e s m args below meth c q h0 r h' pc L st h)
    (hG : ∀ pc L st h, xgo h (K pc L st h)) (hC : ∀ j as h r1 h1 q1, xmis[j]? = some q1 → C j as h = some (r1, h1) → xwf h → xCon l D G Bs q1 as h r1 h1) (hCG : ∀ j as h, xgo h (C j as h))
    {pc n a b d : Nat} {k : Int32} {sw : List (Int32 × Nat)} {L : xL} {st : List Value} {h : xH}  (hok : xoki q pc (.bastore, n, a, b, d, k, sw) = true) (hx : xF K C (.bastore, n, a, b, d, k, sw) L st h = some (r, h')) : xW l D G Bs p e s m args below meth c q h0 r h' pc L st h := by
  obtain ⟨hxe, hb, hr, hml, hown, hts, hlk, hin, hKv, hNw⟩ := cx
  simp only [xoki, xdc, Bool.and_eq_true, decide_eq_true_eq] at hok
  obtain ⟨hdg, hn⟩ := hok
  have hn := Nat.eq_of_beq_eq_true hn
  subst hn
  obtain ⟨v, e0, hx_⟩ := Option.bind_eq_some_iff.mp hx
  clear hx
  have hx := hx_
  clear hx_
  replace e0 := xpI_inv e0
  obtain ⟨i, e1, hx_⟩ := Option.bind_eq_some_iff.mp hx
  clear hx
  have hx := hx_
  clear hx_
  replace e1 := xpI_inv e1
  obtain ⟨x, e2, hx_⟩ := Option.bind_eq_some_iff.mp hx
  clear hx
  have hx := hx_
  clear hx_
  replace e2 := xpA_inv e2
  rw [e2] at e1
  rw [e1] at e0
  subst e0
  obtain ⟨hc, hx_⟩ := xcond_k hx
  clear hx
  have hx := hx_
  clear hx_
  obtain ⟨h1, e3, hx_⟩ := Option.bind_eq_some_iff.mp hx
  obtain ⟨n1, f, e4, e5, e6⟩ := xwi_inv e3
  subst e6
  intro H locs ls hwf hl1 hl2 hP hS hL
  have hlt := xlive_i hwf e4
  have hw' : xwf (xup h x.1 (.inl (1, n1, upd f i.1.toNatClampNeg v.1))) := (xge_up _ (fun _ => hlt) hwf).1
  have he : (xws G Bs h).set x.1 (Bs + x.1, .inl (G.2.1, n1, .inl (upd f i.1.toNatClampNeg v.1))) = xws G Bs (xup h x.1 (.inl (1, n1, upd f i.1.toNatClampNeg v.1))) := by
    rw [← xws_up]
    rfl
  exact va_zast hxe hb hKv hP (xws_D G Bs h) hS x.1 1 (by rw [xws_get hlt, e4]; rfl) rfl (xin_in e5) hdg (fun H1 locs1 hP1 hD1 hS1 => hK _ _ _ _ hx_ H1 locs1 ls hw' hl1 hl2 (by rw [(xbz_nar hc).1] at hP1; rw [he] at hP1; exact hP1) hS1 hL)
set_option maxHeartbeats 1000000 in
theorem xs_aaload (hq : xmOK q) (cx : xCx D G p s m args meth c q) (hs0 : s.heap.size = Bs + h0.1) (hK : ∀ pc L st h, K pc L st h = some (r, h') → xW l D G Bs p e s m args below meth c q h0 r h' pc L st h)
    (hG : ∀ pc L st h, xgo h (K pc L st h)) (hC : ∀ j as h r1 h1 q1, xmis[j]? = some q1 → C j as h = some (r1, h1) → xwf h → xCon l D G Bs q1 as h r1 h1) (hCG : ∀ j as h, xgo h (C j as h))
    {pc n a b d : Nat} {k : Int32} {sw : List (Int32 × Nat)} {L : xL} {st : List Value} {h : xH}  (hok : xoki q pc (.aaload, n, a, b, d, k, sw) = true) (hx : xF K C (.aaload, n, a, b, d, k, sw) L st h = some (r, h')) : xW l D G Bs p e s m args below meth c q h0 r h' pc L st h := by
  obtain ⟨hxe, hb, hr, hml, hown, hts, hlk, hin, hKv, hNw⟩ := cx
  simp only [xoki, xdc, Bool.and_eq_true, decide_eq_true_eq] at hok
  obtain ⟨hdg, hn⟩ := hok
  have hn := Nat.eq_of_beq_eq_true hn
  subst hn
  obtain ⟨i, e1, hx_⟩ := Option.bind_eq_some_iff.mp hx
  clear hx
  have hx := hx_
  clear hx_
  replace e1 := xpI_inv e1
  obtain ⟨x, e2, hx_⟩ := Option.bind_eq_some_iff.mp hx
  clear hx
  have hx := hx_
  clear hx_
  replace e2 := xpA_inv e2
  rw [e2] at e1
  subst e1
  obtain ⟨v, e3, hx_⟩ := Option.bind_eq_some_iff.mp hx
  obtain ⟨n1, f, e4, e5, e6⟩ := xrr_inv e3
  intro H locs ls hwf hl1 hl2 hP hS hL
  have hlt := xlive_r hwf e4
  refine va_aldq hxe hb hKv hP x.1 2 (by rw [xws_get hlt, e4]; rfl) rfl (xin_in e5) hdg ?_
  have hv : va_rf ((fun j => (f j).map (fun a => Bs + a)) i.1.toNatClampNeg) = .ref (Bs + v) := by
    dsimp only
    rw [e6]; rfl
  rw [hv]
  exact hK _ _ _ _ hx_ H locs ls hwf hl1 hl2 hP hS hL
set_option maxHeartbeats 1000000 in
theorem xs_aastore (hq : xmOK q) (cx : xCx D G p s m args meth c q) (hs0 : s.heap.size = Bs + h0.1) (hK : ∀ pc L st h, K pc L st h = some (r, h') → xW l D G Bs p e s m args below meth c q h0 r h' pc L st h)
    (hG : ∀ pc L st h, xgo h (K pc L st h)) (hC : ∀ j as h r1 h1 q1, xmis[j]? = some q1 → C j as h = some (r1, h1) → xwf h → xCon l D G Bs q1 as h r1 h1) (hCG : ∀ j as h, xgo h (C j as h))
    {pc n a b d : Nat} {k : Int32} {sw : List (Int32 × Nat)} {L : xL} {st : List Value} {h : xH}  (hok : xoki q pc (.aastore, n, a, b, d, k, sw) = true) (hx : xF K C (.aastore, n, a, b, d, k, sw) L st h = some (r, h')) : xW l D G Bs p e s m args below meth c q h0 r h' pc L st h := by
  obtain ⟨hxe, hb, hr, hml, hown, hts, hlk, hin, hKv, hNw⟩ := cx
  simp only [xoki, xdc, Bool.and_eq_true, decide_eq_true_eq] at hok
  obtain ⟨hdg, hn⟩ := hok
  have hn := Nat.eq_of_beq_eq_true hn
  subst hn
  obtain ⟨v, e0, hx_⟩ := Option.bind_eq_some_iff.mp hx
  clear hx
  have hx := hx_
  clear hx_
  replace e0 := xpA_inv e0
  obtain ⟨i, e1, hx_⟩ := Option.bind_eq_some_iff.mp hx
  clear hx
  have hx := hx_
  clear hx_
  replace e1 := xpI_inv e1
  obtain ⟨x, e2, hx_⟩ := Option.bind_eq_some_iff.mp hx
  clear hx
  have hx := hx_
  clear hx_
  replace e2 := xpA_inv e2
  rw [e2] at e1
  rw [e1] at e0
  subst e0
  obtain ⟨h1, e3, hx_⟩ := Option.bind_eq_some_iff.mp hx
  obtain ⟨n1, f, fs, e4, e7, e5, e6⟩ := xwr_inv e3
  subst e6
  intro H locs ls hwf hl1 hl2 hP hS hL
  have hlt := xlive_r hwf e4
  have hltv := xlive_o hwf e7 (by decide)
  have hw' : xwf (xup h x.1 (.inr (.inl (n1, va_up f i.1.toNatClampNeg (some v.1))))) := (xge_up _ (fun _ => hlt) hwf).1
  have hf : (fun j => ((va_up f i.1.toNatClampNeg (some v.1)) j).map (fun a => Bs + a)) = va_up (fun j => (f j).map (fun a => Bs + a)) i.1.toNatClampNeg (some (Bs + v.1)) := by
    funext j
    unfold va_up
    split
    · rfl
    · rfl
  have he : (xws G Bs h).set x.1 (Bs + x.1, .inl (G.2.2, n1, .inr (.inr (.inr (.inr (va_up (fun j => (f j).map (fun a => Bs + a)) i.1.toNatClampNeg (some (Bs + v.1)))))))) = xws G Bs (xup h x.1 (.inr (.inl (n1, va_up f i.1.toNatClampNeg (some v.1))))) := by
    rw [← xws_up, ← hf]
    rfl
  exact va_astq hxe hb hKv hP (xws_D G Bs h) hS x.1 2 v.1 2 (r := (RX3, TX3, 5)) (by rw [xws_get hlt, e4]; rfl) rfl (by rw [xws_get hltv, e7]; rfl) rfl (xin_in e5) hdg (fun H1 locs1 hP1 hD1 hS1 => hK _ _ _ _ hx_ H1 locs1 ls hw' hl1 hl2 (by rw [he] at hP1; exact hP1) hS1 hL)
set_option maxHeartbeats 1000000 in
theorem xs_ireturn (hq : xmOK q) (cx : xCx D G p s m args meth c q) (hs0 : s.heap.size = Bs + h0.1) (hK : ∀ pc L st h, K pc L st h = some (r, h') → xW l D G Bs p e s m args below meth c q h0 r h' pc L st h)
    (hG : ∀ pc L st h, xgo h (K pc L st h)) (hC : ∀ j as h r1 h1 q1, xmis[j]? = some q1 → C j as h = some (r1, h1) → xwf h → xCon l D G Bs q1 as h r1 h1) (hCG : ∀ j as h, xgo h (C j as h))
    {pc n a b d : Nat} {k : Int32} {sw : List (Int32 × Nat)} {L : xL} {st : List Value} {h : xH}  (hok : xoki q pc (.ireturn, n, a, b, d, k, sw) = true) (hx : xF K C (.ireturn, n, a, b, d, k, sw) L st h = some (r, h')) : xW l D G Bs p e s m args below meth c q h0 r h' pc L st h := by
  obtain ⟨hxe, hb, hr, hml, hown, hts, hlk, hin, hKv, hNw⟩ := cx
  simp only [xoki, xdc, Bool.and_eq_true, decide_eq_true_eq] at hok
  obtain ⟨⟨hdg, hn⟩, hrt⟩ := hok
  obtain ⟨x, e1, hx_⟩ := Option.bind_eq_some_iff.mp hx
  clear hx
  have hx := hx_
  clear hx_
  replace e1 := xpI_inv e1
  obtain ⟨hc, hx_⟩ := xcond_some hx
  clear hx
  rw [Bool.and_eq_true] at hc
  have e2 := xnilE hc.1
  rw [e2] at e1
  subst e1
  cases hx_
  intro H locs ls hwf hl1 hl2 hP hS hL
  have hq1 : ∀ t : State, t.heap = H → s.WarmedH t.vm → xQc D G Bs (some (.int x.1)) h' args s (.returned (some (.int x.1))) t := fun t ht hW => ⟨rfl, by rw [ht]; exact hP, hS.F ht⟩
  simp only [Bool.or_eq_true, Bool.and_eq_true, decide_eq_true_eq] at hrt
  rcases hrt with ⟨-, hrt⟩ | ⟨ha, hrt⟩
  · exact W.iret hxe hb (hr.trans hrt) hq1 hS.2.2 hdg hlk
  · have hbz : xbz x.1 = true := by
      have hc2 := hc.2
      rw [Nat.eq_of_beq_eq_true ha] at hc2
      simpa using hc2
    exact W.zret hxe hb (hr.trans hrt) (xbz_nar hbz).2 hq1 hS.2.2 hdg hlk
set_option maxHeartbeats 1000000 in
theorem xs_lreturn (hq : xmOK q) (cx : xCx D G p s m args meth c q) (hs0 : s.heap.size = Bs + h0.1) (hK : ∀ pc L st h, K pc L st h = some (r, h') → xW l D G Bs p e s m args below meth c q h0 r h' pc L st h)
    (hG : ∀ pc L st h, xgo h (K pc L st h)) (hC : ∀ j as h r1 h1 q1, xmis[j]? = some q1 → C j as h = some (r1, h1) → xwf h → xCon l D G Bs q1 as h r1 h1) (hCG : ∀ j as h, xgo h (C j as h))
    {pc n a b d : Nat} {k : Int32} {sw : List (Int32 × Nat)} {L : xL} {st : List Value} {h : xH}  (hok : xoki q pc (.lreturn, n, a, b, d, k, sw) = true) (hx : xF K C (.lreturn, n, a, b, d, k, sw) L st h = some (r, h')) : xW l D G Bs p e s m args below meth c q h0 r h' pc L st h := by
  obtain ⟨hxe, hb, hr, hml, hown, hts, hlk, hin, hKv, hNw⟩ := cx
  simp only [xoki, xdc, Bool.and_eq_true, decide_eq_true_eq] at hok
  obtain ⟨⟨hdg, hn⟩, hrt⟩ := hok
  obtain ⟨x, e1, hx_⟩ := Option.bind_eq_some_iff.mp hx
  clear hx
  have hx := hx_
  clear hx_
  replace e1 := xpL_inv e1
  obtain ⟨hc, hx_⟩ := xcond_some hx
  clear hx
  have e2 := xnilE hc
  rw [e2] at e1
  subst e1
  cases hx_
  intro H locs ls hwf hl1 hl2 hP hS hL
  exact W.lret hxe hb (hr.trans hrt) (fun t ht hW => ⟨rfl, by rw [ht]; exact hP, hS.F ht⟩) hS.2.2 hdg hlk
set_option maxHeartbeats 1000000 in
theorem xs_return (hq : xmOK q) (cx : xCx D G p s m args meth c q) (hs0 : s.heap.size = Bs + h0.1) (hK : ∀ pc L st h, K pc L st h = some (r, h') → xW l D G Bs p e s m args below meth c q h0 r h' pc L st h)
    (hG : ∀ pc L st h, xgo h (K pc L st h)) (hC : ∀ j as h r1 h1 q1, xmis[j]? = some q1 → C j as h = some (r1, h1) → xwf h → xCon l D G Bs q1 as h r1 h1) (hCG : ∀ j as h, xgo h (C j as h))
    {pc n a b d : Nat} {k : Int32} {sw : List (Int32 × Nat)} {L : xL} {st : List Value} {h : xH}  (hok : xoki q pc (.return_, n, a, b, d, k, sw) = true) (hx : xF K C (.return_, n, a, b, d, k, sw) L st h = some (r, h')) : xW l D G Bs p e s m args below meth c q h0 r h' pc L st h := by
  obtain ⟨hxe, hb, hr, hml, hown, hts, hlk, hin, hKv, hNw⟩ := cx
  simp only [xoki, xdc, Bool.and_eq_true, decide_eq_true_eq] at hok
  obtain ⟨⟨hdg, hn⟩, hrt⟩ := hok
  obtain ⟨hc, hx_⟩ := xcond_some hx
  clear hx
  have e2 := xnilE hc
  subst e2
  cases hx_
  intro H locs ls hwf hl1 hl2 hP hS hL
  exact W.vret hxe hb (hr.trans hrt) (fun t ht hW => ⟨rfl, by rw [ht]; exact hP, hS.F ht⟩) hS.2.2 hdg hlk
end SND
