theorem xdef_cv (Bs : Nat) : ∀ a, a < 6 → (xdef a).map (xcv Bs) = xdef a
  | 0, _ => rfl
  | 1, _ => rfl
  | 2, _ => rfl
  | 3, _ => rfl
  | 4, _ => rfl
  | 5, _ => rfl
  | a + 6, h => absurd h (by omega)
theorem xdef_ok {a j : Nat} (ha : a < 6) (hj : j < xNc a) : defaultValue (xYc a j) = vp_V (xdef a) j := by
  have h : ∀ a, a < 6 → ∀ j, j < xNc a → defaultValue (xYc a j) = vp_V (xdef a) j := by decide +kernel
  exact h a ha j hj
theorem xcnm_R : ∀ {ci : Nat}, ci < 6 → xcnm (ci + 1) = xRc ci
  | 0, _ => rfl
  | 1, _ => rfl
  | 2, _ => rfl
  | 3, _ => rfl
  | 4, _ => rfl
  | 5, _ => rfl
  | a + 6, h => absurd h (by omega)
theorem xin_lt {i : Int32} {n : Nat} (h : xin i n = true) : ¬ i < 0 ∧ i.toNatClampNeg < n := by
  unfold xin at h
  simp only [Bool.and_eq_true, Bool.not_eq_true', decide_eq_false_iff_not] at h
  exact ⟨h.1, Nat.le_of_ble_eq_true h.2⟩
theorem xret_inv {d : Nat} {x : Option xR} {rest : List Value} {K : List Value → xH → Option xR} {y : xR} (h : xret d x rest K = some y) : ∃ r1 h1, x = some (r1, h1) ∧ K (r1.toList ++ rest) h1 = some y := by
  unfold xret xcV xcI xcL at h
  split at h
  · obtain ⟨⟨r1, h1⟩, e1, e2⟩ := Option.bind_eq_some_iff.mp h
    cases r1 with
    | none => exact ⟨none, h1, e1, e2⟩
    | some v => cases e2
  · obtain ⟨⟨r1, h1⟩, e1, e2⟩ := Option.bind_eq_some_iff.mp h
    obtain ⟨v, e3, e4⟩ := Option.bind_eq_some_iff.mp e2
    have e5 : r1 = some (.int v) := xvI_inv e3
    subst e5
    exact ⟨_, h1, e1, e4⟩
  · obtain ⟨⟨r1, h1⟩, e1, e2⟩ := Option.bind_eq_some_iff.mp h
    obtain ⟨v, e3, e4⟩ := Option.bind_eq_some_iff.mp e2
    have e5 : r1 = some (.long v) := xvL_inv e3
    subst e5
    exact ⟨_, h1, e1, e4⟩
  · cases h
theorem xcr_inv {q : xMI} {a b k : Nat} (h : xcr q a b k = true) : ∃ q1, xmis[a]? = some q1 ∧ q1.2.2.2.2.2.1 = k ∧ q1.2.2.2.2.2.2.1 = b ∧ q1.2.2.2.2.2.2.2.1 + 1 ≤ q.2.2.2.2.2.2.2.1 ∧ 8 + (q1.2.2.2.1 + 11) + q1.2.2.2.2.2.2.2.2 ≤ q.2.2.2.2.2.2.2.2 := by
  unfold xcr at h
  split at h
  · next r hr =>
    simp only [Bool.and_eq_true] at h
    obtain ⟨⟨⟨h1, h2⟩, h3⟩, h4⟩ := h
    exact ⟨r, hr, Nat.eq_of_beq_eq_true h1, Nat.eq_of_beq_eq_true h2, Nat.le_of_ble_eq_true h3, Nat.le_of_ble_eq_true h4⟩
  · cases h
theorem xrecv_inv {h : xH} {as : List Value} {sw : List (Int32 × Nat)} {fs : List Value} (e : xrecv h as sw = some fs) : ∃ x as' p r, as = .ref x :: as' ∧ sw = p :: r ∧ h.2.2 x = .inr (.inr (p.2, fs)) := by
  unfold xrecv at e
  split at e
  · next x as' p r => exact ⟨x, as', p, r, rfl, rfl, xobj_inv e⟩
  · cases e
theorem x_hsize {s : State} {H : Heap} {locs : List Loc} {D : va_G} {G : xG} {Bs : Nat} {h : xH} {h0 : Nat × Nat} (hz : H.size ≤ s.heap.size + (h.1 - h0.1)) (hs0 : s.heap.size = Bs + h0.1) (hl1 : h0.1 ≤ h.1) (hP : va_P D vwCl (xws G Bs h) H) (hS : va_S (fun a => Bs ≤ a) s.heap H locs) : H.size = Bs + h.1 := by
  have h1 := hS.1
  rcases Nat.eq_zero_or_pos h.1 with h2 | h2
  · omega
  · have h3 := (hP (h.1 - 1) _ (xws_get (by omega))).lt
    have h4 : Bs + (h.1 - 1) < H.size := h3
    omega
theorem xyo_eq {a : Nat} {q1 : xMI} (h : xmis[a]? = some q1) : xyo a = q1.2.1 := by
  unfold xyo
  rw [h]
  rfl
theorem xccn_eq {a : Nat} {q1 : xMI} (h : xmis[a]? = some q1) : xccn a = q1.1 := by
  unfold xccn
  rw [h]
  rfl
theorem xok_sw {sw : List (Int32 × Nat)} {a : Nat} (h : (match sw with
    | [p] => Nat.beq (p.2 + 1) (xccn a) && Nat.blt p.2 6
    | _ => false) = true) : ∃ p : Int32 × Nat, sw = [p] ∧ p.2 + 1 = xccn a ∧ p.2 < 6 := by
  split at h
  · next p1 =>
    rw [Bool.and_eq_true] at h
    exact ⟨p1, rfl, Nat.eq_of_beq_eq_true h.1, Nat.le_of_ble_eq_true h.2⟩
  · cases h
theorem xok_virtual {q : xMI} {pc n a b d ix : Nat} {k : Int32} {sw : List (Int32 × Nat)} (hok : xoki q pc (.invokevirtual ix, n, a, b, d, k, sw) = true) : xdc q.2.2.1 pc (.invokevirtual ix) 3 n = true ∧ xml.elem (q.1, ix, a) = true ∧ xcr q a b 1 = true ∧ ∃ p : Int32 × Nat, sw = [p] ∧ p.2 + 1 = xccn a ∧ p.2 < 6 := by
  unfold xoki at hok
  dsimp only at hok
  rw [Bool.and_eq_true, Bool.and_eq_true, Bool.and_eq_true] at hok
  exact ⟨hok.1.1.1, hok.1.1.2, hok.1.2, xok_sw hok.2⟩
theorem xok_special {q : xMI} {pc n a b d ix : Nat} {k : Int32} {sw : List (Int32 × Nat)} (hd : d ≠ 6) (hok : xoki q pc (.invokespecial ix, n, a, b, d, k, sw) = true) : xdc q.2.2.1 pc (.invokespecial ix) 3 n = true ∧ (xml.elem (q.1, ix, a) = true ∨ xmn.elem (q.1, ix, a) = true) ∧ xcr q a b 2 = true ∧ ∃ p : Int32 × Nat, sw = [p] ∧ p.2 + 1 = xccn a ∧ p.2 < 6 := by
  unfold xoki at hok
  dsimp only at hok
  split at hok
  · exact absurd rfl hd
  · rw [Bool.and_eq_true, Bool.and_eq_true, Bool.and_eq_true, Bool.or_eq_true] at hok
    exact ⟨hok.1, hok.2.1.1, hok.2.1.2, xok_sw hok.2.2⟩
section SND
variable {l : Launch} {D : va_G} {G : xG} {Bs : Nat} {p : Program} {e : Env} {s : State} {m : MethodId} {args : Array Value} {below : List Frame} {meth : Method} {c : Code}
variable {q : xMI} {h0 : Nat × Nat} {r : Option Value} {h' : xH} {K : Nat → xL → List Value → xH → Option xR} {C : Nat → List Value → xH → Option xR}
set_option maxHeartbeats 1000000 in
theorem xs_new (hq : xmOK q) (cx : xCx D G p s m args meth c q) (hs0 : s.heap.size = Bs + h0.1) (hK : ∀ pc L st h, K pc L st h = some (r, h') → xW l D G Bs p e s m args below meth c q h0 r h' pc L st h)
    (hG : ∀ pc L st h, xgo h (K pc L st h)) (hC : ∀ j as h r1 h1 q1, xmis[j]? = some q1 → C j as h = some (r1, h1) → xwf h → xCon l D G Bs q1 as h r1 h1) (hCG : ∀ j as h, xgo h (C j as h))
    {pc n a b d : Nat} {k : Int32} {sw : List (Int32 × Nat)} {L : xL} {st : List Value} {h : xH} {ix : Nat}  (hok : xoki q pc (.new ix, n, a, b, d, k, sw) = true) (hx : xF K C (.new ix, n, a, b, d, k, sw) L st h = some (r, h')) : xW l D G Bs p e s m args below meth c q h0 r h' pc L st h := by
  obtain ⟨hxe, hb, hr, hml, hown, hts, hlk, hin, hKv, hNw⟩ := cx
  simp only [xoki, xdc, Bool.and_eq_true, decide_eq_true_eq] at hok
  obtain ⟨⟨⟨⟨hdg, hn⟩, hkl⟩, ha⟩, hb2⟩ := hok
  have hn := Nat.eq_of_beq_eq_true hn
  subst hn
  have hb2 := Nat.eq_of_beq_eq_true hb2
  have ha : a < 6 := Nat.le_of_ble_eq_true ha
  obtain ⟨hc1, hc2, hc3, hc4, hc5, hc6⟩ := xcl_at ha
  have hx : K _ L (.ref h.1 :: st) (xnw h (.inr (.inr (a, xdef a))) b) = some (r, h') := hx
  intro H locs ls hwf hl1 hl2 hP hS hL
  obtain ⟨hw1, g1, g2⟩ := xge_nw (.inr (.inr (a, xdef a))) (b) hwf
  obtain ⟨-, g3, g4⟩ := hG _ _ _ _ r h' hx hw1
  have g5 : h.1 + 1 ≤ h'.1 := g3
  have g6 : h.2.1 + b ≤ h'.2.1 := g4
  have hA : ∀ z : Nat, s.heap.size ≤ z → Bs ≤ z := fun z hz => by omega
  have hcl : (h.1 - h0.1) + 1 ≤ h'.1 - h0.1 := by omega
  have hsl : (h.2.1 - h0.2) + b ≤ h'.2.1 - h0.2 := by omega
  subst hb2
  refine va_new (ci := a) (fs := (xdef a).map (xcv Bs)) hxe hb hts hc2 (xYc a) hc3 hown (hts _ (xkl_ok _ (List.elem_iff.mp hkl))) (hts _ hc5) (hts _ hc6) hKv hP (xws_D G Bs h) hS hA hc1 (fun j hj => by rw [xdef_cv Bs a ha]; exact xdef_ok ha hj) hcl hsl hdg (fun q1 H1 hP1 hD1 hS1 => ?_)
  refine x_size fun hz => ?_
  have hqe : q1 = Bs + h.1 := x_new (z := 0) (by omega) hP1 hD1
  subst hqe
  refine W.cs (cells' := (h.1 + 1) - h0.1) (slots' := (h.2.1 + xNc a) - h0.2) (by omega) (by omega) ?_
  exact hK _ _ _ _ hx H1 locs ls hw1 (by show h0.1 ≤ h.1 + 1; omega) (by show h0.2 ≤ h.2.1 + xNc a; omega) (by rw [xws_nw]; exact hP1) hS1 hL
set_option maxHeartbeats 1000000 in
theorem xs_newarray (hq : xmOK q) (cx : xCx D G p s m args meth c q) (hs0 : s.heap.size = Bs + h0.1) (hK : ∀ pc L st h, K pc L st h = some (r, h') → xW l D G Bs p e s m args below meth c q h0 r h' pc L st h)
    (hG : ∀ pc L st h, xgo h (K pc L st h)) (hC : ∀ j as h r1 h1 q1, xmis[j]? = some q1 → C j as h = some (r1, h1) → xwf h → xCon l D G Bs q1 as h r1 h1) (hCG : ∀ j as h, xgo h (C j as h))
    {pc n a b d : Nat} {k : Int32} {sw : List (Int32 × Nat)} {L : xL} {st : List Value} {h : xH} {t : ArrayType}  (hok : xoki q pc (.newarray t, n, a, b, d, k, sw) = true) (hx : xF K C (.newarray t, n, a, b, d, k, sw) L st h = some (r, h')) : xW l D G Bs p e s m args below meth c q h0 r h' pc L st h := by
  obtain ⟨hxe, hb, hr, hml, hown, hts, hlk, hin, hKv, hNw⟩ := cx
  simp only [xoki, xdc, Bool.and_eq_true, Bool.or_eq_true, decide_eq_true_eq] at hok
  obtain ⟨⟨hdg, hn⟩, hat⟩ := hok
  have hn := Nat.eq_of_beq_eq_true hn
  subst hn
  obtain ⟨x, e1, hx_⟩ := Option.bind_eq_some_iff.mp hx
  clear hx
  have hx := hx_
  clear hx_
  replace e1 := xpI_inv e1
  subst e1
  obtain ⟨hc, hx_⟩ := xcond_k hx
  clear hx
  have hx := hx_
  clear hx_
  have hlt := xin_lt hc
  intro H locs ls hwf hl1 hl2 hP hS hL
  rcases hat with ⟨ha, rfl⟩ | ⟨ha, rfl⟩
  · have ha := Nat.eq_of_beq_eq_true ha
    subst ha
    have hx : K _ L (.ref h.1 :: x.2) (xnw h (.inl (0, x.1.toNatClampNeg, fun _ => 0)) x.1.toNatClampNeg) = some (r, h') := hx
    obtain ⟨hw1, g1, g2⟩ := xge_nw (.inl (0, x.1.toNatClampNeg, fun _ => 0)) (x.1.toNatClampNeg) hwf
    obtain ⟨-, g3, g4⟩ := hG _ _ _ _ r h' hx hw1
    have g5 : h.1 + 1 ≤ h'.1 := g3
    have g6 : h.2.1 + x.1.toNatClampNeg ≤ h'.2.1 := g4
    have hA : ∀ z : Nat, s.heap.size ≤ z → Bs ≤ z := fun z hz => by omega
    have hcl : (h.1 - h0.1) + 1 ≤ h'.1 - h0.1 := by omega
    have hsl : (h.2.1 - h0.2) + x.1.toNatClampNeg ≤ h'.2.1 - h0.2 := by omega
    refine va_newa (atype := .int) (ty := .int) (a0 := (x.1.toNatClampNeg, .inl (fun _ => 0))) hxe hb (hts _ xac_int) rfl hKv hP (xws_D G Bs h) hS hA (fun cA => rfl) hlt.1 rfl (by show x.1.toNatClampNeg * 4 ≤ 536870912; omega) hcl hsl hdg (fun q1 cA H1 hK1 hP1 hD1 hS1 => ?_)
    have hcA : cA = G.1 := by
      have z1 : s.vm.findClass ("[" ++ (FieldType.int).toString) = some cA := (hK1.2 3 (cA, .int) rfl).2
      have z2 : s.vm.findClass ("[" ++ (FieldType.int).toString) = some (G.1) := (hKv.2 0 (G.1, .int) rfl).2
      exact Option.some.inj (z1.symm.trans z2)
    subst hcA
    refine x_size fun hz => ?_
    have hqe : q1 = Bs + h.1 := x_new (z := 0) (by omega) hP1 hD1
    subst hqe
    refine W.cs (cells' := (h.1 + 1) - h0.1) (slots' := (h.2.1 + x.1.toNatClampNeg) - h0.2) (by omega) (by omega) ?_
    exact hK _ _ _ _ hx H1 locs ls hw1 (by show h0.1 ≤ h.1 + 1; omega) (by show h0.2 ≤ h.2.1 + x.1.toNatClampNeg; omega) (by rw [xws_nw]; exact hP1) hS1 hL
  · have ha := Nat.eq_of_beq_eq_true ha
    subst ha
    have hx : K _ L (.ref h.1 :: x.2) (xnw h (.inl (1, x.1.toNatClampNeg, fun _ => 0)) x.1.toNatClampNeg) = some (r, h') := hx
    obtain ⟨hw1, g1, g2⟩ := xge_nw (.inl (1, x.1.toNatClampNeg, fun _ => 0)) (x.1.toNatClampNeg) hwf
    obtain ⟨-, g3, g4⟩ := hG _ _ _ _ r h' hx hw1
    have g5 : h.1 + 1 ≤ h'.1 := g3
    have g6 : h.2.1 + x.1.toNatClampNeg ≤ h'.2.1 := g4
    have hA : ∀ z : Nat, s.heap.size ≤ z → Bs ≤ z := fun z hz => by omega
    have hcl : (h.1 - h0.1) + 1 ≤ h'.1 - h0.1 := by omega
    have hsl : (h.2.1 - h0.2) + x.1.toNatClampNeg ≤ h'.2.1 - h0.2 := by omega
    refine va_newa (atype := .boolean) (ty := .boolean) (a0 := (x.1.toNatClampNeg, .inl (fun _ => 0))) hxe hb (hts _ xac_boolean) rfl hKv hP (xws_D G Bs h) hS hA (fun cA => rfl) hlt.1 rfl (by show x.1.toNatClampNeg * 1 ≤ 536870912; omega) hcl hsl hdg (fun q1 cA H1 hK1 hP1 hD1 hS1 => ?_)
    have hcA : cA = G.2.1 := by
      have z1 : s.vm.findClass ("[" ++ (FieldType.boolean).toString) = some cA := (hK1.2 3 (cA, .boolean) rfl).2
      have z2 : s.vm.findClass ("[" ++ (FieldType.boolean).toString) = some (G.2.1) := (hKv.2 1 (G.2.1, .boolean) rfl).2
      exact Option.some.inj (z1.symm.trans z2)
    subst hcA
    refine x_size fun hz => ?_
    have hqe : q1 = Bs + h.1 := x_new (z := 0) (by omega) hP1 hD1
    subst hqe
    refine W.cs (cells' := (h.1 + 1) - h0.1) (slots' := (h.2.1 + x.1.toNatClampNeg) - h0.2) (by omega) (by omega) ?_
    exact hK _ _ _ _ hx H1 locs ls hw1 (by show h0.1 ≤ h.1 + 1; omega) (by show h0.2 ≤ h.2.1 + x.1.toNatClampNeg; omega) (by rw [xws_nw]; exact hP1) hS1 hL
set_option maxHeartbeats 1000000 in
theorem xs_anewarray (hq : xmOK q) (cx : xCx D G p s m args meth c q) (hs0 : s.heap.size = Bs + h0.1) (hK : ∀ pc L st h, K pc L st h = some (r, h') → xW l D G Bs p e s m args below meth c q h0 r h' pc L st h)
    (hG : ∀ pc L st h, xgo h (K pc L st h)) (hC : ∀ j as h r1 h1 q1, xmis[j]? = some q1 → C j as h = some (r1, h1) → xwf h → xCon l D G Bs q1 as h r1 h1) (hCG : ∀ j as h, xgo h (C j as h))
    {pc n a b d : Nat} {k : Int32} {sw : List (Int32 × Nat)} {L : xL} {st : List Value} {h : xH} {ix : Nat}  (hok : xoki q pc (.anewarray ix, n, a, b, d, k, sw) = true) (hx : xF K C (.anewarray ix, n, a, b, d, k, sw) L st h = some (r, h')) : xW l D G Bs p e s m args below meth c q h0 r h' pc L st h := by
  obtain ⟨hxe, hb, hr, hml, hown, hts, hlk, hin, hKv, hNw⟩ := cx
  simp only [xoki, xdc, Bool.and_eq_true, decide_eq_true_eq] at hok
  obtain ⟨⟨hdg, hn⟩, hkl⟩ := hok
  have hn := Nat.eq_of_beq_eq_true hn
  subst hn
  obtain ⟨x, e1, hx_⟩ := Option.bind_eq_some_iff.mp hx
  clear hx
  have hx := hx_
  clear hx_
  replace e1 := xpI_inv e1
  subst e1
  obtain ⟨hc, hx_⟩ := xcond_k hx
  clear hx
  have hx := hx_
  clear hx_
  have hlt := xin_lt hc
  have hx : K _ L (.ref h.1 :: x.2) (xnw h (.inr (.inl (x.1.toNatClampNeg, fun _ => none))) x.1.toNatClampNeg) = some (r, h') := hx
  intro H locs ls hwf hl1 hl2 hP hS hL
  obtain ⟨hw1, g1, g2⟩ := xge_nw (.inr (.inl (x.1.toNatClampNeg, fun _ => none))) (x.1.toNatClampNeg) hwf
  obtain ⟨-, g3, g4⟩ := hG _ _ _ _ r h' hx hw1
  have g5 : h.1 + 1 ≤ h'.1 := g3
  have g6 : h.2.1 + x.1.toNatClampNeg ≤ h'.2.1 := g4
  have hA : ∀ z : Nat, s.heap.size ≤ z → Bs ≤ z := fun z hz => by omega
  have hcl : (h.1 - h0.1) + 1 ≤ h'.1 - h0.1 := by omega
  have hsl : (h.2.1 - h0.2) + x.1.toNatClampNeg ≤ h'.2.1 - h0.2 := by omega
  refine va_newq (C := "SceneBoxes$Scene") hxe hb hown (hts _ (xkl_ok _ (List.elem_iff.mp hkl))) hNw.2 hKv hP (xws_D G Bs h) hS hA hlt.1 rfl (by show x.1.toNatClampNeg * 4 ≤ 536870912; omega) hcl hsl hdg (fun q1 cA H1 hK1 hP1 hD1 hS1 => ?_)
  have hcA : cA = G.2.2 := by
    obtain ⟨_, _, _, _, _, z1⟩ := (hK1.2 3 (cA, .object "SceneBoxes$Scene") rfl).2
    obtain ⟨_, _, _, _, _, z2⟩ := (hKv.2 2 (G.2.2, .object "SceneBoxes$Scene") rfl).2
    exact Option.some.inj (z1.symm.trans z2)
  subst hcA
  refine x_size fun hz => ?_
  have hqe : q1 = Bs + h.1 := x_new (z := 0) (by omega) hP1 hD1
  subst hqe
  refine W.cs (cells' := (h.1 + 1) - h0.1) (slots' := (h.2.1 + x.1.toNatClampNeg) - h0.2) (by omega) (by omega) ?_
  exact hK _ _ _ _ hx H1 locs ls hw1 (by show h0.1 ≤ h.1 + 1; omega) (by show h0.2 ≤ h.2.1 + x.1.toNatClampNeg; omega) (by rw [xws_nw]; exact hP1) hS1 hL
set_option maxHeartbeats 1000000 in
theorem xs_mmax (hq : xmOK q) (cx : xCx D G p s m args meth c q) (hs0 : s.heap.size = Bs + h0.1) (hK : ∀ pc L st h, K pc L st h = some (r, h') → xW l D G Bs p e s m args below meth c q h0 r h' pc L st h)
    (hG : ∀ pc L st h, xgo h (K pc L st h)) (hC : ∀ j as h r1 h1 q1, xmis[j]? = some q1 → C j as h = some (r1, h1) → xwf h → xCon l D G Bs q1 as h r1 h1) (hCG : ∀ j as h, xgo h (C j as h))
    {pc n a b d : Nat} {k : Int32} {sw : List (Int32 × Nat)} {L : xL} {st : List Value} {h : xH} {ix : Nat}  (hok : xoki q pc (.invokestatic ix, n, a, b, 3, k, sw) = true) (hx : xF K C (.invokestatic ix, n, a, b, 3, k, sw) L st h = some (r, h')) : xW l D G Bs p e s m args below meth c q h0 r h' pc L st h := by
  obtain ⟨hxe, hb, hr, hml, hown, hts, hlk, hin, hKv, hNw⟩ := cx
  simp only [xoki, xdc, Bool.and_eq_true, decide_eq_true_eq] at hok
  obtain ⟨⟨hdg, hn⟩, ⟨hsp, hfr⟩, hlo⟩ := hok
  have hn := Nat.eq_of_beq_eq_true hn
  subst hn
  have hfr := Nat.le_of_ble_eq_true hfr
  have hlo := Nat.le_of_ble_eq_true hlo
  have hli := hts _ (xsp_ok _ (List.elem_iff.mp hsp))
  obtain ⟨x, e1, hx_⟩ := Option.bind_eq_some_iff.mp hx
  clear hx
  have hx := hx_
  clear hx_
  replace e1 := xpI_inv e1
  obtain ⟨y, e2, hx_⟩ := Option.bind_eq_some_iff.mp hx
  clear hx
  have hx := hx_
  clear hx_
  replace e2 := xpI_inv e2
  rw [e2] at e1
  subst e1
  obtain ⟨hc, hx_⟩ := xcond_k hx
  clear hx
  have hx := hx_
  clear hx_
  have hc := Nat.le_of_ble_eq_true hc
  intro H locs ls hwf hl1 hl2 hP hS hL
  obtain ⟨-, g3, g4⟩ := hG _ _ _ _ r h' hx hwf
  exact va_mmax hxe hb (hml.trans hL.2.1.symm) hown hli (hts _ xmx_s) (hts _ xma_i) (hts _ xmx_c) hfr (by rw [xcat_cv]; show xcat y.2 + 13 ≤ _; have : 21 ≤ (xRm q (h'.1 - h0.1) (h'.2.1 - h0.2)).locals := hlo; omega) (by show h.1 - h0.1 ≤ h'.1 - h0.1; omega) (by show h.2.1 - h0.2 ≤ h'.2.1 - h0.2; omega) hdg (hK _ _ _ _ hx H locs ls hwf hl1 hl2 hP hS hL)
set_option maxHeartbeats 1000000 in
theorem xs_mmin (hq : xmOK q) (cx : xCx D G p s m args meth c q) (hs0 : s.heap.size = Bs + h0.1) (hK : ∀ pc L st h, K pc L st h = some (r, h') → xW l D G Bs p e s m args below meth c q h0 r h' pc L st h)
    (hG : ∀ pc L st h, xgo h (K pc L st h)) (hC : ∀ j as h r1 h1 q1, xmis[j]? = some q1 → C j as h = some (r1, h1) → xwf h → xCon l D G Bs q1 as h r1 h1) (hCG : ∀ j as h, xgo h (C j as h))
    {pc n a b d : Nat} {k : Int32} {sw : List (Int32 × Nat)} {L : xL} {st : List Value} {h : xH} {ix : Nat}  (hok : xoki q pc (.invokestatic ix, n, a, b, 4, k, sw) = true) (hx : xF K C (.invokestatic ix, n, a, b, 4, k, sw) L st h = some (r, h')) : xW l D G Bs p e s m args below meth c q h0 r h' pc L st h := by
  obtain ⟨hxe, hb, hr, hml, hown, hts, hlk, hin, hKv, hNw⟩ := cx
  simp only [xoki, xdc, Bool.and_eq_true, decide_eq_true_eq] at hok
  obtain ⟨⟨hdg, hn⟩, ⟨hsp, hfr⟩, hlo⟩ := hok
  have hn := Nat.eq_of_beq_eq_true hn
  subst hn
  have hfr := Nat.le_of_ble_eq_true hfr
  have hlo := Nat.le_of_ble_eq_true hlo
  have hli := hts _ (xsp_ok _ (List.elem_iff.mp hsp))
  obtain ⟨x, e1, hx_⟩ := Option.bind_eq_some_iff.mp hx
  clear hx
  have hx := hx_
  clear hx_
  replace e1 := xpI_inv e1
  obtain ⟨y, e2, hx_⟩ := Option.bind_eq_some_iff.mp hx
  clear hx
  have hx := hx_
  clear hx_
  replace e2 := xpI_inv e2
  rw [e2] at e1
  subst e1
  obtain ⟨hc, hx_⟩ := xcond_k hx
  clear hx
  have hx := hx_
  clear hx_
  have hc := Nat.le_of_ble_eq_true hc
  intro H locs ls hwf hl1 hl2 hP hS hL
  obtain ⟨-, g3, g4⟩ := hG _ _ _ _ r h' hx hwf
  exact va_mmin hxe hb (hml.trans hL.2.1.symm) hown hli (hts _ xmi_s) (hts _ xma_i) (hts _ xmi_c) hfr (by rw [xcat_cv]; show xcat y.2 + 13 ≤ _; have : 21 ≤ (xRm q (h'.1 - h0.1) (h'.2.1 - h0.2)).locals := hlo; omega) (by show h.1 - h0.1 ≤ h'.1 - h0.1; omega) (by show h.2.1 - h0.2 ≤ h'.2.1 - h0.2; omega) hdg (hK _ _ _ _ hx H locs ls hwf hl1 hl2 hP hS hL)
set_option maxHeartbeats 1000000 in
theorem xs_acopy (hq : xmOK q) (cx : xCx D G p s m args meth c q) (hs0 : s.heap.size = Bs + h0.1) (hK : ∀ pc L st h, K pc L st h = some (r, h') → xW l D G Bs p e s m args below meth c q h0 r h' pc L st h)
    (hG : ∀ pc L st h, xgo h (K pc L st h)) (hC : ∀ j as h r1 h1 q1, xmis[j]? = some q1 → C j as h = some (r1, h1) → xwf h → xCon l D G Bs q1 as h r1 h1) (hCG : ∀ j as h, xgo h (C j as h))
    {pc n a b d : Nat} {k : Int32} {sw : List (Int32 × Nat)} {L : xL} {st : List Value} {h : xH} {ix : Nat}  (hok : xoki q pc (.invokestatic ix, n, a, b, 5, k, sw) = true) (hx : xF K C (.invokestatic ix, n, a, b, 5, k, sw) L st h = some (r, h')) : xW l D G Bs p e s m args below meth c q h0 r h' pc L st h := by
  obtain ⟨hxe, hb, hr, hml, hown, hts, hlk, hin, hKv, hNw⟩ := cx
  simp only [xoki, xdc, Bool.and_eq_true, decide_eq_true_eq] at hok
  obtain ⟨⟨hdg, hn⟩, ⟨hsp, hfr⟩, hlo⟩ := hok
  have hn := Nat.eq_of_beq_eq_true hn
  subst hn
  have hfr := Nat.le_of_ble_eq_true hfr
  have hlo := Nat.le_of_ble_eq_true hlo
  have hli := hts _ (xsp_ok _ (List.elem_iff.mp hsp))
  obtain ⟨x, e1, hx_⟩ := Option.bind_eq_some_iff.mp hx
  clear hx
  have hx := hx_
  clear hx_
  replace e1 := xpI_inv e1
  obtain ⟨y, e2, hx_⟩ := Option.bind_eq_some_iff.mp hx
  clear hx
  have hx := hx_
  clear hx_
  replace e2 := xpI_inv e2
  obtain ⟨z, e3, hx_⟩ := Option.bind_eq_some_iff.mp hx
  clear hx
  have hx := hx_
  clear hx_
  replace e3 := xpA_inv e3
  obtain ⟨u, e4, hx_⟩ := Option.bind_eq_some_iff.mp hx
  clear hx
  have hx := hx_
  clear hx_
  replace e4 := xpI_inv e4
  obtain ⟨w, e5, hx_⟩ := Option.bind_eq_some_iff.mp hx
  clear hx
  have hx := hx_
  clear hx_
  replace e5 := xpA_inv e5
  rw [e5] at e4
  rw [e4] at e3
  rw [e3] at e2
  rw [e2] at e1
  subst e1
  obtain ⟨hc, hx_⟩ := xcond_k hx
  clear hx
  have hx := hx_
  clear hx_
  have hc := Nat.le_of_ble_eq_true hc
  obtain ⟨h1, e6, hx_⟩ := Option.bind_eq_some_iff.mp hx
  obtain ⟨n0, f, n1, g, c1, c2, c3, c4, c5, c6, c7, c8⟩ := xcp_inv e6
  subst c8
  intro H locs ls hwf hl1 hl2 hP hS hL
  have l1 := xlive_i hwf c1
  have l2 := xlive_i hwf c2
  have hw' : xwf (xup h z.1 (.inl (0, n1, va_cpy f g u.1.toNatClampNeg y.1.toNatClampNeg x.1.toNatClampNeg))) := (xge_up _ (fun _ => l2) hwf).1
  have he : (xws G Bs h).set z.1 (Bs + z.1, .inl (G.1, n1, .inl (va_cpy f g u.1.toNatClampNeg y.1.toNatClampNeg x.1.toNatClampNeg))) = xws G Bs (xup h z.1 (.inl (0, n1, va_cpy f g u.1.toNatClampNeg y.1.toNatClampNeg x.1.toNatClampNeg))) := by
    rw [← xws_up]
    rfl
  have hroom : ((w.2.map (xcv Bs)).map fun v => v.category).sum + (nativeFrameWords "java/lang/System" "arraycopy" 5 + 11) ≤ (xRm q (h'.1 - h0.1) (h'.2.1 - h0.2)).locals := by
    have z1 : nativeFrameWords "java/lang/System" "arraycopy" 5 = 7 := by decide +kernel
    have z2 : 40 ≤ (xRm q (h'.1 - h0.1) (h'.2.1 - h0.2)).locals := hlo
    rw [xcat_cv, z1]
    omega
  exact va_copyi hxe hb (hml.trans hL.2.1.symm) hown hli (hts _ xcp_n) (hts _ xcp_s) (hts _ xsy_i) hKv hP (xws_D G Bs h) hS w.1 z.1 0 0 (ty := .int) (by rw [xws_get l1, c1]; rfl) (by rw [xws_get l2, c2]; rfl) rfl rfl rfl c3 c4 c5 c6 c7 (fun _ _ => rfl) hfr hroom hdg (fun H1 locs1 hP1 hD1 hS1 => hK _ _ _ _ hx_ H1 locs1 ls hw' hl1 hl2 (by rw [← he]; exact hP1) hS1 hL)
set_option maxHeartbeats 1000000 in
theorem xs_objinit (hq : xmOK q) (cx : xCx D G p s m args meth c q) (hs0 : s.heap.size = Bs + h0.1) (hK : ∀ pc L st h, K pc L st h = some (r, h') → xW l D G Bs p e s m args below meth c q h0 r h' pc L st h)
    (hG : ∀ pc L st h, xgo h (K pc L st h)) (hC : ∀ j as h r1 h1 q1, xmis[j]? = some q1 → C j as h = some (r1, h1) → xwf h → xCon l D G Bs q1 as h r1 h1) (hCG : ∀ j as h, xgo h (C j as h))
    {pc n a b d : Nat} {k : Int32} {sw : List (Int32 × Nat)} {L : xL} {st : List Value} {h : xH} {ix : Nat}  (hok : xoki q pc (.invokespecial ix, n, a, b, 6, k, sw) = true) (hx : xF K C (.invokespecial ix, n, a, b, 6, k, sw) L st h = some (r, h')) : xW l D G Bs p e s m args below meth c q h0 r h' pc L st h := by
  obtain ⟨hxe, hb, hr, hml, hown, hts, hlk, hin, hKv, hNw⟩ := cx
  simp only [xoki, xdc, Bool.and_eq_true, decide_eq_true_eq] at hok
  obtain ⟨⟨hdg, hn⟩, ⟨hsp, hfr⟩, hlo⟩ := hok
  have hn := Nat.eq_of_beq_eq_true hn
  subst hn
  have hfr := Nat.le_of_ble_eq_true hfr
  have hlo := Nat.le_of_ble_eq_true hlo
  have hli := hts _ (xsp_ok _ (List.elem_iff.mp hsp))
  obtain ⟨x, e1, hx_⟩ := Option.bind_eq_some_iff.mp hx
  clear hx
  have hx := hx_
  clear hx_
  replace e1 := xpA_inv e1
  subst e1
  obtain ⟨hc, hx_⟩ := xcond_k hx
  clear hx
  have hx := hx_
  clear hx_
  have hc := Nat.le_of_ble_eq_true hc
  intro H locs ls hwf hl1 hl2 hP hS hL
  refine W.objInit hxe hb hown hli (hts _ xob_m) (hts _ xob_c) rfl (hL.2.1.trans hml.symm) rfl hdg hfr (by show 2 * 0 + _ + 12 ≤ _; rw [xcat_cv]; have : 21 ≤ (xRm q (h'.1 - h0.1) (h'.2.1 - h0.2)).locals := hlo; omega) ?_
  exact hK _ _ _ _ hx H locs ls hwf hl1 hl2 hP hS hL
set_option maxHeartbeats 1000000 in
theorem xs_static (hq : xmOK q) (cx : xCx D G p s m args meth c q) (hs0 : s.heap.size = Bs + h0.1) (hK : ∀ pc L st h, K pc L st h = some (r, h') → xW l D G Bs p e s m args below meth c q h0 r h' pc L st h)
    (hG : ∀ pc L st h, xgo h (K pc L st h)) (hC : ∀ j as h r1 h1 q1, xmis[j]? = some q1 → C j as h = some (r1, h1) → xwf h → xCon l D G Bs q1 as h r1 h1) (hCG : ∀ j as h, xgo h (C j as h))
    {pc n a b d : Nat} {k : Int32} {sw : List (Int32 × Nat)} {L : xL} {st : List Value} {h : xH} {ix : Nat} (hd : d ≠ 3 ∧ d ≠ 4 ∧ d ≠ 5) (hok : xoki q pc (.invokestatic ix, n, a, b, d, k, sw) = true) (hx : xF K C (.invokestatic ix, n, a, b, d, k, sw) L st h = some (r, h')) : xW l D G Bs p e s m args below meth c q h0 r h' pc L st h := by
  obtain ⟨hxe, hb, hr, hml, hown, hts, hlk, hin, hKv, hNw⟩ := cx
  have hok2 : xdc q.2.2.1 pc (.invokestatic ix) 3 n = true ∧ xml.elem (q.1, ix, a) = true ∧ xcr q a b 0 = true := by
    unfold xoki at hok
    dsimp only at hok
    split at hok
    · exact absurd rfl hd.1
    · exact absurd rfl hd.2.1
    · exact absurd rfl hd.2.2
    · simp only [Bool.and_eq_true] at hok
      exact ⟨hok.1, hok.2.1, hok.2.2⟩
  clear hok
  obtain ⟨hdc, hml2, hcr⟩ := hok2
  simp only [xdc, Bool.and_eq_true, decide_eq_true_eq] at hdc
  obtain ⟨hdg, hn⟩ := hdc
  have hn := Nat.eq_of_beq_eq_true hn
  subst hn
  have hx0 : xcall K C (pc + 3) a b d L st h = some (r, h') := by
    unfold xF at hx
    dsimp only at hx
    split at hx
    · exact absurd rfl hd.1
    · exact absurd rfl hd.2.1
    · exact absurd rfl hd.2.2
    · exact hx
  clear hx
  obtain ⟨⟨as, rest⟩, e1, hx1⟩ := Option.bind_eq_some_iff.mp hx0
  obtain ⟨hcat0, hx2⟩ := xcond_k hx1
  have hcat : xcat rest ≤ 8 := Nat.le_of_ble_eq_true hcat0
  clear hcat0 hx1
  obtain ⟨xs, hxl, hst, has⟩ := xpop_inv e1
  rw [List.append_nil] at has
  obtain ⟨r1, h1, hc, hk⟩ := xret_inv hx2
  obtain ⟨q1, hq1, hki, hna, hfr, hlo⟩ := xcr_inv hcr
  have ok1 := xmos q1 (List.mem_of_getElem? hq1)
  obtain ⟨o1, o2, o3, o4, o5, o6, o7, o8, o9, o10, o11⟩ := id ok1
  dsimp only at hc hk
  have hlk1 : Cond.methodLink (xcnm q.1) ix q1.2.1 ∈ xtb := by rw [← xyo_eq hq1]; exact xml_ok _ (List.elem_iff.mp hml2)
  have hgd : GoodIn xtb (va_wsS (xcnm q.1) ix q1.2.1 (xwd q1)) := fun w hw => by
    unfold va_wsS at hw
    rcases List.mem_append.mp hw with hw | hw
    · simp only [List.mem_cons, List.not_mem_nil, or_false] at hw
      rcases hw with rfl | rfl | rfl
      · exact xgood hlk1
      · exact xgood (o7 hki)
      · exact xgood o2
    · exact xwd_good ok1 w hw
  subst hst
  intro H locs ls hwf hl1 hl2 hP hS hL
  have hM := hC a as h r1 h1 q1 hq1 hc hwf
  obtain ⟨hwf1, g1, g2⟩ := hCG a as h r1 h1 hc hwf
  obtain ⟨-, g3, g4⟩ := hG _ _ _ _ r h' hk hwf1
  refine x_size fun hz => ?_
  have hHz := x_hsize hz hs0 hl1 hP hS
  have hf : (h.1 - h0.1) + (h1.1 - h.1) ≤ h'.1 - h0.1 ∧ (h.2.1 - h0.2) + (h1.2.1 - h.2.1) ≤ h'.2.1 - h0.2 := by omega
  have hrn := va_runS (e := e) (below := below) (meth := meth) (locs := locs) (cells := h.1 - h0.1) (slots := h.2.1 - h0.2) (R := xRm q (h'.1 - h0.1) (h'.2.1 - h0.2)) (g := F0 m pc ls ((xs ++ rest).map (xcv Bs))) (As := as.map (xcv Bs)) (rest := rest.map (xcv Bs)) ⟨hxe, hb, hml, hown, hts⟩ hM (va_cwS b hts hgd rfl rfl rfl ⟨o5.1, o5.2, by rw [o6, hki, hna]; rfl⟩ ⟨hfr, hlo⟩) ⟨xPc_blind as h, xPc_at hHz hP hKv hNw⟩ rfl (by rw [List.length_map, has, List.length_reverse]; exact hxl) hL.2.1 (by show (xs ++ rest).map (xcv Bs) = _; rw [has, List.map_reverse, List.reverse_reverse, List.map_append]) (lv_room (by rw [xcat_cv]; exact hcat)) hdg hf
  refine x_call hrn hS (fun H1 locs1 hP1 hS1 => ?_)
  have hgo := hK _ _ _ _ hk H1 locs1 ls hwf1 (by omega) (by omega) hP1 hS1 hL
  refine W.cs (cells' := h1.1 - h0.1) (slots' := h1.2.1 - h0.2) (by omega) (by omega) ?_
  have hst2 : (r1.toList ++ rest).map (xcv Bs) = (r1.map (xcv Bs)).toList ++ rest.map (xcv Bs) := by
    rw [List.map_append]
    cases r1 <;> rfl
  rw [hst2] at hgo
  exact hgo
set_option maxHeartbeats 1000000 in
theorem xs_virtual (hq : xmOK q) (cx : xCx D G p s m args meth c q) (hs0 : s.heap.size = Bs + h0.1) (hK : ∀ pc L st h, K pc L st h = some (r, h') → xW l D G Bs p e s m args below meth c q h0 r h' pc L st h)
    (hG : ∀ pc L st h, xgo h (K pc L st h)) (hC : ∀ j as h r1 h1 q1, xmis[j]? = some q1 → C j as h = some (r1, h1) → xwf h → xCon l D G Bs q1 as h r1 h1) (hCG : ∀ j as h, xgo h (C j as h))
    {pc n a b d : Nat} {k : Int32} {sw : List (Int32 × Nat)} {L : xL} {st : List Value} {h : xH} {ix : Nat}  (hok : xoki q pc (.invokevirtual ix, n, a, b, d, k, sw) = true) (hx : xF K C (.invokevirtual ix, n, a, b, d, k, sw) L st h = some (r, h')) : xW l D G Bs p e s m args below meth c q h0 r h' pc L st h := by
  obtain ⟨hxe, hb, hr, hml, hown, hts, hlk, hin, hKv, hNw⟩ := cx
  have hok2 := xok_virtual hok
  clear hok
  obtain ⟨hdc, hml2, hcr, hsw⟩ := hok2
  simp only [xdc, Bool.and_eq_true, decide_eq_true_eq] at hdc
  obtain ⟨hdg, hn⟩ := hdc
  have hn := Nat.eq_of_beq_eq_true hn
  subst hn
  obtain ⟨⟨as0, rest0⟩, f1, hx1⟩ := Option.bind_eq_some_iff.mp hx
  obtain ⟨fs, f2, hx0⟩ := Option.bind_eq_some_iff.mp hx1
  dsimp only at f2
  clear hx hx1
  obtain ⟨⟨as, rest⟩, e1, hx1⟩ := Option.bind_eq_some_iff.mp hx0
  obtain ⟨hcat0, hx2⟩ := xcond_k hx1
  have hcat : xcat rest ≤ 8 := Nat.le_of_ble_eq_true hcat0
  clear hcat0 hx1
  obtain ⟨xs, hxl, hst, has⟩ := xpop_inv e1
  rw [List.append_nil] at has
  obtain ⟨r1, h1, hc, hk⟩ := xret_inv hx2
  obtain ⟨q1, hq1, hki, hna, hfr, hlo⟩ := xcr_inv hcr
  have ok1 := xmos q1 (List.mem_of_getElem? hq1)
  obtain ⟨o1, o2, o3, o4, o5, o6, o7, o8, o9, o10, o11⟩ := id ok1
  dsimp only at hc hk
  have f4 := Prod.mk.inj (Option.some.inj (e1.symm.trans f1))
  rw [← f4.1] at f2
  clear f1 f4
  obtain ⟨x, as', p1, sr, hae, hse, f3⟩ := xrecv_inv f2
  subst hae
  subst hse
  obtain ⟨p2, hs1, hs2, hc6⟩ := hsw
  obtain ⟨hs1, -⟩ := List.cons.inj hs1
  subst hs1
  have hci : p1.2 + 1 = q1.1 := by rw [hs2, xccn_eq hq1]
  have hcls : q1.2.1.cls = xRc p1.2 := by rw [o3, ← hci]; exact xcnm_R hc6
  have hxs : xs = as'.reverse ++ [.ref x] := by
    have := congrArg List.reverse has
    rw [List.reverse_reverse] at this
    rw [← this]; simp
  have hlk1 : Cond.methodLink (xcnm q.1) ix q1.2.1 ∈ xtb := by rw [← xyo_eq hq1]; exact xml_ok _ (List.elem_iff.mp hml2)
  have hgd : GoodIn xtb (wsV (xcnm q.1) ix q1.2.1.cls q1.2.1 (xwd q1)) := fun w hw => by
    unfold wsV at hw
    rcases List.mem_append.mp hw with hw | hw
    · simp only [List.mem_cons, List.not_mem_nil, or_false] at hw
      rcases hw with rfl | rfl | rfl | rfl
      · exact xgood hlk1
      · exact xgood (o8 (by rw [hki]; decide))
      · exact xgood (o9 hki)
      · exact xgood o2
    · exact xwd_good ok1 w hw
  subst hst
  intro H locs ls hwf hl1 hl2 hP hS hL
  have hlt := xlive_o hwf f3 hc6
  have hM := hC a (.ref x :: as') h r1 h1 q1 hq1 hc hwf
  obtain ⟨hwf1, g1, g2⟩ := hCG a (.ref x :: as') h r1 h1 hc hwf
  obtain ⟨-, g3, g4⟩ := hG _ _ _ _ r h' hk hwf1
  refine x_size fun hz => ?_
  have hHz := x_hsize hz hs0 hl1 hP hS
  have hf : (h.1 - h0.1) + (h1.1 - h.1) ≤ h'.1 - h0.1 ∧ (h.2.1 - h0.2) + (h1.2.1 - h.2.1) ≤ h'.2.1 - h0.2 := by omega
  have hrc : ∃ cellB : Cell, H[Bs + x]? = some cellB ∧ cellB.vm.isStatics = false ∧ s.vm.findClass q1.2.1.cls = some cellB.cls := by
    rw [hcls]
    exact va_recv hKv hP (xcl_at hc6).1 (q0 := x) (by rw [xws_get hlt, f3]; rfl)
  have hrn := va_runV (e := e) (below := below) (meth := meth) (locs := locs) (cells := h.1 - h0.1) (slots := h.2.1 - h0.2) (R := xRm q (h'.1 - h0.1) (h'.2.1 - h0.2)) (g := F0 m pc ls ((xs ++ rest).map (xcv Bs))) (As := as'.map (xcv Bs)) (rest := rest.map (xcv Bs)) (C := q1.2.1.cls) (b := Bs + x) ⟨hxe, hb, hml, hown, hts⟩ hM (cwV (b - 1) hts hgd rfl rfl rfl ⟨rfl, o5.1, o5.2, by rw [o6, hki, hna]; rfl⟩ ⟨hfr, hlo⟩) ⟨xPc_blind (.ref x :: as') h, hrc, xPc_at (as := .ref x :: as') hHz hP hKv hNw⟩ rfl (by rw [List.length_map]; rw [hxs] at hxl; simp at hxl; omega) hL.2.1 (by show (xs ++ rest).map (xcv Bs) = _; rw [hxs]; simp [xcv]) (lv_room (by rw [xcat_cv]; exact hcat)) hdg hf
  refine x_call hrn hS (fun H1 locs1 hP1 hS1 => ?_)
  have hgo := hK _ _ _ _ hk H1 locs1 ls hwf1 (by omega) (by omega) hP1 hS1 hL
  refine W.cs (cells' := h1.1 - h0.1) (slots' := h1.2.1 - h0.2) (by omega) (by omega) ?_
  have hst2 : (r1.toList ++ rest).map (xcv Bs) = (r1.map (xcv Bs)).toList ++ rest.map (xcv Bs) := by
    rw [List.map_append]
    cases r1 <;> rfl
  rw [hst2] at hgo
  exact hgo
set_option maxHeartbeats 1000000 in
theorem xs_special (hq : xmOK q) (cx : xCx D G p s m args meth c q) (hs0 : s.heap.size = Bs + h0.1) (hK : ∀ pc L st h, K pc L st h = some (r, h') → xW l D G Bs p e s m args below meth c q h0 r h' pc L st h)
    (hG : ∀ pc L st h, xgo h (K pc L st h)) (hC : ∀ j as h r1 h1 q1, xmis[j]? = some q1 → C j as h = some (r1, h1) → xwf h → xCon l D G Bs q1 as h r1 h1) (hCG : ∀ j as h, xgo h (C j as h))
    {pc n a b d : Nat} {k : Int32} {sw : List (Int32 × Nat)} {L : xL} {st : List Value} {h : xH} {ix : Nat} (hd : d ≠ 6) (hok : xoki q pc (.invokespecial ix, n, a, b, d, k, sw) = true) (hx : xF K C (.invokespecial ix, n, a, b, d, k, sw) L st h = some (r, h')) : xW l D G Bs p e s m args below meth c q h0 r h' pc L st h := by
  obtain ⟨hxe, hb, hr, hml, hown, hts, hlk, hin, hKv, hNw⟩ := cx
  have hok2 := xok_special hd hok
  clear hok
  obtain ⟨hdc, hml2, hcr, hsw⟩ := hok2
  simp only [xdc, Bool.and_eq_true, decide_eq_true_eq] at hdc
  obtain ⟨hdg, hn⟩ := hdc
  have hn := Nat.eq_of_beq_eq_true hn
  subst hn
  have hxx : ((xpop b st []).bind fun q => (xrecv h q.1 sw).bind fun _ => xcall K C (pc + 3) a b d L st h) = some (r, h') := by
    unfold xF at hx
    dsimp only at hx
    split at hx
    · exact absurd rfl hd
    · exact hx
  clear hx
  obtain ⟨⟨as0, rest0⟩, f1, hx1⟩ := Option.bind_eq_some_iff.mp hxx
  obtain ⟨fs, f2, hx0⟩ := Option.bind_eq_some_iff.mp hx1
  dsimp only at f2
  clear hxx hx1
  obtain ⟨⟨as, rest⟩, e1, hx1⟩ := Option.bind_eq_some_iff.mp hx0
  obtain ⟨hcat0, hx2⟩ := xcond_k hx1
  have hcat : xcat rest ≤ 8 := Nat.le_of_ble_eq_true hcat0
  clear hcat0 hx1
  obtain ⟨xs, hxl, hst, has⟩ := xpop_inv e1
  rw [List.append_nil] at has
  obtain ⟨r1, h1, hc, hk⟩ := xret_inv hx2
  obtain ⟨q1, hq1, hki, hna, hfr, hlo⟩ := xcr_inv hcr
  have ok1 := xmos q1 (List.mem_of_getElem? hq1)
  obtain ⟨o1, o2, o3, o4, o5, o6, o7, o8, o9, o10, o11⟩ := id ok1
  dsimp only at hc hk
  have f4 := Prod.mk.inj (Option.some.inj (e1.symm.trans f1))
  rw [← f4.1] at f2
  clear f1 f4
  obtain ⟨x, as', p1, sr, hae, hse, f3⟩ := xrecv_inv f2
  subst hae
  subst hse
  obtain ⟨p2, hs1, hs2, hc6⟩ := hsw
  obtain ⟨hs1, -⟩ := List.cons.inj hs1
  subst hs1
  have hci : p1.2 + 1 = q1.1 := by rw [hs2, xccn_eq hq1]
  have hcls : q1.2.1.cls = xRc p1.2 := by rw [o3, ← hci]; exact xcnm_R hc6
  have hxs : xs = as'.reverse ++ [.ref x] := by
    have := congrArg List.reverse has
    rw [List.reverse_reverse] at this
    rw [← this]; simp
  have hret : q1.2.2.2.2.1 = none := by
    have z := List.all_eq_true.mp xin_ret q1 (List.mem_of_getElem? hq1)
    rw [hki] at z
    simpa using z
  have hwd : xwd q1 = Cond.code q1.2.1 q1.2.2.1 q1.2.2.2.1 none :: xtb := by unfold xwd; rw [hret]
  subst hst
  intro H locs ls hwf hl1 hl2 hP hS hL
  have hM := hC a (.ref x :: as') h r1 h1 q1 hq1 hc hwf
  obtain ⟨hwf1, g1, g2⟩ := hCG a (.ref x :: as') h r1 h1 hc hwf
  obtain ⟨-, g3, g4⟩ := hG _ _ _ _ r h' hk hwf1
  refine x_size fun hz => ?_
  have hHz := x_hsize hz hs0 hl1 hP hS
  have hf : (h.1 - h0.1) + (h1.1 - h.1) ≤ h'.1 - h0.1 ∧ (h.2.1 - h0.2) + (h1.2.1 - h.2.1) ≤ h'.2.1 - h0.2 := by omega
  have hrn : va_Run p l e (xRm q (h'.1 - h0.1) (h'.2.1 - h0.2)) s m args below meth c H locs (h.1 - h0.1) (h.2.1 - h0.2) (h1.1 - h.1) (h1.2.1 - h.2.1) (F0 m pc ls ((xs ++ rest).map (xcv Bs))) (rest.map (xcv Bs)) (xQc D G Bs r1 h1 (Value.ref (Bs + x) :: as'.map (xcv Bs)).toArray) (fun a => Bs ≤ a) := by
    rcases hml2 with hml2 | hml2
    · have hlk1 : Cond.methodLink (xcnm q.1) ix q1.2.1 ∈ xtb := by rw [← xyo_eq hq1]; exact xml_ok _ (List.elem_iff.mp hml2)
      exact va_runI (As := as'.map (xcv Bs)) (rest := rest.map (xcv Bs)) (b := Bs + x) ⟨hxe, hb, hml, hown, hts⟩ hM (cwI (b - 1) hts (xwd_good ok1) hwd rfl rfl (hts _ o2) (hts _ hlk1) (hts _ (o8 (by rw [hki]; decide))) (o10 hki) ⟨o5.1, o5.2, by rw [o6, hki, hna]; rfl⟩ ⟨hfr, hlo⟩) ⟨xPc_blind (.ref x :: as') h, xPc_at (as := .ref x :: as') hHz hP hKv hNw⟩ rfl (by rw [List.length_map]; rw [hxs] at hxl; simp at hxl; omega) hL.2.1 (by show (xs ++ rest).map (xcv Bs) = _; rw [hxs]; simp [xcv]) (lv_room (by rw [xcat_cv]; exact hcat)) hdg hf
    · have hnw : va_Nw (.methodLinkNest (xcnm q.1) ix q1.2.1 "SceneBoxes") s := by rw [← xyo_eq hq1]; exact hNw.1 _ (List.elem_iff.mp hml2)
      exact va_runIN (As := as'.map (xcv Bs)) (rest := rest.map (xcv Bs)) (b := Bs + x) ⟨hxe, hb, hml, hown, hts⟩ hM ⟨va_cnB (b - 1) hts (xwd_good ok1) hwd rfl rfl hnw (hts _ o2) ⟨o5.1, o5.2, by rw [o6, hki, hna]; rfl⟩ ⟨hfr, hlo⟩, o10 hki, hts _ (o8 (by rw [hki]; decide))⟩ ⟨xPc_blind (.ref x :: as') h, xPc_at (as := .ref x :: as') hHz hP hKv hNw⟩ rfl (by rw [List.length_map]; rw [hxs] at hxl; simp at hxl; omega) hL.2.1 (by show (xs ++ rest).map (xcv Bs) = _; rw [hxs]; simp [xcv]) (lv_room (by rw [xcat_cv]; exact hcat)) hdg hf
  refine x_call hrn hS (fun H1 locs1 hP1 hS1 => ?_)
  have hgo := hK _ _ _ _ hk H1 locs1 ls hwf1 (by omega) (by omega) hP1 hS1 hL
  refine W.cs (cells' := h1.1 - h0.1) (slots' := h1.2.1 - h0.2) (by omega) (by omega) ?_
  have hst2 : (r1.toList ++ rest).map (xcv Bs) = (r1.map (xcv Bs)).toList ++ rest.map (xcv Bs) := by
    rw [List.map_append]
    cases r1 <;> rfl
  rw [hst2] at hgo
  exact hgo
end SND
