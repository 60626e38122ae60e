/-! THE SMALL MACHINE IS RIGHT: what it answers, the real machine answers, and its heap holds the same cells -/
def xNw (U : State) : Prop := (∀ q ∈ xmn, va_Nw (.methodLinkNest (xcnm q.1) q.2.1 (xyo q.2.2) "SceneBoxes") U) ∧ va_AO "SceneBoxes$Scene" U
def xRm (q : xMI) (k n : Nat) : Room := { frames := q.2.2.2.2.2.2.2.1, cells := k, slots := n, locals := q.2.2.2.2.2.2.2.2 }
def xQc (D : va_G) (G : xG) (Bs : Nat) (r : Option Value) (h' : xH) : Array Value → State → Outcome → State → Prop := fun _ st o t => o = .returned (r.map (xcv Bs)) ∧ va_P D vwCl (xws G Bs h') t.heap ∧ va_F (fun a => Bs ≤ a) st t
def xPc (D : va_G) (G : xG) (Bs : Nat) (as : List Value) (h : xH) : Array Value → State → Prop := va_Pc (as.map (xcv Bs)) (fun U => U.heap.size = Bs + h.1 ∧ va_P D vwCl (xws G Bs h) U.heap ∧ va_K D vwCl (xtys G) U ∧ xNw U)
def xwd (q : xMI) : List Cond := Cond.code q.2.1 q.2.2.1 q.2.2.2.1 q.2.2.2.2.1 :: xtb
/-- what is known in the body of the method q -/
def xCx (D : va_G) (G : xG) (p : Program) (s : State) (m : MethodId) (args : Array Value) (meth : Method) (c : Code) (q : xMI) : Prop :=
  p.tables.exec = Jvm.exec ∧ c.code = q.2.2.1 ∧ meth.sig.returnType = q.2.2.2.2.1 ∧ c.maxLocals = q.2.2.2.1 ∧ s.vm.findClass (xcnm q.1) = some m.cls ∧ (∀ w ∈ xtb, w.before args s = true) ∧ meth.locks = false ∧ (q.2.2.2.2.2.1 = 2 → meth.name = "<init>") ∧ va_K D vwCl (xtys G) s ∧ xNw s
/-- from this point of the small machine the real one comes to the end (r, h') -/
def xW (l : Launch) (D : va_G) (G : xG) (Bs : Nat) (p : Program) (e : Env) (s : State) (m : MethodId) (args : Array Value) (below : List Frame) (meth : Method) (c : Code) (q : xMI) (h0 : Nat × Nat) (r : Option Value) (h' : xH) (pc : Nat) (L : xL) (st : List Value) (h : xH) : Prop :=
  ∀ (H : Heap) (locs : List Loc) (ls : Array Slot), xwf h → h0.1 ≤ h.1 → h0.2 ≤ h.2.1 → va_P D vwCl (xws G Bs h) H → va_S (fun a => Bs ≤ a) s.heap H locs → xLo Bs ls q.2.2.2.1 L →
    W p l e (xRm q (h'.1 - h0.1) (h'.2.1 - h0.2)) s m args below meth c H locs (h.1 - h0.1) (h.2.1 - h0.2) (MQ below (xQc D G Bs r h') args s (h'.1 - h0.1) (h'.2.1 - h0.2) (fun a => Bs ≤ a)) (F0 m pc ls (st.map (xcv Bs)))
theorem xpI_inv {st : List Value} {x : Int32 × List Value} (e : xpI st = some x) : st = .int x.1 :: x.2 := by
  unfold xpI at e
  split at e
  · cases e; rfl
  · cases e
theorem xpA_inv {st : List Value} {x : Nat × List Value} (e : xpA st = some x) : st = .ref x.1 :: x.2 := by
  unfold xpA at e
  split at e
  · cases e; rfl
  · cases e
theorem xpL_inv {st : List Value} {x : Int64 × List Value} (e : xpL st = some x) : st = .long x.1 :: x.2 := by
  unfold xpL at e
  split at e
  · cases e; rfl
  · cases e
theorem xpV_inv {st : List Value} {x : Value × List Value} (e : xpV st = some x) : st = x.1 :: x.2 := by
  unfold xpV at e
  split at e
  · cases e; rfl
  · cases e
theorem xvI_inv {v : Option Value} {x : Int32} (e : xvI v = some x) : v = some (.int x) := by
  unfold xvI at e
  split at e
  · cases e; rfl
  · cases e
theorem xvA_inv {v : Option Value} {x : Nat} (e : xvA v = some x) : v = some (.ref x) := by
  unfold xvA at e
  split at e
  · cases e; rfl
  · cases e
theorem xvL_inv {v : Option Value} {x : Int64} (e : xvL v = some x) : v = some (.long x) := by
  unfold xvL at e
  split at e
  · cases e; rfl
  · cases e
theorem xpop_inv : ∀ {b : Nat} {st acc as rest : List Value}, xpop b st acc = some (as, rest) → ∃ xs : List Value, xs.length = b ∧ st = xs ++ rest ∧ as = xs.reverse ++ acc
  | 0, st, acc, as, rest, e => by
    unfold xpop at e
    cases e
    exact ⟨[], rfl, rfl, rfl⟩
  | k + 1, st, acc, as, rest, e => by
    unfold xpop at e
    split at e
    · next v r =>
      obtain ⟨xs, h1, h2, h3⟩ := xpop_inv e
      exact ⟨v :: xs, by simp [h1], by rw [h2]; rfl, by rw [h3]; simp⟩
    · cases e
theorem xcond_k {b : Bool} {o : Option xR} {x : xR} (h : (bif b then o else none) = some x) : b = true ∧ o = some x := by
  cases b
  · cases h
  · exact ⟨rfl, h⟩
theorem xin_in {i : Int32} {n : Nat} (h : xin i n = true) : vp_in i n := by
  unfold xin at h
  simp only [Bool.and_eq_true, Bool.not_eq_true', decide_eq_false_iff_not] at h
  have h2 : i.toNatClampNeg < n := Nat.le_of_ble_eq_true h.2
  rintro (q | q)
  · exact h.1 q
  · omega
theorem xcat_cv (Bs : Nat) (st : List Value) : ((st.map (xcv Bs)).map fun v => v.category).sum = xcat st := by
  unfold xcat
  rw [List.map_map]
  congr 1
  apply List.map_congr_left
  intro v _
  exact xcv_cat Bs v
theorem xfit0 {t : FieldType} (h : xdty t = 0) (x : Int32) : narrow t (.int x) = .int x ∧ fits t (.int x) = true := by
  cases t <;> first | exact ⟨rfl, rfl⟩ | cases h
theorem xfit1 {t : FieldType} (h : xdty t = 1) (x : Nat) : narrow t (.ref x) = .ref x ∧ fits t (.ref x) = true := by
  cases t <;> first | exact ⟨rfl, rfl⟩ | cases h
theorem xfit2 {t : FieldType} (h : xdty t ≠ 0) (h1 : xdty t ≠ 1) (h9 : xdty t ≠ 9) (x : Int64) : narrow t (.long x) = .long x ∧ fits t (.long x) = true := by
  cases t <;> first | exact ⟨rfl, rfl⟩ | exact absurd rfl h | exact absurd rfl h1 | exact absurd rfl h9
theorem xgood {w : Cond} (h : w ∈ xtb) : w ∈ xtb ∧ ((w.onTables && w.keeps) = true ∨ ∃ ty, w = .arrayClass ty) := ⟨h, good_of_word (List.mem_filter.mp h).2⟩
theorem xwd_good {q : xMI} (hq : xmOK q) : GoodIn xtb (xwd q) := fun w h => by
  rcases List.mem_cons.mp h with rfl | h
  · exact xgood hq.1
  · exact xgood h
section SND
variable {l : Launch} {D : va_G} {G : xG} {Bs : Nat} {p : Program} {e : Env} {s : State} {m : MethodId} {args : Array Value} {below : List Frame} {meth : Method} {c : Code}
theorem x_size {R : Room} {H : Heap} {locs : List Loc} {cells slots : Nat} {Q : State → Prop} {g : JFrame} (k : H.size ≤ s.heap.size + cells → W p l e R s m args below meth c H locs cells slots Q g) : W p l e R s m args below meth c H locs cells slots Q g := by
  intro T hT X
  have h := X.heapSize
  rw [hT] at h
  exact k h T hT X
theorem x_call {R : Room} {H : Heap} {locs : List Loc} {cells slots mc ms pc : Nat} {Q : State → Prop} {ls : Array Slot} {st0 rest : List Value} {a : Array Value} {r : Option Value} {h' : xH}
    (hr : va_Run p l e R s m args below meth c H locs cells slots mc ms (F0 m pc ls st0) rest (xQc D G Bs r h' a) (fun a => Bs ≤ a)) (hS : va_S (fun a => Bs ≤ a) s.heap H locs)
    (kk : ∀ (H1 : Heap) (locs1 : List Loc), va_P D vwCl (xws G Bs h') H1 → va_S (fun a => Bs ≤ a) s.heap H1 locs1 → W p l e R s m args below meth c H1 locs1 (cells + mc) (slots + ms) Q (F0 m (pc + 3) ls ((r.map (xcv Bs)).toList ++ rest))) : W p l e R s m args below meth c H locs cells slots Q (F0 m pc ls st0) := by
  intro T hT X
  obtain ⟨v, st₀, t, T', L, z0, X', hL, e1, e2, ⟨hv, hP, hz, hk⟩, st⟩ := hr T hT X
  cases hv
  rw [z0] at hz hk
  obtain ⟨t2, a1, b1⟩ := kk T'.heap (locs ++ L) (by rw [e1]; exact hP)
    ⟨Nat.le_trans hS.1 (by rw [e1]; exact hz), fun q h1 h2 => by rw [e1, hk q (Nat.lt_of_lt_of_le h1 hS.1) h2]; exact hS.2.1 q h1 h2, fun q hq => by
      rcases List.mem_append.mp hq with h | h
      · exact hS.2.2 q h
      · exact hL q h⟩ T' rfl X'
  exact ⟨t2, st t2 a1, b1⟩
/-- where a new cell comes -/
theorem x_new {H1 : Heap} {h : xH} {q1 : Nat} {v : va_E} {z : Nat} (hz : H1.size ≤ Bs + h.1 + 1) (hP : va_P D vwCl (xws G Bs h ++ [(q1, v)]) H1) (hD : va_D (fun a => Bs ≤ a) (xws G Bs h ++ [(q1, v)])) : q1 = Bs + h.1 := by
  have hi : (xws G Bs h ++ [(q1, v)])[h.1]? = some (q1, v) := by
    rw [List.getElem?_append_right (by rw [xws_len]; exact Nat.le_refl _), xws_len, Nat.sub_self]
    rfl
  have h1 : q1 < H1.size := (hP h.1 _ hi).lt
  have h2 : Bs ≤ q1 := hD.2 h.1 _ hi
  rcases Nat.lt_or_ge (q1 - Bs) h.1 with h3 | h3
  · have hj : (xws G Bs h ++ [(q1, v)])[q1 - Bs]? = some (Bs + (q1 - Bs), xce G Bs (h.2.2 (q1 - Bs))) := by
      rw [List.getElem?_append_left (by rw [xws_len]; exact h3)]
      exact xws_get h3
    have := hD.1 h.1 (q1 - Bs) _ _ hi hj (by show q1 = Bs + (q1 - Bs); omega)
    omega
  · omega
/-- the contract of a method, run from (as, h) to (r, h') -/
def xCon (l : Launch) (D : va_G) (G : xG) (Bs : Nat) (q : xMI) (as : List Value) (h : xH) (r : Option Value) (h' : xH) : Prop :=
  Met l q.2.1 (xwd q) (xRm q (h'.1 - h.1) (h'.2.1 - h.2.1)) (xPc D G Bs as h) (xQc D G Bs r h') (h'.1 - h.1) (h'.2.1 - h.2.1) (fun a => Bs ≤ a)
theorem xPc_blind (as : List Value) (h : xH) : FrameBlind (xPc D G Bs as h) := fun a U g mk q => by
  obtain ⟨q0, q1, qP, qK, qN, qA⟩ := q
  exact ⟨q0, q1, qP, va_K.moved (u := U) (U := U.calling g mk a) (Vm.Alike.refl U.vm) qK, fun z hz => va_Nw.same (u := U) (U := U.calling g mk a) rfl rfl (qN z hz), va_AO.moved (u := U) (U := U.calling g mk a) (Vm.Alike.refl U.vm) qA⟩
theorem xPc_at {as : List Value} {h : xH} {H : Heap} (hz : H.size = Bs + h.1) (hP : va_P D vwCl (xws G Bs h) H) (hK : va_K D vwCl (xtys G) s) (hN : xNw s) (U : State) (hU : U.heap = H) (hW : s.WarmedH U.vm) : xPc D G Bs as h (as.map (xcv Bs)).toArray U :=
  ⟨rfl, by rw [hU]; exact hz, by rw [hU]; exact hP, va_K.moved hW.alike hK, fun z hz => va_Nw.warmM hW (hN.1 z hz), va_AO.moved hW.alike hN.2⟩

variable {q : xMI} {h0 : Nat × Nat} {r : Option Value} {h' : xH} {K : Nat → xL → List Value → xH → Option xR} {C : Nat → List Value → xH → Option xR}
set_option maxHeartbeats 1000000 in
theorem xs_iconst (hq : xmOK q) (cx : xCx D G p s m args meth c q) (hs0 : s.heap.size = Bs + h0.1) (hK : ∀ pc L st h, K pc L st h = some (r, h') → xW l D G Bs p e s m args below meth c q h0 r h' pc L st h)
    (hG : ∀ pc L st h, xgo h (K pc L st h)) (hC : ∀ j as h r1 h1 q1, xmis[j]? = some q1 → C j as h = some (r1, h1) → xwf h → xCon l D G Bs q1 as h r1 h1) (hCG : ∀ j as h, xgo h (C j as h))
    {pc n a b d : Nat} {k : Int32} {sw : List (Int32 × Nat)} {L : xL} {st : List Value} {h : xH} {v : Int} (hok : xoki q pc (.iconst v, n, a, b, d, k, sw) = true) (hx : xF K C (.iconst v, n, a, b, d, k, sw) L st h = some (r, h')) : xW l D G Bs p e s m args below meth c q h0 r h' pc L st h := by
  obtain ⟨hxe, hb, hr, hml, hown, hts, hlk, hin, hKv, hNw⟩ := cx
  simp only [xoki, xdc, Bool.and_eq_true, decide_eq_true_eq] at hok
  obtain ⟨⟨hdg, hn⟩, hv⟩ := hok
  have hn := Nat.eq_of_beq_eq_true hn
  subst hn
  have hx : K _ L (.int k :: st) h = some (r, h') := hx
  intro H locs ls hwf hl1 hl2 hP hS hL
  exact lv_iconst hxe hb hdg hv (hK _ _ _ _ hx H locs ls hwf hl1 hl2 hP hS hL)
set_option maxHeartbeats 1000000 in
theorem xs_bipush (hq : xmOK q) (cx : xCx D G p s m args meth c q) (hs0 : s.heap.size = Bs + h0.1) (hK : ∀ pc L st h, K pc L st h = some (r, h') → xW l D G Bs p e s m args below meth c q h0 r h' pc L st h)
    (hG : ∀ pc L st h, xgo h (K pc L st h)) (hC : ∀ j as h r1 h1 q1, xmis[j]? = some q1 → C j as h = some (r1, h1) → xwf h → xCon l D G Bs q1 as h r1 h1) (hCG : ∀ j as h, xgo h (C j as h))
    {pc n a b d : Nat} {k : Int32} {sw : List (Int32 × Nat)} {L : xL} {st : List Value} {h : xH} {v : Int} (hok : xoki q pc (.bipush v, n, a, b, d, k, sw) = true) (hx : xF K C (.bipush v, n, a, b, d, k, sw) L st h = some (r, h')) : xW l D G Bs p e s m args below meth c q h0 r h' pc L st h := by
  obtain ⟨hxe, hb, hr, hml, hown, hts, hlk, hin, hKv, hNw⟩ := cx
  simp only [xoki, xdc, Bool.and_eq_true, decide_eq_true_eq] at hok
  obtain ⟨⟨hdg, hn⟩, hv⟩ := hok
  have hn := Nat.eq_of_beq_eq_true hn
  subst hn
  have hx : K _ L (.int k :: st) h = some (r, h') := hx
  intro H locs ls hwf hl1 hl2 hP hS hL
  exact lv_bipush hxe hb hdg hv (hK _ _ _ _ hx H locs ls hwf hl1 hl2 hP hS hL)
set_option maxHeartbeats 1000000 in
theorem xs_sipush (hq : xmOK q) (cx : xCx D G p s m args meth c q) (hs0 : s.heap.size = Bs + h0.1) (hK : ∀ pc L st h, K pc L st h = some (r, h') → xW l D G Bs p e s m args below meth c q h0 r h' pc L st h)
    (hG : ∀ pc L st h, xgo h (K pc L st h)) (hC : ∀ j as h r1 h1 q1, xmis[j]? = some q1 → C j as h = some (r1, h1) → xwf h → xCon l D G Bs q1 as h r1 h1) (hCG : ∀ j as h, xgo h (C j as h))
    {pc n a b d : Nat} {k : Int32} {sw : List (Int32 × Nat)} {L : xL} {st : List Value} {h : xH} {v : Int} (hok : xoki q pc (.sipush v, n, a, b, d, k, sw) = true) (hx : xF K C (.sipush v, n, a, b, d, k, sw) L st h = some (r, h')) : xW l D G Bs p e s m args below meth c q h0 r h' pc L st h := by
  obtain ⟨hxe, hb, hr, hml, hown, hts, hlk, hin, hKv, hNw⟩ := cx
  simp only [xoki, xdc, Bool.and_eq_true, decide_eq_true_eq] at hok
  obtain ⟨⟨hdg, hn⟩, hv⟩ := hok
  have hn := Nat.eq_of_beq_eq_true hn
  subst hn
  have hx : K _ L (.int k :: st) h = some (r, h') := hx
  intro H locs ls hwf hl1 hl2 hP hS hL
  exact lv_sipush hxe hb hdg hv (hK _ _ _ _ hx H locs ls hwf hl1 hl2 hP hS hL)
set_option maxHeartbeats 1000000 in
theorem xs_ldc (hq : xmOK q) (cx : xCx D G p s m args meth c q) (hs0 : s.heap.size = Bs + h0.1) (hK : ∀ pc L st h, K pc L st h = some (r, h') → xW l D G Bs p e s m args below meth c q h0 r h' pc L st h)
    (hG : ∀ pc L st h, xgo h (K pc L st h)) (hC : ∀ j as h r1 h1 q1, xmis[j]? = some q1 → C j as h = some (r1, h1) → xwf h → xCon l D G Bs q1 as h r1 h1) (hCG : ∀ j as h, xgo h (C j as h))
    {pc n a b d : Nat} {k : Int32} {sw : List (Int32 × Nat)} {L : xL} {st : List Value} {h : xH} {ix : Nat} (hok : xoki q pc (.ldc ix, n, a, b, d, k, sw) = true) (hx : xF K C (.ldc ix, n, a, b, d, k, sw) L st h = some (r, h')) : xW l D G Bs p e s m args below meth c q h0 r h' pc L st h := by
  obtain ⟨hxe, hb, hr, hml, hown, hts, hlk, hin, hKv, hNw⟩ := cx
  simp only [xoki, xdc, Bool.and_eq_true, decide_eq_true_eq] at hok
  obtain ⟨⟨hdg, hn⟩, hv⟩ := hok
  have hn := Nat.eq_of_beq_eq_true hn
  subst hn
  have hx : K _ L (.int k :: st) h = some (r, h') := hx
  intro H locs ls hwf hl1 hl2 hP hS hL
  exact lv_ldc hxe hb hown (hts _ (xcs_ok _ (List.elem_iff.mp hv))) hdg (hK _ _ _ _ hx H locs ls hwf hl1 hl2 hP hS hL)
set_option maxHeartbeats 1000000 in
theorem xs_ldc2 (hq : xmOK q) (cx : xCx D G p s m args meth c q) (hs0 : s.heap.size = Bs + h0.1) (hK : ∀ pc L st h, K pc L st h = some (r, h') → xW l D G Bs p e s m args below meth c q h0 r h' pc L st h)
    (hG : ∀ pc L st h, xgo h (K pc L st h)) (hC : ∀ j as h r1 h1 q1, xmis[j]? = some q1 → C j as h = some (r1, h1) → xwf h → xCon l D G Bs q1 as h r1 h1) (hCG : ∀ j as h, xgo h (C j as h))
    {pc n a b d : Nat} {k : Int32} {sw : List (Int32 × Nat)} {L : xL} {st : List Value} {h : xH} {ix : Nat} (hok : xoki q pc (.ldc2_w ix, n, a, b, d, k, sw) = true) (hx : xF K C (.ldc2_w ix, n, a, b, d, k, sw) L st h = some (r, h')) : xW l D G Bs p e s m args below meth c q h0 r h' pc L st h := by
  obtain ⟨hxe, hb, hr, hml, hown, hts, hlk, hin, hKv, hNw⟩ := cx
  simp only [xoki, xdc, Bool.and_eq_true, decide_eq_true_eq] at hok
  obtain ⟨⟨hdg, hn⟩, hv⟩ := hok
  have hn := Nat.eq_of_beq_eq_true hn
  subst hn
  have hx : K _ L (.long k.toInt64 :: st) h = some (r, h') := hx
  intro H locs ls hwf hl1 hl2 hP hS hL
  exact lv_ldc2 hxe hb hown (hts _ (xcsl_ok _ (List.elem_iff.mp hv))) hdg (hK _ _ _ _ hx H locs ls hwf hl1 hl2 hP hS hL)
set_option maxHeartbeats 1000000 in
theorem xs_iload_n (hq : xmOK q) (cx : xCx D G p s m args meth c q) (hs0 : s.heap.size = Bs + h0.1) (hK : ∀ pc L st h, K pc L st h = some (r, h') → xW l D G Bs p e s m args below meth c q h0 r h' pc L st h)
    (hG : ∀ pc L st h, xgo h (K pc L st h)) (hC : ∀ j as h r1 h1 q1, xmis[j]? = some q1 → C j as h = some (r1, h1) → xwf h → xCon l D G Bs q1 as h r1 h1) (hCG : ∀ j as h, xgo h (C j as h))
    {pc n a b d : Nat} {k : Int32} {sw : List (Int32 × Nat)} {L : xL} {st : List Value} {h : xH} {i : Fin 4} (hok : xoki q pc (.iload_n i, n, a, b, d, k, sw) = true) (hx : xF K C (.iload_n i, n, a, b, d, k, sw) L st h = some (r, h')) : xW l D G Bs p e s m args below meth c q h0 r h' pc L st h := by
  obtain ⟨hxe, hb, hr, hml, hown, hts, hlk, hin, hKv, hNw⟩ := cx
  simp only [xoki, xdc, Bool.and_eq_true, decide_eq_true_eq] at hok
  obtain ⟨hdg, hn⟩ := hok
  have hn := Nat.eq_of_beq_eq_true hn
  subst hn
  obtain ⟨x, e1, hx_⟩ := Option.bind_eq_some_iff.mp hx
  clear hx
  have hx := hx_
  clear hx_
  replace e1 := xvI_inv e1
  intro H locs ls hwf hl1 hl2 hP hS hL
  exact lv_iload_n hxe hb hdg rfl (xLo_at hL e1) (hK _ _ _ _ hx H locs ls hwf hl1 hl2 hP hS hL)
set_option maxHeartbeats 1000000 in
theorem xs_iload (hq : xmOK q) (cx : xCx D G p s m args meth c q) (hs0 : s.heap.size = Bs + h0.1) (hK : ∀ pc L st h, K pc L st h = some (r, h') → xW l D G Bs p e s m args below meth c q h0 r h' pc L st h)
    (hG : ∀ pc L st h, xgo h (K pc L st h)) (hC : ∀ j as h r1 h1 q1, xmis[j]? = some q1 → C j as h = some (r1, h1) → xwf h → xCon l D G Bs q1 as h r1 h1) (hCG : ∀ j as h, xgo h (C j as h))
    {pc n a b d : Nat} {k : Int32} {sw : List (Int32 × Nat)} {L : xL} {st : List Value} {h : xH} {i : Nat} (hok : xoki q pc (.iload i, n, a, b, d, k, sw) = true) (hx : xF K C (.iload i, n, a, b, d, k, sw) L st h = some (r, h')) : xW l D G Bs p e s m args below meth c q h0 r h' pc L st h := by
  obtain ⟨hxe, hb, hr, hml, hown, hts, hlk, hin, hKv, hNw⟩ := cx
  simp only [xoki, xdc, Bool.and_eq_true, decide_eq_true_eq] at hok
  obtain ⟨hdg, hn⟩ := hok
  have hn := Nat.eq_of_beq_eq_true hn
  subst hn
  obtain ⟨x, e1, hx_⟩ := Option.bind_eq_some_iff.mp hx
  clear hx
  have hx := hx_
  clear hx_
  replace e1 := xvI_inv e1
  intro H locs ls hwf hl1 hl2 hP hS hL
  exact lv_iload hxe hb hdg (xLo_at hL e1) (hK _ _ _ _ hx H locs ls hwf hl1 hl2 hP hS hL)
set_option maxHeartbeats 1000000 in
theorem xs_aload_n (hq : xmOK q) (cx : xCx D G p s m args meth c q) (hs0 : s.heap.size = Bs + h0.1) (hK : ∀ pc L st h, K pc L st h = some (r, h') → xW l D G Bs p e s m args below meth c q h0 r h' pc L st h)
    (hG : ∀ pc L st h, xgo h (K pc L st h)) (hC : ∀ j as h r1 h1 q1, xmis[j]? = some q1 → C j as h = some (r1, h1) → xwf h → xCon l D G Bs q1 as h r1 h1) (hCG : ∀ j as h, xgo h (C j as h))
    {pc n a b d : Nat} {k : Int32} {sw : List (Int32 × Nat)} {L : xL} {st : List Value} {h : xH} {i : Fin 4} (hok : xoki q pc (.aload_n i, n, a, b, d, k, sw) = true) (hx : xF K C (.aload_n i, n, a, b, d, k, sw) L st h = some (r, h')) : xW l D G Bs p e s m args below meth c q h0 r h' pc L st h := by
  obtain ⟨hxe, hb, hr, hml, hown, hts, hlk, hin, hKv, hNw⟩ := cx
  simp only [xoki, xdc, Bool.and_eq_true, decide_eq_true_eq] at hok
  obtain ⟨hdg, hn⟩ := hok
  have hn := Nat.eq_of_beq_eq_true hn
  subst hn
  obtain ⟨x, e1, hx_⟩ := Option.bind_eq_some_iff.mp hx
  clear hx
  have hx := hx_
  clear hx_
  replace e1 := xvA_inv e1
  intro H locs ls hwf hl1 hl2 hP hS hL
  exact lv_aload_n hxe hb hdg rfl (xLo_at hL e1) (hK _ _ _ _ hx H locs ls hwf hl1 hl2 hP hS hL)
set_option maxHeartbeats 1000000 in
theorem xs_aload (hq : xmOK q) (cx : xCx D G p s m args meth c q) (hs0 : s.heap.size = Bs + h0.1) (hK : ∀ pc L st h, K pc L st h = some (r, h') → xW l D G Bs p e s m args below meth c q h0 r h' pc L st h)
    (hG : ∀ pc L st h, xgo h (K pc L st h)) (hC : ∀ j as h r1 h1 q1, xmis[j]? = some q1 → C j as h = some (r1, h1) → xwf h → xCon l D G Bs q1 as h r1 h1) (hCG : ∀ j as h, xgo h (C j as h))
    {pc n a b d : Nat} {k : Int32} {sw : List (Int32 × Nat)} {L : xL} {st : List Value} {h : xH} {i : Nat} (hok : xoki q pc (.aload i, n, a, b, d, k, sw) = true) (hx : xF K C (.aload i, n, a, b, d, k, sw) L st h = some (r, h')) : xW l D G Bs p e s m args below meth c q h0 r h' pc L st h := by
  obtain ⟨hxe, hb, hr, hml, hown, hts, hlk, hin, hKv, hNw⟩ := cx
  simp only [xoki, xdc, Bool.and_eq_true, decide_eq_true_eq] at hok
  obtain ⟨hdg, hn⟩ := hok
  have hn := Nat.eq_of_beq_eq_true hn
  subst hn
  obtain ⟨x, e1, hx_⟩ := Option.bind_eq_some_iff.mp hx
  clear hx
  have hx := hx_
  clear hx_
  replace e1 := xvA_inv e1
  intro H locs ls hwf hl1 hl2 hP hS hL
  exact lv_aload hxe hb hdg (xLo_at hL e1) (hK _ _ _ _ hx H locs ls hwf hl1 hl2 hP hS hL)
set_option maxHeartbeats 1000000 in
theorem xs_lload_n (hq : xmOK q) (cx : xCx D G p s m args meth c q) (hs0 : s.heap.size = Bs + h0.1) (hK : ∀ pc L st h, K pc L st h = some (r, h') → xW l D G Bs p e s m args below meth c q h0 r h' pc L st h)
    (hG : ∀ pc L st h, xgo h (K pc L st h)) (hC : ∀ j as h r1 h1 q1, xmis[j]? = some q1 → C j as h = some (r1, h1) → xwf h → xCon l D G Bs q1 as h r1 h1) (hCG : ∀ j as h, xgo h (C j as h))
    {pc n a b d : Nat} {k : Int32} {sw : List (Int32 × Nat)} {L : xL} {st : List Value} {h : xH} {i : Fin 4} (hok : xoki q pc (.lload_n i, n, a, b, d, k, sw) = true) (hx : xF K C (.lload_n i, n, a, b, d, k, sw) L st h = some (r, h')) : xW l D G Bs p e s m args below meth c q h0 r h' pc L st h := by
  obtain ⟨hxe, hb, hr, hml, hown, hts, hlk, hin, hKv, hNw⟩ := cx
  simp only [xoki, xdc, Bool.and_eq_true, decide_eq_true_eq] at hok
  obtain ⟨hdg, hn⟩ := hok
  have hn := Nat.eq_of_beq_eq_true hn
  subst hn
  obtain ⟨x, e1, hx_⟩ := Option.bind_eq_some_iff.mp hx
  clear hx
  have hx := hx_
  clear hx_
  replace e1 := xvL_inv e1
  intro H locs ls hwf hl1 hl2 hP hS hL
  exact lv_lload_n hxe hb hdg rfl (xLo_at hL e1) (hK _ _ _ _ hx H locs ls hwf hl1 hl2 hP hS hL)
set_option maxHeartbeats 1000000 in
theorem xs_lload (hq : xmOK q) (cx : xCx D G p s m args meth c q) (hs0 : s.heap.size = Bs + h0.1) (hK : ∀ pc L st h, K pc L st h = some (r, h') → xW l D G Bs p e s m args below meth c q h0 r h' pc L st h)
    (hG : ∀ pc L st h, xgo h (K pc L st h)) (hC : ∀ j as h r1 h1 q1, xmis[j]? = some q1 → C j as h = some (r1, h1) → xwf h → xCon l D G Bs q1 as h r1 h1) (hCG : ∀ j as h, xgo h (C j as h))
    {pc n a b d : Nat} {k : Int32} {sw : List (Int32 × Nat)} {L : xL} {st : List Value} {h : xH} {i : Nat} (hok : xoki q pc (.lload i, n, a, b, d, k, sw) = true) (hx : xF K C (.lload i, n, a, b, d, k, sw) L st h = some (r, h')) : xW l D G Bs p e s m args below meth c q h0 r h' pc L st h := by
  obtain ⟨hxe, hb, hr, hml, hown, hts, hlk, hin, hKv, hNw⟩ := cx
  simp only [xoki, xdc, Bool.and_eq_true, decide_eq_true_eq] at hok
  obtain ⟨hdg, hn⟩ := hok
  have hn := Nat.eq_of_beq_eq_true hn
  subst hn
  obtain ⟨x, e1, hx_⟩ := Option.bind_eq_some_iff.mp hx
  clear hx
  have hx := hx_
  clear hx_
  replace e1 := xvL_inv e1
  intro H locs ls hwf hl1 hl2 hP hS hL
  exact lv_lload hxe hb hdg (xLo_at hL e1) (hK _ _ _ _ hx H locs ls hwf hl1 hl2 hP hS hL)
set_option maxHeartbeats 1000000 in
theorem xs_istore_n (hq : xmOK q) (cx : xCx D G p s m args meth c q) (hs0 : s.heap.size = Bs + h0.1) (hK : ∀ pc L st h, K pc L st h = some (r, h') → xW l D G Bs p e s m args below meth c q h0 r h' pc L st h)
    (hG : ∀ pc L st h, xgo h (K pc L st h)) (hC : ∀ j as h r1 h1 q1, xmis[j]? = some q1 → C j as h = some (r1, h1) → xwf h → xCon l D G Bs q1 as h r1 h1) (hCG : ∀ j as h, xgo h (C j as h))
    {pc n a b d : Nat} {k : Int32} {sw : List (Int32 × Nat)} {L : xL} {st : List Value} {h : xH} {i : Fin 4} (hok : xoki q pc (.istore_n i, n, a, b, d, k, sw) = true) (hx : xF K C (.istore_n i, n, a, b, d, k, sw) L st h = some (r, h')) : xW l D G Bs p e s m args below meth c q h0 r h' pc L st h := by
  obtain ⟨hxe, hb, hr, hml, hown, hts, hlk, hin, hKv, hNw⟩ := cx
  simp only [xoki, xdc, Bool.and_eq_true, decide_eq_true_eq] at hok
  obtain ⟨⟨hdg, hn⟩, hi⟩ := hok
  have hn := Nat.eq_of_beq_eq_true hn
  subst hn
  obtain ⟨x, e1, hx_⟩ := Option.bind_eq_some_iff.mp hx
  clear hx
  have hx := hx_
  clear hx_
  replace e1 := xpI_inv e1
  subst e1
  intro H locs ls hwf hl1 hl2 hP hS hL
  exact lv_istore_n hxe hb hdg rfl hL.2 (Nat.le_of_ble_eq_true hi) rfl (fun ls' hl' => hK _ _ _ _ hx H locs ls' hwf hl1 hl2 hP hS (xLo_st hL.1 hl'))
set_option maxHeartbeats 1000000 in
theorem xs_istore (hq : xmOK q) (cx : xCx D G p s m args meth c q) (hs0 : s.heap.size = Bs + h0.1) (hK : ∀ pc L st h, K pc L st h = some (r, h') → xW l D G Bs p e s m args below meth c q h0 r h' pc L st h)
    (hG : ∀ pc L st h, xgo h (K pc L st h)) (hC : ∀ j as h r1 h1 q1, xmis[j]? = some q1 → C j as h = some (r1, h1) → xwf h → xCon l D G Bs q1 as h r1 h1) (hCG : ∀ j as h, xgo h (C j as h))
    {pc n a b d : Nat} {k : Int32} {sw : List (Int32 × Nat)} {L : xL} {st : List Value} {h : xH} {i : Nat} (hok : xoki q pc (.istore i, n, a, b, d, k, sw) = true) (hx : xF K C (.istore i, n, a, b, d, k, sw) L st h = some (r, h')) : xW l D G Bs p e s m args below meth c q h0 r h' pc L st h := by
  obtain ⟨hxe, hb, hr, hml, hown, hts, hlk, hin, hKv, hNw⟩ := cx
  simp only [xoki, xdc, Bool.and_eq_true, decide_eq_true_eq] at hok
  obtain ⟨⟨hdg, hn⟩, hi⟩ := hok
  have hn := Nat.eq_of_beq_eq_true hn
  subst hn
  obtain ⟨x, e1, hx_⟩ := Option.bind_eq_some_iff.mp hx
  clear hx
  have hx := hx_
  clear hx_
  replace e1 := xpI_inv e1
  subst e1
  intro H locs ls hwf hl1 hl2 hP hS hL
  exact lv_istore hxe hb hdg hL.2 (Nat.le_of_ble_eq_true hi) rfl (fun ls' hl' => hK _ _ _ _ hx H locs ls' hwf hl1 hl2 hP hS (xLo_st hL.1 hl'))
set_option maxHeartbeats 1000000 in
theorem xs_astore_n (hq : xmOK q) (cx : xCx D G p s m args meth c q) (hs0 : s.heap.size = Bs + h0.1) (hK : ∀ pc L st h, K pc L st h = some (r, h') → xW l D G Bs p e s m args below meth c q h0 r h' pc L st h)
    (hG : ∀ pc L st h, xgo h (K pc L st h)) (hC : ∀ j as h r1 h1 q1, xmis[j]? = some q1 → C j as h = some (r1, h1) → xwf h → xCon l D G Bs q1 as h r1 h1) (hCG : ∀ j as h, xgo h (C j as h))
    {pc n a b d : Nat} {k : Int32} {sw : List (Int32 × Nat)} {L : xL} {st : List Value} {h : xH} {i : Fin 4} (hok : xoki q pc (.astore_n i, n, a, b, d, k, sw) = true) (hx : xF K C (.astore_n i, n, a, b, d, k, sw) L st h = some (r, h')) : xW l D G Bs p e s m args below meth c q h0 r h' pc L st h := by
  obtain ⟨hxe, hb, hr, hml, hown, hts, hlk, hin, hKv, hNw⟩ := cx
  simp only [xoki, xdc, Bool.and_eq_true, decide_eq_true_eq] at hok
  obtain ⟨⟨hdg, hn⟩, hi⟩ := hok
  have hn := Nat.eq_of_beq_eq_true hn
  subst hn
  obtain ⟨x, e1, hx_⟩ := Option.bind_eq_some_iff.mp hx
  clear hx
  have hx := hx_
  clear hx_
  replace e1 := xpA_inv e1
  subst e1
  intro H locs ls hwf hl1 hl2 hP hS hL
  exact lv_astore_n hxe hb hdg rfl hL.2 (Nat.le_of_ble_eq_true hi) rfl (fun ls' hl' => hK _ _ _ _ hx H locs ls' hwf hl1 hl2 hP hS (xLo_st hL.1 hl'))
set_option maxHeartbeats 1000000 in
theorem xs_astore (hq : xmOK q) (cx : xCx D G p s m args meth c q) (hs0 : s.heap.size = Bs + h0.1) (hK : ∀ pc L st h, K pc L st h = some (r, h') → xW l D G Bs p e s m args below meth c q h0 r h' pc L st h)
    (hG : ∀ pc L st h, xgo h (K pc L st h)) (hC : ∀ j as h r1 h1 q1, xmis[j]? = some q1 → C j as h = some (r1, h1) → xwf h → xCon l D G Bs q1 as h r1 h1) (hCG : ∀ j as h, xgo h (C j as h))
    {pc n a b d : Nat} {k : Int32} {sw : List (Int32 × Nat)} {L : xL} {st : List Value} {h : xH} {i : Nat} (hok : xoki q pc (.astore i, n, a, b, d, k, sw) = true) (hx : xF K C (.astore i, n, a, b, d, k, sw) L st h = some (r, h')) : xW l D G Bs p e s m args below meth c q h0 r h' pc L st h := by
  obtain ⟨hxe, hb, hr, hml, hown, hts, hlk, hin, hKv, hNw⟩ := cx
  simp only [xoki, xdc, Bool.and_eq_true, decide_eq_true_eq] at hok
  obtain ⟨⟨hdg, hn⟩, hi⟩ := hok
  have hn := Nat.eq_of_beq_eq_true hn
  subst hn
  obtain ⟨x, e1, hx_⟩ := Option.bind_eq_some_iff.mp hx
  clear hx
  have hx := hx_
  clear hx_
  replace e1 := xpA_inv e1
  subst e1
  intro H locs ls hwf hl1 hl2 hP hS hL
  exact lv_astore hxe hb hdg hL.2 (Nat.le_of_ble_eq_true hi) rfl (fun ls' hl' => hK _ _ _ _ hx H locs ls' hwf hl1 hl2 hP hS (xLo_st hL.1 hl'))
set_option maxHeartbeats 1000000 in
theorem xs_lstore_n (hq : xmOK q) (cx : xCx D G p s m args meth c q) (hs0 : s.heap.size = Bs + h0.1) (hK : ∀ pc L st h, K pc L st h = some (r, h') → xW l D G Bs p e s m args below meth c q h0 r h' pc L st h)
    (hG : ∀ pc L st h, xgo h (K pc L st h)) (hC : ∀ j as h r1 h1 q1, xmis[j]? = some q1 → C j as h = some (r1, h1) → xwf h → xCon l D G Bs q1 as h r1 h1) (hCG : ∀ j as h, xgo h (C j as h))
    {pc n a b d : Nat} {k : Int32} {sw : List (Int32 × Nat)} {L : xL} {st : List Value} {h : xH} {i : Fin 4} (hok : xoki q pc (.lstore_n i, n, a, b, d, k, sw) = true) (hx : xF K C (.lstore_n i, n, a, b, d, k, sw) L st h = some (r, h')) : xW l D G Bs p e s m args below meth c q h0 r h' pc L st h := by
  obtain ⟨hxe, hb, hr, hml, hown, hts, hlk, hin, hKv, hNw⟩ := cx
  simp only [xoki, xdc, Bool.and_eq_true, decide_eq_true_eq] at hok
  obtain ⟨⟨hdg, hn⟩, hi⟩ := hok
  have hn := Nat.eq_of_beq_eq_true hn
  subst hn
  obtain ⟨x, e1, hx_⟩ := Option.bind_eq_some_iff.mp hx
  clear hx
  have hx := hx_
  clear hx_
  replace e1 := xpL_inv e1
  subst e1
  intro H locs ls hwf hl1 hl2 hP hS hL
  exact lv_lstore_n hxe hb hdg rfl hL.2 (Nat.le_of_ble_eq_true hi) rfl (fun ls' hl' => hK _ _ _ _ hx H locs ls' hwf hl1 hl2 hP hS (xLo_st2 hL.1 hl'))
set_option maxHeartbeats 1000000 in
theorem xs_lstore (hq : xmOK q) (cx : xCx D G p s m args meth c q) (hs0 : s.heap.size = Bs + h0.1) (hK : ∀ pc L st h, K pc L st h = some (r, h') → xW l D G Bs p e s m args below meth c q h0 r h' pc L st h)
    (hG : ∀ pc L st h, xgo h (K pc L st h)) (hC : ∀ j as h r1 h1 q1, xmis[j]? = some q1 → C j as h = some (r1, h1) → xwf h → xCon l D G Bs q1 as h r1 h1) (hCG : ∀ j as h, xgo h (C j as h))
    {pc n a b d : Nat} {k : Int32} {sw : List (Int32 × Nat)} {L : xL} {st : List Value} {h : xH} {i : Nat} (hok : xoki q pc (.lstore i, n, a, b, d, k, sw) = true) (hx : xF K C (.lstore i, n, a, b, d, k, sw) L st h = some (r, h')) : xW l D G Bs p e s m args below meth c q h0 r h' pc L st h := by
  obtain ⟨hxe, hb, hr, hml, hown, hts, hlk, hin, hKv, hNw⟩ := cx
  simp only [xoki, xdc, Bool.and_eq_true, decide_eq_true_eq] at hok
  obtain ⟨⟨hdg, hn⟩, hi⟩ := hok
  have hn := Nat.eq_of_beq_eq_true hn
  subst hn
  obtain ⟨x, e1, hx_⟩ := Option.bind_eq_some_iff.mp hx
  clear hx
  have hx := hx_
  clear hx_
  replace e1 := xpL_inv e1
  subst e1
  intro H locs ls hwf hl1 hl2 hP hS hL
  exact lv_lstore hxe hb hdg hL.2 (Nat.le_of_ble_eq_true hi) rfl (fun ls' hl' => hK _ _ _ _ hx H locs ls' hwf hl1 hl2 hP hS (xLo_st2 hL.1 hl'))
set_option maxHeartbeats 1000000 in
theorem xs_iinc (hq : xmOK q) (cx : xCx D G p s m args meth c q) (hs0 : s.heap.size = Bs + h0.1) (hK : ∀ pc L st h, K pc L st h = some (r, h') → xW l D G Bs p e s m args below meth c q h0 r h' pc L st h)
    (hG : ∀ pc L st h, xgo h (K pc L st h)) (hC : ∀ j as h r1 h1 q1, xmis[j]? = some q1 → C j as h = some (r1, h1) → xwf h → xCon l D G Bs q1 as h r1 h1) (hCG : ∀ j as h, xgo h (C j as h))
    {pc n a b d : Nat} {k : Int32} {sw : List (Int32 × Nat)} {L : xL} {st : List Value} {h : xH} {i : Nat} {v : Int} (hok : xoki q pc (.iinc i v, n, a, b, d, k, sw) = true) (hx : xF K C (.iinc i v, n, a, b, d, k, sw) L st h = some (r, h')) : xW l D G Bs p e s m args below meth c q h0 r h' pc L st h := by
  obtain ⟨hxe, hb, hr, hml, hown, hts, hlk, hin, hKv, hNw⟩ := cx
  simp only [xoki, xdc, Bool.and_eq_true, decide_eq_true_eq] at hok
  obtain ⟨⟨⟨hdg, hn⟩, hv⟩, hi⟩ := hok
  have hn := Nat.eq_of_beq_eq_true hn
  subst hn
  obtain ⟨x, e1, hx_⟩ := Option.bind_eq_some_iff.mp hx
  clear hx
  have hx := hx_
  clear hx_
  replace e1 := xvI_inv e1
  intro H locs ls hwf hl1 hl2 hP hS hL
  unfold xlc at e1
  obtain ⟨o1, e2, e3⟩ := Option.bind_eq_some_iff.mp e1
  have e3 : o1 = some (.int x) := e3
  subst e3
  obtain ⟨kk, hkk⟩ := List.getElem?_of_mem (xlv_mem (Bs := Bs) |>.mpr ⟨_, e2, rfl⟩)
  exact lv_iinc hxe hb hdg hL.2 hkk (by rw [hv]) (Nat.le_of_ble_eq_true hi) rfl (fun ls' hl' => hK _ _ _ _ hx H locs ls' hwf hl1 hl2 hP hS (xLo_st (v := .int (x + k)) hL.1 hl'))
set_option maxHeartbeats 1000000 in
theorem xs_iadd (hq : xmOK q) (cx : xCx D G p s m args meth c q) (hs0 : s.heap.size = Bs + h0.1) (hK : ∀ pc L st h, K pc L st h = some (r, h') → xW l D G Bs p e s m args below meth c q h0 r h' pc L st h)
    (hG : ∀ pc L st h, xgo h (K pc L st h)) (hC : ∀ j as h r1 h1 q1, xmis[j]? = some q1 → C j as h = some (r1, h1) → xwf h → xCon l D G Bs q1 as h r1 h1) (hCG : ∀ j as h, xgo h (C j as h))
    {pc n a b d : Nat} {k : Int32} {sw : List (Int32 × Nat)} {L : xL} {st : List Value} {h : xH}  (hok : xoki q pc (.iadd, n, a, b, d, k, sw) = true) (hx : xF K C (.iadd, n, a, b, d, k, sw) L st h = some (r, h')) : xW l D G Bs p e s m args below meth c q h0 r h' pc L st h := by
  obtain ⟨hxe, hb, hr, hml, hown, hts, hlk, hin, hKv, hNw⟩ := cx
  simp only [xoki, xdc, Bool.and_eq_true, decide_eq_true_eq] at hok
  obtain ⟨hdg, hn⟩ := hok
  have hn := Nat.eq_of_beq_eq_true hn
  subst hn
  obtain ⟨x, e1, hx_⟩ := Option.bind_eq_some_iff.mp hx
  clear hx
  have hx := hx_
  clear hx_
  replace e1 := xpI_inv e1
  obtain ⟨y, e2, hx_⟩ := Option.bind_eq_some_iff.mp hx
  clear hx
  have hx := hx_
  clear hx_
  replace e2 := xpI_inv e2
  rw [e2] at e1
  subst e1
  intro H locs ls hwf hl1 hl2 hP hS hL
  exact lv_iadd hxe hb hdg (hK _ _ _ _ hx H locs ls hwf hl1 hl2 hP hS hL)
set_option maxHeartbeats 1000000 in
theorem xs_isub (hq : xmOK q) (cx : xCx D G p s m args meth c q) (hs0 : s.heap.size = Bs + h0.1) (hK : ∀ pc L st h, K pc L st h = some (r, h') → xW l D G Bs p e s m args below meth c q h0 r h' pc L st h)
    (hG : ∀ pc L st h, xgo h (K pc L st h)) (hC : ∀ j as h r1 h1 q1, xmis[j]? = some q1 → C j as h = some (r1, h1) → xwf h → xCon l D G Bs q1 as h r1 h1) (hCG : ∀ j as h, xgo h (C j as h))
    {pc n a b d : Nat} {k : Int32} {sw : List (Int32 × Nat)} {L : xL} {st : List Value} {h : xH}  (hok : xoki q pc (.isub, n, a, b, d, k, sw) = true) (hx : xF K C (.isub, n, a, b, d, k, sw) L st h = some (r, h')) : xW l D G Bs p e s m args below meth c q h0 r h' pc L st h := by
  obtain ⟨hxe, hb, hr, hml, hown, hts, hlk, hin, hKv, hNw⟩ := cx
  simp only [xoki, xdc, Bool.and_eq_true, decide_eq_true_eq] at hok
  obtain ⟨hdg, hn⟩ := hok
  have hn := Nat.eq_of_beq_eq_true hn
  subst hn
  obtain ⟨x, e1, hx_⟩ := Option.bind_eq_some_iff.mp hx
  clear hx
  have hx := hx_
  clear hx_
  replace e1 := xpI_inv e1
  obtain ⟨y, e2, hx_⟩ := Option.bind_eq_some_iff.mp hx
  clear hx
  have hx := hx_
  clear hx_
  replace e2 := xpI_inv e2
  rw [e2] at e1
  subst e1
  intro H locs ls hwf hl1 hl2 hP hS hL
  exact lv_isub hxe hb hdg (hK _ _ _ _ hx H locs ls hwf hl1 hl2 hP hS hL)
set_option maxHeartbeats 1000000 in
theorem xs_imul (hq : xmOK q) (cx : xCx D G p s m args meth c q) (hs0 : s.heap.size = Bs + h0.1) (hK : ∀ pc L st h, K pc L st h = some (r, h') → xW l D G Bs p e s m args below meth c q h0 r h' pc L st h)
    (hG : ∀ pc L st h, xgo h (K pc L st h)) (hC : ∀ j as h r1 h1 q1, xmis[j]? = some q1 → C j as h = some (r1, h1) → xwf h → xCon l D G Bs q1 as h r1 h1) (hCG : ∀ j as h, xgo h (C j as h))
    {pc n a b d : Nat} {k : Int32} {sw : List (Int32 × Nat)} {L : xL} {st : List Value} {h : xH}  (hok : xoki q pc (.imul, n, a, b, d, k, sw) = true) (hx : xF K C (.imul, n, a, b, d, k, sw) L st h = some (r, h')) : xW l D G Bs p e s m args below meth c q h0 r h' pc L st h := by
  obtain ⟨hxe, hb, hr, hml, hown, hts, hlk, hin, hKv, hNw⟩ := cx
  simp only [xoki, xdc, Bool.and_eq_true, decide_eq_true_eq] at hok
  obtain ⟨hdg, hn⟩ := hok
  have hn := Nat.eq_of_beq_eq_true hn
  subst hn
  obtain ⟨x, e1, hx_⟩ := Option.bind_eq_some_iff.mp hx
  clear hx
  have hx := hx_
  clear hx_
  replace e1 := xpI_inv e1
  obtain ⟨y, e2, hx_⟩ := Option.bind_eq_some_iff.mp hx
  clear hx
  have hx := hx_
  clear hx_
  replace e2 := xpI_inv e2
  rw [e2] at e1
  subst e1
  intro H locs ls hwf hl1 hl2 hP hS hL
  exact lv_imul hxe hb hdg (hK _ _ _ _ hx H locs ls hwf hl1 hl2 hP hS hL)
set_option maxHeartbeats 1000000 in
theorem xs_iand (hq : xmOK q) (cx : xCx D G p s m args meth c q) (hs0 : s.heap.size = Bs + h0.1) (hK : ∀ pc L st h, K pc L st h = some (r, h') → xW l D G Bs p e s m args below meth c q h0 r h' pc L st h)
    (hG : ∀ pc L st h, xgo h (K pc L st h)) (hC : ∀ j as h r1 h1 q1, xmis[j]? = some q1 → C j as h = some (r1, h1) → xwf h → xCon l D G Bs q1 as h r1 h1) (hCG : ∀ j as h, xgo h (C j as h))
    {pc n a b d : Nat} {k : Int32} {sw : List (Int32 × Nat)} {L : xL} {st : List Value} {h : xH}  (hok : xoki q pc (.iand, n, a, b, d, k, sw) = true) (hx : xF K C (.iand, n, a, b, d, k, sw) L st h = some (r, h')) : xW l D G Bs p e s m args below meth c q h0 r h' pc L st h := by
  obtain ⟨hxe, hb, hr, hml, hown, hts, hlk, hin, hKv, hNw⟩ := cx
  simp only [xoki, xdc, Bool.and_eq_true, decide_eq_true_eq] at hok
  obtain ⟨hdg, hn⟩ := hok
  have hn := Nat.eq_of_beq_eq_true hn
  subst hn
  obtain ⟨x, e1, hx_⟩ := Option.bind_eq_some_iff.mp hx
  clear hx
  have hx := hx_
  clear hx_
  replace e1 := xpI_inv e1
  obtain ⟨y, e2, hx_⟩ := Option.bind_eq_some_iff.mp hx
  clear hx
  have hx := hx_
  clear hx_
  replace e2 := xpI_inv e2
  rw [e2] at e1
  subst e1
  intro H locs ls hwf hl1 hl2 hP hS hL
  exact lv_iand hxe hb hdg (hK _ _ _ _ hx H locs ls hwf hl1 hl2 hP hS hL)
set_option maxHeartbeats 1000000 in
theorem xs_ior (hq : xmOK q) (cx : xCx D G p s m args meth c q) (hs0 : s.heap.size = Bs + h0.1) (hK : ∀ pc L st h, K pc L st h = some (r, h') → xW l D G Bs p e s m args below meth c q h0 r h' pc L st h)
    (hG : ∀ pc L st h, xgo h (K pc L st h)) (hC : ∀ j as h r1 h1 q1, xmis[j]? = some q1 → C j as h = some (r1, h1) → xwf h → xCon l D G Bs q1 as h r1 h1) (hCG : ∀ j as h, xgo h (C j as h))
    {pc n a b d : Nat} {k : Int32} {sw : List (Int32 × Nat)} {L : xL} {st : List Value} {h : xH}  (hok : xoki q pc (.ior, n, a, b, d, k, sw) = true) (hx : xF K C (.ior, n, a, b, d, k, sw) L st h = some (r, h')) : xW l D G Bs p e s m args below meth c q h0 r h' pc L st h := by
  obtain ⟨hxe, hb, hr, hml, hown, hts, hlk, hin, hKv, hNw⟩ := cx
  simp only [xoki, xdc, Bool.and_eq_true, decide_eq_true_eq] at hok
  obtain ⟨hdg, hn⟩ := hok
  have hn := Nat.eq_of_beq_eq_true hn
  subst hn
  obtain ⟨x, e1, hx_⟩ := Option.bind_eq_some_iff.mp hx
  clear hx
  have hx := hx_
  clear hx_
  replace e1 := xpI_inv e1
  obtain ⟨y, e2, hx_⟩ := Option.bind_eq_some_iff.mp hx
  clear hx
  have hx := hx_
  clear hx_
  replace e2 := xpI_inv e2
  rw [e2] at e1
  subst e1
  intro H locs ls hwf hl1 hl2 hP hS hL
  exact lv_ior hxe hb hdg (hK _ _ _ _ hx H locs ls hwf hl1 hl2 hP hS hL)
set_option maxHeartbeats 1000000 in
theorem xs_ixor (hq : xmOK q) (cx : xCx D G p s m args meth c q) (hs0 : s.heap.size = Bs + h0.1) (hK : ∀ pc L st h, K pc L st h = some (r, h') → xW l D G Bs p e s m args below meth c q h0 r h' pc L st h)
    (hG : ∀ pc L st h, xgo h (K pc L st h)) (hC : ∀ j as h r1 h1 q1, xmis[j]? = some q1 → C j as h = some (r1, h1) → xwf h → xCon l D G Bs q1 as h r1 h1) (hCG : ∀ j as h, xgo h (C j as h))
    {pc n a b d : Nat} {k : Int32} {sw : List (Int32 × Nat)} {L : xL} {st : List Value} {h : xH}  (hok : xoki q pc (.ixor, n, a, b, d, k, sw) = true) (hx : xF K C (.ixor, n, a, b, d, k, sw) L st h = some (r, h')) : xW l D G Bs p e s m args below meth c q h0 r h' pc L st h := by
  obtain ⟨hxe, hb, hr, hml, hown, hts, hlk, hin, hKv, hNw⟩ := cx
  simp only [xoki, xdc, Bool.and_eq_true, decide_eq_true_eq] at hok
  obtain ⟨hdg, hn⟩ := hok
  have hn := Nat.eq_of_beq_eq_true hn
  subst hn
  obtain ⟨x, e1, hx_⟩ := Option.bind_eq_some_iff.mp hx
  clear hx
  have hx := hx_
  clear hx_
  replace e1 := xpI_inv e1
  obtain ⟨y, e2, hx_⟩ := Option.bind_eq_some_iff.mp hx
  clear hx
  have hx := hx_
  clear hx_
  replace e2 := xpI_inv e2
  rw [e2] at e1
  subst e1
  intro H locs ls hwf hl1 hl2 hP hS hL
  exact lv_ixor hxe hb hdg (hK _ _ _ _ hx H locs ls hwf hl1 hl2 hP hS hL)
set_option maxHeartbeats 1000000 in
theorem xs_ishl (hq : xmOK q) (cx : xCx D G p s m args meth c q) (hs0 : s.heap.size = Bs + h0.1) (hK : ∀ pc L st h, K pc L st h = some (r, h') → xW l D G Bs p e s m args below meth c q h0 r h' pc L st h)
    (hG : ∀ pc L st h, xgo h (K pc L st h)) (hC : ∀ j as h r1 h1 q1, xmis[j]? = some q1 → C j as h = some (r1, h1) → xwf h → xCon l D G Bs q1 as h r1 h1) (hCG : ∀ j as h, xgo h (C j as h))
    {pc n a b d : Nat} {k : Int32} {sw : List (Int32 × Nat)} {L : xL} {st : List Value} {h : xH}  (hok : xoki q pc (.ishl, n, a, b, d, k, sw) = true) (hx : xF K C (.ishl, n, a, b, d, k, sw) L st h = some (r, h')) : xW l D G Bs p e s m args below meth c q h0 r h' pc L st h := by
  obtain ⟨hxe, hb, hr, hml, hown, hts, hlk, hin, hKv, hNw⟩ := cx
  simp only [xoki, xdc, Bool.and_eq_true, decide_eq_true_eq] at hok
  obtain ⟨hdg, hn⟩ := hok
  have hn := Nat.eq_of_beq_eq_true hn
  subst hn
  obtain ⟨x, e1, hx_⟩ := Option.bind_eq_some_iff.mp hx
  clear hx
  have hx := hx_
  clear hx_
  replace e1 := xpI_inv e1
  obtain ⟨y, e2, hx_⟩ := Option.bind_eq_some_iff.mp hx
  clear hx
  have hx := hx_
  clear hx_
  replace e2 := xpI_inv e2
  rw [e2] at e1
  subst e1
  intro H locs ls hwf hl1 hl2 hP hS hL
  exact lv_ishl hxe hb hdg (hK _ _ _ _ hx H locs ls hwf hl1 hl2 hP hS hL)
set_option maxHeartbeats 1000000 in
theorem xs_ishr (hq : xmOK q) (cx : xCx D G p s m args meth c q) (hs0 : s.heap.size = Bs + h0.1) (hK : ∀ pc L st h, K pc L st h = some (r, h') → xW l D G Bs p e s m args below meth c q h0 r h' pc L st h)
    (hG : ∀ pc L st h, xgo h (K pc L st h)) (hC : ∀ j as h r1 h1 q1, xmis[j]? = some q1 → C j as h = some (r1, h1) → xwf h → xCon l D G Bs q1 as h r1 h1) (hCG : ∀ j as h, xgo h (C j as h))
    {pc n a b d : Nat} {k : Int32} {sw : List (Int32 × Nat)} {L : xL} {st : List Value} {h : xH}  (hok : xoki q pc (.ishr, n, a, b, d, k, sw) = true) (hx : xF K C (.ishr, n, a, b, d, k, sw) L st h = some (r, h')) : xW l D G Bs p e s m args below meth c q h0 r h' pc L st h := by
  obtain ⟨hxe, hb, hr, hml, hown, hts, hlk, hin, hKv, hNw⟩ := cx
  simp only [xoki, xdc, Bool.and_eq_true, decide_eq_true_eq] at hok
  obtain ⟨hdg, hn⟩ := hok
  have hn := Nat.eq_of_beq_eq_true hn
  subst hn
  obtain ⟨x, e1, hx_⟩ := Option.bind_eq_some_iff.mp hx
  clear hx
  have hx := hx_
  clear hx_
  replace e1 := xpI_inv e1
  obtain ⟨y, e2, hx_⟩ := Option.bind_eq_some_iff.mp hx
  clear hx
  have hx := hx_
  clear hx_
  replace e2 := xpI_inv e2
  rw [e2] at e1
  subst e1
  intro H locs ls hwf hl1 hl2 hP hS hL
  exact lv_ishr hxe hb hdg (hK _ _ _ _ hx H locs ls hwf hl1 hl2 hP hS hL)
set_option maxHeartbeats 1000000 in
theorem xs_idiv (hq : xmOK q) (cx : xCx D G p s m args meth c q) (hs0 : s.heap.size = Bs + h0.1) (hK : ∀ pc L st h, K pc L st h = some (r, h') → xW l D G Bs p e s m args below meth c q h0 r h' pc L st h)
    (hG : ∀ pc L st h, xgo h (K pc L st h)) (hC : ∀ j as h r1 h1 q1, xmis[j]? = some q1 → C j as h = some (r1, h1) → xwf h → xCon l D G Bs q1 as h r1 h1) (hCG : ∀ j as h, xgo h (C j as h))
    {pc n a b d : Nat} {k : Int32} {sw : List (Int32 × Nat)} {L : xL} {st : List Value} {h : xH}  (hok : xoki q pc (.idiv, n, a, b, d, k, sw) = true) (hx : xF K C (.idiv, n, a, b, d, k, sw) L st h = some (r, h')) : xW l D G Bs p e s m args below meth c q h0 r h' pc L st h := by
  obtain ⟨hxe, hb, hr, hml, hown, hts, hlk, hin, hKv, hNw⟩ := cx
  simp only [xoki, xdc, Bool.and_eq_true, decide_eq_true_eq] at hok
  obtain ⟨hdg, hn⟩ := hok
  have hn := Nat.eq_of_beq_eq_true hn
  subst hn
  obtain ⟨x, e1, hx_⟩ := Option.bind_eq_some_iff.mp hx
  clear hx
  have hx := hx_
  clear hx_
  replace e1 := xpI_inv e1
  obtain ⟨y, e2, hx_⟩ := Option.bind_eq_some_iff.mp hx
  clear hx
  have hx := hx_
  clear hx_
  replace e2 := xpI_inv e2
  rw [e2] at e1
  subst e1
  by_cases hz : x.1 = 0
  · rw [if_pos hz] at hx; cases hx
  rw [if_neg hz] at hx
  intro H locs ls hwf hl1 hl2 hP hS hL
  exact lv_idiv hxe hb hdg hz (hK _ _ _ _ hx H locs ls hwf hl1 hl2 hP hS hL)
set_option maxHeartbeats 1000000 in
theorem xs_irem (hq : xmOK q) (cx : xCx D G p s m args meth c q) (hs0 : s.heap.size = Bs + h0.1) (hK : ∀ pc L st h, K pc L st h = some (r, h') → xW l D G Bs p e s m args below meth c q h0 r h' pc L st h)
    (hG : ∀ pc L st h, xgo h (K pc L st h)) (hC : ∀ j as h r1 h1 q1, xmis[j]? = some q1 → C j as h = some (r1, h1) → xwf h → xCon l D G Bs q1 as h r1 h1) (hCG : ∀ j as h, xgo h (C j as h))
    {pc n a b d : Nat} {k : Int32} {sw : List (Int32 × Nat)} {L : xL} {st : List Value} {h : xH}  (hok : xoki q pc (.irem, n, a, b, d, k, sw) = true) (hx : xF K C (.irem, n, a, b, d, k, sw) L st h = some (r, h')) : xW l D G Bs p e s m args below meth c q h0 r h' pc L st h := by
  obtain ⟨hxe, hb, hr, hml, hown, hts, hlk, hin, hKv, hNw⟩ := cx
  simp only [xoki, xdc, Bool.and_eq_true, decide_eq_true_eq] at hok
  obtain ⟨hdg, hn⟩ := hok
  have hn := Nat.eq_of_beq_eq_true hn
  subst hn
  obtain ⟨x, e1, hx_⟩ := Option.bind_eq_some_iff.mp hx
  clear hx
  have hx := hx_
  clear hx_
  replace e1 := xpI_inv e1
  obtain ⟨y, e2, hx_⟩ := Option.bind_eq_some_iff.mp hx
  clear hx
  have hx := hx_
  clear hx_
  replace e2 := xpI_inv e2
  rw [e2] at e1
  subst e1
  by_cases hz : x.1 = 0
  · rw [if_pos hz] at hx; cases hx
  rw [if_neg hz] at hx
  intro H locs ls hwf hl1 hl2 hP hS hL
  exact lv_irem hxe hb hdg hz (hK _ _ _ _ hx H locs ls hwf hl1 hl2 hP hS hL)
set_option maxHeartbeats 1000000 in
theorem xs_ineg (hq : xmOK q) (cx : xCx D G p s m args meth c q) (hs0 : s.heap.size = Bs + h0.1) (hK : ∀ pc L st h, K pc L st h = some (r, h') → xW l D G Bs p e s m args below meth c q h0 r h' pc L st h)
    (hG : ∀ pc L st h, xgo h (K pc L st h)) (hC : ∀ j as h r1 h1 q1, xmis[j]? = some q1 → C j as h = some (r1, h1) → xwf h → xCon l D G Bs q1 as h r1 h1) (hCG : ∀ j as h, xgo h (C j as h))
    {pc n a b d : Nat} {k : Int32} {sw : List (Int32 × Nat)} {L : xL} {st : List Value} {h : xH}  (hok : xoki q pc (.ineg, n, a, b, d, k, sw) = true) (hx : xF K C (.ineg, n, a, b, d, k, sw) L st h = some (r, h')) : xW l D G Bs p e s m args below meth c q h0 r h' pc L st h := by
  obtain ⟨hxe, hb, hr, hml, hown, hts, hlk, hin, hKv, hNw⟩ := cx
  simp only [xoki, xdc, Bool.and_eq_true, decide_eq_true_eq] at hok
  obtain ⟨hdg, hn⟩ := hok
  have hn := Nat.eq_of_beq_eq_true hn
  subst hn
  obtain ⟨x, e1, hx_⟩ := Option.bind_eq_some_iff.mp hx
  clear hx
  have hx := hx_
  clear hx_
  replace e1 := xpI_inv e1
  subst e1
  intro H locs ls hwf hl1 hl2 hP hS hL
  exact lv_ineg hxe hb hdg (hK _ _ _ _ hx H locs ls hwf hl1 hl2 hP hS hL)
set_option maxHeartbeats 1000000 in
theorem xs_i2l (hq : xmOK q) (cx : xCx D G p s m args meth c q) (hs0 : s.heap.size = Bs + h0.1) (hK : ∀ pc L st h, K pc L st h = some (r, h') → xW l D G Bs p e s m args below meth c q h0 r h' pc L st h)
    (hG : ∀ pc L st h, xgo h (K pc L st h)) (hC : ∀ j as h r1 h1 q1, xmis[j]? = some q1 → C j as h = some (r1, h1) → xwf h → xCon l D G Bs q1 as h r1 h1) (hCG : ∀ j as h, xgo h (C j as h))
    {pc n a b d : Nat} {k : Int32} {sw : List (Int32 × Nat)} {L : xL} {st : List Value} {h : xH}  (hok : xoki q pc (.i2l, n, a, b, d, k, sw) = true) (hx : xF K C (.i2l, n, a, b, d, k, sw) L st h = some (r, h')) : xW l D G Bs p e s m args below meth c q h0 r h' pc L st h := by
  obtain ⟨hxe, hb, hr, hml, hown, hts, hlk, hin, hKv, hNw⟩ := cx
  simp only [xoki, xdc, Bool.and_eq_true, decide_eq_true_eq] at hok
  obtain ⟨hdg, hn⟩ := hok
  have hn := Nat.eq_of_beq_eq_true hn
  subst hn
  obtain ⟨x, e1, hx_⟩ := Option.bind_eq_some_iff.mp hx
  clear hx
  have hx := hx_
  clear hx_
  replace e1 := xpI_inv e1
  subst e1
  intro H locs ls hwf hl1 hl2 hP hS hL
  exact lv_i2l hxe hb hdg rfl (hK _ _ _ _ hx H locs ls hwf hl1 hl2 hP hS hL)
set_option maxHeartbeats 1000000 in
theorem xs_ladd (hq : xmOK q) (cx : xCx D G p s m args meth c q) (hs0 : s.heap.size = Bs + h0.1) (hK : ∀ pc L st h, K pc L st h = some (r, h') → xW l D G Bs p e s m args below meth c q h0 r h' pc L st h)
    (hG : ∀ pc L st h, xgo h (K pc L st h)) (hC : ∀ j as h r1 h1 q1, xmis[j]? = some q1 → C j as h = some (r1, h1) → xwf h → xCon l D G Bs q1 as h r1 h1) (hCG : ∀ j as h, xgo h (C j as h))
    {pc n a b d : Nat} {k : Int32} {sw : List (Int32 × Nat)} {L : xL} {st : List Value} {h : xH}  (hok : xoki q pc (.ladd, n, a, b, d, k, sw) = true) (hx : xF K C (.ladd, n, a, b, d, k, sw) L st h = some (r, h')) : xW l D G Bs p e s m args below meth c q h0 r h' pc L st h := by
  obtain ⟨hxe, hb, hr, hml, hown, hts, hlk, hin, hKv, hNw⟩ := cx
  simp only [xoki, xdc, Bool.and_eq_true, decide_eq_true_eq] at hok
  obtain ⟨hdg, hn⟩ := hok
  have hn := Nat.eq_of_beq_eq_true hn
  subst hn
  obtain ⟨x, e1, hx_⟩ := Option.bind_eq_some_iff.mp hx
  clear hx
  have hx := hx_
  clear hx_
  replace e1 := xpL_inv e1
  obtain ⟨y, e2, hx_⟩ := Option.bind_eq_some_iff.mp hx
  clear hx
  have hx := hx_
  clear hx_
  replace e2 := xpL_inv e2
  rw [e2] at e1
  subst e1
  intro H locs ls hwf hl1 hl2 hP hS hL
  exact lv_ladd hxe hb hdg (hK _ _ _ _ hx H locs ls hwf hl1 hl2 hP hS hL)
set_option maxHeartbeats 1000000 in
theorem xs_lmul (hq : xmOK q) (cx : xCx D G p s m args meth c q) (hs0 : s.heap.size = Bs + h0.1) (hK : ∀ pc L st h, K pc L st h = some (r, h') → xW l D G Bs p e s m args below meth c q h0 r h' pc L st h)
    (hG : ∀ pc L st h, xgo h (K pc L st h)) (hC : ∀ j as h r1 h1 q1, xmis[j]? = some q1 → C j as h = some (r1, h1) → xwf h → xCon l D G Bs q1 as h r1 h1) (hCG : ∀ j as h, xgo h (C j as h))
    {pc n a b d : Nat} {k : Int32} {sw : List (Int32 × Nat)} {L : xL} {st : List Value} {h : xH}  (hok : xoki q pc (.lmul, n, a, b, d, k, sw) = true) (hx : xF K C (.lmul, n, a, b, d, k, sw) L st h = some (r, h')) : xW l D G Bs p e s m args below meth c q h0 r h' pc L st h := by
  obtain ⟨hxe, hb, hr, hml, hown, hts, hlk, hin, hKv, hNw⟩ := cx
  simp only [xoki, xdc, Bool.and_eq_true, decide_eq_true_eq] at hok
  obtain ⟨hdg, hn⟩ := hok
  have hn := Nat.eq_of_beq_eq_true hn
  subst hn
  obtain ⟨x, e1, hx_⟩ := Option.bind_eq_some_iff.mp hx
  clear hx
  have hx := hx_
  clear hx_
  replace e1 := xpL_inv e1
  obtain ⟨y, e2, hx_⟩ := Option.bind_eq_some_iff.mp hx
  clear hx
  have hx := hx_
  clear hx_
  replace e2 := xpL_inv e2
  rw [e2] at e1
  subst e1
  intro H locs ls hwf hl1 hl2 hP hS hL
  exact lv_lmul hxe hb hdg (hK _ _ _ _ hx H locs ls hwf hl1 hl2 hP hS hL)
set_option maxHeartbeats 1000000 in
theorem xs_dup (hq : xmOK q) (cx : xCx D G p s m args meth c q) (hs0 : s.heap.size = Bs + h0.1) (hK : ∀ pc L st h, K pc L st h = some (r, h') → xW l D G Bs p e s m args below meth c q h0 r h' pc L st h)
    (hG : ∀ pc L st h, xgo h (K pc L st h)) (hC : ∀ j as h r1 h1 q1, xmis[j]? = some q1 → C j as h = some (r1, h1) → xwf h → xCon l D G Bs q1 as h r1 h1) (hCG : ∀ j as h, xgo h (C j as h))
    {pc n a b d : Nat} {k : Int32} {sw : List (Int32 × Nat)} {L : xL} {st : List Value} {h : xH}  (hok : xoki q pc (.dup, n, a, b, d, k, sw) = true) (hx : xF K C (.dup, n, a, b, d, k, sw) L st h = some (r, h')) : xW l D G Bs p e s m args below meth c q h0 r h' pc L st h := by
  obtain ⟨hxe, hb, hr, hml, hown, hts, hlk, hin, hKv, hNw⟩ := cx
  simp only [xoki, xdc, Bool.and_eq_true, decide_eq_true_eq] at hok
  obtain ⟨hdg, hn⟩ := hok
  have hn := Nat.eq_of_beq_eq_true hn
  subst hn
  obtain ⟨x, e1, hx_⟩ := Option.bind_eq_some_iff.mp hx
  clear hx
  have hx := hx_
  clear hx_
  replace e1 := xpV_inv e1
  obtain ⟨hc, hx_⟩ := xcond_k hx
  clear hx
  have hx := hx_
  clear hx_
  subst e1
  intro H locs ls hwf hl1 hl2 hP hS hL
  exact lv_dup hxe hb hdg (by rw [xcv_cat]; exact Nat.eq_of_beq_eq_true hc) (hK _ _ _ _ hx H locs ls hwf hl1 hl2 hP hS hL)
set_option maxHeartbeats 1000000 in
theorem xs_dup2 (hq : xmOK q) (cx : xCx D G p s m args meth c q) (hs0 : s.heap.size = Bs + h0.1) (hK : ∀ pc L st h, K pc L st h = some (r, h') → xW l D G Bs p e s m args below meth c q h0 r h' pc L st h)
    (hG : ∀ pc L st h, xgo h (K pc L st h)) (hC : ∀ j as h r1 h1 q1, xmis[j]? = some q1 → C j as h = some (r1, h1) → xwf h → xCon l D G Bs q1 as h r1 h1) (hCG : ∀ j as h, xgo h (C j as h))
    {pc n a b d : Nat} {k : Int32} {sw : List (Int32 × Nat)} {L : xL} {st : List Value} {h : xH}  (hok : xoki q pc (.dup2, n, a, b, d, k, sw) = true) (hx : xF K C (.dup2, n, a, b, d, k, sw) L st h = some (r, h')) : xW l D G Bs p e s m args below meth c q h0 r h' pc L st h := by
  obtain ⟨hxe, hb, hr, hml, hown, hts, hlk, hin, hKv, hNw⟩ := cx
  simp only [xoki, xdc, Bool.and_eq_true, decide_eq_true_eq] at hok
  obtain ⟨hdg, hn⟩ := hok
  have hn := Nat.eq_of_beq_eq_true hn
  subst hn
  obtain ⟨x, e1, hx_⟩ := Option.bind_eq_some_iff.mp hx
  clear hx
  have hx := hx_
  clear hx_
  replace e1 := xpV_inv e1
  obtain ⟨y, e2, hx_⟩ := Option.bind_eq_some_iff.mp hx
  clear hx
  have hx := hx_
  clear hx_
  replace e2 := xpV_inv e2
  obtain ⟨hc, hx_⟩ := xcond_k hx
  clear hx
  have hx := hx_
  clear hx_
  rw [Bool.and_eq_true] at hc
  rw [e2] at e1
  subst e1
  intro H locs ls hwf hl1 hl2 hP hS hL
  exact lv_dup2_11 hxe hb hdg (by rw [xcv_cat]; exact Nat.eq_of_beq_eq_true hc.1) (by rw [xcv_cat]; exact Nat.eq_of_beq_eq_true hc.2) (hK _ _ _ _ hx H locs ls hwf hl1 hl2 hP hS hL)
set_option maxHeartbeats 1000000 in
theorem xs_goto (hq : xmOK q) (cx : xCx D G p s m args meth c q) (hs0 : s.heap.size = Bs + h0.1) (hK : ∀ pc L st h, K pc L st h = some (r, h') → xW l D G Bs p e s m args below meth c q h0 r h' pc L st h)
    (hG : ∀ pc L st h, xgo h (K pc L st h)) (hC : ∀ j as h r1 h1 q1, xmis[j]? = some q1 → C j as h = some (r1, h1) → xwf h → xCon l D G Bs q1 as h r1 h1) (hCG : ∀ j as h, xgo h (C j as h))
    {pc n a b d : Nat} {k : Int32} {sw : List (Int32 × Nat)} {L : xL} {st : List Value} {h : xH} {i : Int} (hok : xoki q pc (.goto i, n, a, b, d, k, sw) = true) (hx : xF K C (.goto i, n, a, b, d, k, sw) L st h = some (r, h')) : xW l D G Bs p e s m args below meth c q h0 r h' pc L st h := by
  obtain ⟨hxe, hb, hr, hml, hown, hts, hlk, hin, hKv, hNw⟩ := cx
  simp only [xoki, xdc, Bool.and_eq_true, decide_eq_true_eq] at hok
  obtain ⟨⟨hdg, hn⟩, ht⟩ := hok
  have hn := Nat.eq_of_beq_eq_true hn
  subst hn
  have hx : K a L st h = some (r, h') := hx
  intro H locs ls hwf hl1 hl2 hP hS hL
  exact lv_goto hxe hb hdg ht (hK _ _ _ _ hx H locs ls hwf hl1 hl2 hP hS hL)
set_option maxHeartbeats 1000000 in
theorem xs_if_eq (hq : xmOK q) (cx : xCx D G p s m args meth c q) (hs0 : s.heap.size = Bs + h0.1) (hK : ∀ pc L st h, K pc L st h = some (r, h') → xW l D G Bs p e s m args below meth c q h0 r h' pc L st h)
    (hG : ∀ pc L st h, xgo h (K pc L st h)) (hC : ∀ j as h r1 h1 q1, xmis[j]? = some q1 → C j as h = some (r1, h1) → xwf h → xCon l D G Bs q1 as h r1 h1) (hCG : ∀ j as h, xgo h (C j as h))
    {pc n a b d : Nat} {k : Int32} {sw : List (Int32 × Nat)} {L : xL} {st : List Value} {h : xH} {i : Int} (hok : xoki q pc (.ifCond .eq i, n, a, b, d, k, sw) = true) (hx : xF K C (.ifCond .eq i, n, a, b, d, k, sw) L st h = some (r, h')) : xW l D G Bs p e s m args below meth c q h0 r h' pc L st h := by
  obtain ⟨hxe, hb, hr, hml, hown, hts, hlk, hin, hKv, hNw⟩ := cx
  simp only [xoki, xdc, Bool.and_eq_true, decide_eq_true_eq] at hok
  obtain ⟨⟨hdg, hn⟩, ht⟩ := hok
  have hn := Nat.eq_of_beq_eq_true hn
  subst hn
  obtain ⟨x, e1, hx_⟩ := Option.bind_eq_some_iff.mp hx
  clear hx
  have hx := hx_
  clear hx_
  replace e1 := xpI_inv e1
  subst e1
  intro H locs ls hwf hl1 hl2 hP hS hL
  dsimp only at hx
  exact lv_if_eq hxe hb hdg ht (fun hc => hK _ _ _ _ (by rw [if_pos hc] at hx; exact hx) H locs ls hwf hl1 hl2 hP hS hL) (fun hc => hK _ _ _ _ (by rw [if_neg hc] at hx; exact hx) H locs ls hwf hl1 hl2 hP hS hL)
set_option maxHeartbeats 1000000 in
theorem xs_icmp_eq (hq : xmOK q) (cx : xCx D G p s m args meth c q) (hs0 : s.heap.size = Bs + h0.1) (hK : ∀ pc L st h, K pc L st h = some (r, h') → xW l D G Bs p e s m args below meth c q h0 r h' pc L st h)
    (hG : ∀ pc L st h, xgo h (K pc L st h)) (hC : ∀ j as h r1 h1 q1, xmis[j]? = some q1 → C j as h = some (r1, h1) → xwf h → xCon l D G Bs q1 as h r1 h1) (hCG : ∀ j as h, xgo h (C j as h))
    {pc n a b d : Nat} {k : Int32} {sw : List (Int32 × Nat)} {L : xL} {st : List Value} {h : xH} {i : Int} (hok : xoki q pc (.if_icmp .eq i, n, a, b, d, k, sw) = true) (hx : xF K C (.if_icmp .eq i, n, a, b, d, k, sw) L st h = some (r, h')) : xW l D G Bs p e s m args below meth c q h0 r h' pc L st h := by
  obtain ⟨hxe, hb, hr, hml, hown, hts, hlk, hin, hKv, hNw⟩ := cx
  simp only [xoki, xdc, Bool.and_eq_true, decide_eq_true_eq] at hok
  obtain ⟨⟨hdg, hn⟩, ht⟩ := hok
  have hn := Nat.eq_of_beq_eq_true hn
  subst hn
  obtain ⟨x, e1, hx_⟩ := Option.bind_eq_some_iff.mp hx
  clear hx
  have hx := hx_
  clear hx_
  replace e1 := xpI_inv e1
  obtain ⟨y, e2, hx_⟩ := Option.bind_eq_some_iff.mp hx
  clear hx
  have hx := hx_
  clear hx_
  replace e2 := xpI_inv e2
  rw [e2] at e1
  subst e1
  intro H locs ls hwf hl1 hl2 hP hS hL
  dsimp only at hx
  exact lv_icmp_eq hxe hb hdg ht (fun hc => hK _ _ _ _ (by rw [if_pos hc] at hx; exact hx) H locs ls hwf hl1 hl2 hP hS hL) (fun hc => hK _ _ _ _ (by rw [if_neg hc] at hx; exact hx) H locs ls hwf hl1 hl2 hP hS hL)
set_option maxHeartbeats 1000000 in
theorem xs_if_ne (hq : xmOK q) (cx : xCx D G p s m args meth c q) (hs0 : s.heap.size = Bs + h0.1) (hK : ∀ pc L st h, K pc L st h = some (r, h') → xW l D G Bs p e s m args below meth c q h0 r h' pc L st h)
    (hG : ∀ pc L st h, xgo h (K pc L st h)) (hC : ∀ j as h r1 h1 q1, xmis[j]? = some q1 → C j as h = some (r1, h1) → xwf h → xCon l D G Bs q1 as h r1 h1) (hCG : ∀ j as h, xgo h (C j as h))
    {pc n a b d : Nat} {k : Int32} {sw : List (Int32 × Nat)} {L : xL} {st : List Value} {h : xH} {i : Int} (hok : xoki q pc (.ifCond .ne i, n, a, b, d, k, sw) = true) (hx : xF K C (.ifCond .ne i, n, a, b, d, k, sw) L st h = some (r, h')) : xW l D G Bs p e s m args below meth c q h0 r h' pc L st h := by
  obtain ⟨hxe, hb, hr, hml, hown, hts, hlk, hin, hKv, hNw⟩ := cx
  simp only [xoki, xdc, Bool.and_eq_true, decide_eq_true_eq] at hok
  obtain ⟨⟨hdg, hn⟩, ht⟩ := hok
  have hn := Nat.eq_of_beq_eq_true hn
  subst hn
  obtain ⟨x, e1, hx_⟩ := Option.bind_eq_some_iff.mp hx
  clear hx
  have hx := hx_
  clear hx_
  replace e1 := xpI_inv e1
  subst e1
  intro H locs ls hwf hl1 hl2 hP hS hL
  dsimp only at hx
  exact lv_if_ne hxe hb hdg ht (fun hc => hK _ _ _ _ (by rw [if_neg hc] at hx; exact hx) H locs ls hwf hl1 hl2 hP hS hL) (fun hc => hK _ _ _ _ (by rw [if_pos hc] at hx; exact hx) H locs ls hwf hl1 hl2 hP hS hL)
set_option maxHeartbeats 1000000 in
theorem xs_icmp_ne (hq : xmOK q) (cx : xCx D G p s m args meth c q) (hs0 : s.heap.size = Bs + h0.1) (hK : ∀ pc L st h, K pc L st h = some (r, h') → xW l D G Bs p e s m args below meth c q h0 r h' pc L st h)
    (hG : ∀ pc L st h, xgo h (K pc L st h)) (hC : ∀ j as h r1 h1 q1, xmis[j]? = some q1 → C j as h = some (r1, h1) → xwf h → xCon l D G Bs q1 as h r1 h1) (hCG : ∀ j as h, xgo h (C j as h))
    {pc n a b d : Nat} {k : Int32} {sw : List (Int32 × Nat)} {L : xL} {st : List Value} {h : xH} {i : Int} (hok : xoki q pc (.if_icmp .ne i, n, a, b, d, k, sw) = true) (hx : xF K C (.if_icmp .ne i, n, a, b, d, k, sw) L st h = some (r, h')) : xW l D G Bs p e s m args below meth c q h0 r h' pc L st h := by
  obtain ⟨hxe, hb, hr, hml, hown, hts, hlk, hin, hKv, hNw⟩ := cx
  simp only [xoki, xdc, Bool.and_eq_true, decide_eq_true_eq] at hok
  obtain ⟨⟨hdg, hn⟩, ht⟩ := hok
  have hn := Nat.eq_of_beq_eq_true hn
  subst hn
  obtain ⟨x, e1, hx_⟩ := Option.bind_eq_some_iff.mp hx
  clear hx
  have hx := hx_
  clear hx_
  replace e1 := xpI_inv e1
  obtain ⟨y, e2, hx_⟩ := Option.bind_eq_some_iff.mp hx
  clear hx
  have hx := hx_
  clear hx_
  replace e2 := xpI_inv e2
  rw [e2] at e1
  subst e1
  intro H locs ls hwf hl1 hl2 hP hS hL
  dsimp only at hx
  exact lv_icmp_ne hxe hb hdg ht (fun hc => hK _ _ _ _ (by rw [if_neg hc] at hx; exact hx) H locs ls hwf hl1 hl2 hP hS hL) (fun hc => hK _ _ _ _ (by rw [if_pos hc] at hx; exact hx) H locs ls hwf hl1 hl2 hP hS hL)
set_option maxHeartbeats 1000000 in
theorem xs_if_lt (hq : xmOK q) (cx : xCx D G p s m args meth c q) (hs0 : s.heap.size = Bs + h0.1) (hK : ∀ pc L st h, K pc L st h = some (r, h') → xW l D G Bs p e s m args below meth c q h0 r h' pc L st h)
    (hG : ∀ pc L st h, xgo h (K pc L st h)) (hC : ∀ j as h r1 h1 q1, xmis[j]? = some q1 → C j as h = some (r1, h1) → xwf h → xCon l D G Bs q1 as h r1 h1) (hCG : ∀ j as h, xgo h (C j as h))
    {pc n a b d : Nat} {k : Int32} {sw : List (Int32 × Nat)} {L : xL} {st : List Value} {h : xH} {i : Int} (hok : xoki q pc (.ifCond .lt i, n, a, b, d, k, sw) = true) (hx : xF K C (.ifCond .lt i, n, a, b, d, k, sw) L st h = some (r, h')) : xW l D G Bs p e s m args below meth c q h0 r h' pc L st h := by
  obtain ⟨hxe, hb, hr, hml, hown, hts, hlk, hin, hKv, hNw⟩ := cx
  simp only [xoki, xdc, Bool.and_eq_true, decide_eq_true_eq] at hok
  obtain ⟨⟨hdg, hn⟩, ht⟩ := hok
  have hn := Nat.eq_of_beq_eq_true hn
  subst hn
  obtain ⟨x, e1, hx_⟩ := Option.bind_eq_some_iff.mp hx
  clear hx
  have hx := hx_
  clear hx_
  replace e1 := xpI_inv e1
  subst e1
  intro H locs ls hwf hl1 hl2 hP hS hL
  dsimp only at hx
  exact lv_if_lt hxe hb hdg ht (fun hc => hK _ _ _ _ (by rw [if_pos hc] at hx; exact hx) H locs ls hwf hl1 hl2 hP hS hL) (fun hc => hK _ _ _ _ (by rw [if_neg hc] at hx; exact hx) H locs ls hwf hl1 hl2 hP hS hL)
set_option maxHeartbeats 1000000 in
theorem xs_icmp_lt (hq : xmOK q) (cx : xCx D G p s m args meth c q) (hs0 : s.heap.size = Bs + h0.1) (hK : ∀ pc L st h, K pc L st h = some (r, h') → xW l D G Bs p e s m args below meth c q h0 r h' pc L st h)
    (hG : ∀ pc L st h, xgo h (K pc L st h)) (hC : ∀ j as h r1 h1 q1, xmis[j]? = some q1 → C j as h = some (r1, h1) → xwf h → xCon l D G Bs q1 as h r1 h1) (hCG : ∀ j as h, xgo h (C j as h))
    {pc n a b d : Nat} {k : Int32} {sw : List (Int32 × Nat)} {L : xL} {st : List Value} {h : xH} {i : Int} (hok : xoki q pc (.if_icmp .lt i, n, a, b, d, k, sw) = true) (hx : xF K C (.if_icmp .lt i, n, a, b, d, k, sw) L st h = some (r, h')) : xW l D G Bs p e s m args below meth c q h0 r h' pc L st h := by
  obtain ⟨hxe, hb, hr, hml, hown, hts, hlk, hin, hKv, hNw⟩ := cx
  simp only [xoki, xdc, Bool.and_eq_true, decide_eq_true_eq] at hok
  obtain ⟨⟨hdg, hn⟩, ht⟩ := hok
  have hn := Nat.eq_of_beq_eq_true hn
  subst hn
  obtain ⟨x, e1, hx_⟩ := Option.bind_eq_some_iff.mp hx
  clear hx
  have hx := hx_
  clear hx_
  replace e1 := xpI_inv e1
  obtain ⟨y, e2, hx_⟩ := Option.bind_eq_some_iff.mp hx
  clear hx
  have hx := hx_
  clear hx_
  replace e2 := xpI_inv e2
  rw [e2] at e1
  subst e1
  intro H locs ls hwf hl1 hl2 hP hS hL
  dsimp only at hx
  exact lv_icmp_lt hxe hb hdg ht (fun hc => hK _ _ _ _ (by rw [if_pos hc] at hx; exact hx) H locs ls hwf hl1 hl2 hP hS hL) (fun hc => hK _ _ _ _ (by rw [if_neg hc] at hx; exact hx) H locs ls hwf hl1 hl2 hP hS hL)
set_option maxHeartbeats 1000000 in
theorem xs_if_ge (hq : xmOK q) (cx : xCx D G p s m args meth c q) (hs0 : s.heap.size = Bs + h0.1) (hK : ∀ pc L st h, K pc L st h = some (r, h') → xW l D G Bs p e s m args below meth c q h0 r h' pc L st h)
    (hG : ∀ pc L st h, xgo h (K pc L st h)) (hC : ∀ j as h r1 h1 q1, xmis[j]? = some q1 → C j as h = some (r1, h1) → xwf h → xCon l D G Bs q1 as h r1 h1) (hCG : ∀ j as h, xgo h (C j as h))
    {pc n a b d : Nat} {k : Int32} {sw : List (Int32 × Nat)} {L : xL} {st : List Value} {h : xH} {i : Int} (hok : xoki q pc (.ifCond .ge i, n, a, b, d, k, sw) = true) (hx : xF K C (.ifCond .ge i, n, a, b, d, k, sw) L st h = some (r, h')) : xW l D G Bs p e s m args below meth c q h0 r h' pc L st h := by
  obtain ⟨hxe, hb, hr, hml, hown, hts, hlk, hin, hKv, hNw⟩ := cx
  simp only [xoki, xdc, Bool.and_eq_true, decide_eq_true_eq] at hok
  obtain ⟨⟨hdg, hn⟩, ht⟩ := hok
  have hn := Nat.eq_of_beq_eq_true hn
  subst hn
  obtain ⟨x, e1, hx_⟩ := Option.bind_eq_some_iff.mp hx
  clear hx
  have hx := hx_
  clear hx_
  replace e1 := xpI_inv e1
  subst e1
  intro H locs ls hwf hl1 hl2 hP hS hL
  dsimp only at hx
  exact lv_if_ge hxe hb hdg ht (fun hc => hK _ _ _ _ (by rw [if_neg (Int32.not_lt.mpr hc)] at hx; exact hx) H locs ls hwf hl1 hl2 hP hS hL) (fun hc => hK _ _ _ _ (by rw [if_pos (Int32.not_le.mp hc)] at hx; exact hx) H locs ls hwf hl1 hl2 hP hS hL)
set_option maxHeartbeats 1000000 in
theorem xs_icmp_ge (hq : xmOK q) (cx : xCx D G p s m args meth c q) (hs0 : s.heap.size = Bs + h0.1) (hK : ∀ pc L st h, K pc L st h = some (r, h') → xW l D G Bs p e s m args below meth c q h0 r h' pc L st h)
    (hG : ∀ pc L st h, xgo h (K pc L st h)) (hC : ∀ j as h r1 h1 q1, xmis[j]? = some q1 → C j as h = some (r1, h1) → xwf h → xCon l D G Bs q1 as h r1 h1) (hCG : ∀ j as h, xgo h (C j as h))
    {pc n a b d : Nat} {k : Int32} {sw : List (Int32 × Nat)} {L : xL} {st : List Value} {h : xH} {i : Int} (hok : xoki q pc (.if_icmp .ge i, n, a, b, d, k, sw) = true) (hx : xF K C (.if_icmp .ge i, n, a, b, d, k, sw) L st h = some (r, h')) : xW l D G Bs p e s m args below meth c q h0 r h' pc L st h := by
  obtain ⟨hxe, hb, hr, hml, hown, hts, hlk, hin, hKv, hNw⟩ := cx
  simp only [xoki, xdc, Bool.and_eq_true, decide_eq_true_eq] at hok
  obtain ⟨⟨hdg, hn⟩, ht⟩ := hok
  have hn := Nat.eq_of_beq_eq_true hn
  subst hn
  obtain ⟨x, e1, hx_⟩ := Option.bind_eq_some_iff.mp hx
  clear hx
  have hx := hx_
  clear hx_
  replace e1 := xpI_inv e1
  obtain ⟨y, e2, hx_⟩ := Option.bind_eq_some_iff.mp hx
  clear hx
  have hx := hx_
  clear hx_
  replace e2 := xpI_inv e2
  rw [e2] at e1
  subst e1
  intro H locs ls hwf hl1 hl2 hP hS hL
  dsimp only at hx
  exact lv_icmp_ge hxe hb hdg ht (fun hc => hK _ _ _ _ (by rw [if_neg (Int32.not_lt.mpr hc)] at hx; exact hx) H locs ls hwf hl1 hl2 hP hS hL) (fun hc => hK _ _ _ _ (by rw [if_pos (Int32.not_le.mp hc)] at hx; exact hx) H locs ls hwf hl1 hl2 hP hS hL)
set_option maxHeartbeats 1000000 in
theorem xs_if_gt (hq : xmOK q) (cx : xCx D G p s m args meth c q) (hs0 : s.heap.size = Bs + h0.1) (hK : ∀ pc L st h, K pc L st h = some (r, h') → xW l D G Bs p e s m args below meth c q h0 r h' pc L st h)
    (hG : ∀ pc L st h, xgo h (K pc L st h)) (hC : ∀ j as h r1 h1 q1, xmis[j]? = some q1 → C j as h = some (r1, h1) → xwf h → xCon l D G Bs q1 as h r1 h1) (hCG : ∀ j as h, xgo h (C j as h))
    {pc n a b d : Nat} {k : Int32} {sw : List (Int32 × Nat)} {L : xL} {st : List Value} {h : xH} {i : Int} (hok : xoki q pc (.ifCond .gt i, n, a, b, d, k, sw) = true) (hx : xF K C (.ifCond .gt i, n, a, b, d, k, sw) L st h = some (r, h')) : xW l D G Bs p e s m args below meth c q h0 r h' pc L st h := by
  obtain ⟨hxe, hb, hr, hml, hown, hts, hlk, hin, hKv, hNw⟩ := cx
  simp only [xoki, xdc, Bool.and_eq_true, decide_eq_true_eq] at hok
  obtain ⟨⟨hdg, hn⟩, ht⟩ := hok
  have hn := Nat.eq_of_beq_eq_true hn
  subst hn
  obtain ⟨x, e1, hx_⟩ := Option.bind_eq_some_iff.mp hx
  clear hx
  have hx := hx_
  clear hx_
  replace e1 := xpI_inv e1
  subst e1
  intro H locs ls hwf hl1 hl2 hP hS hL
  dsimp only at hx
  exact lv_if_gt hxe hb hdg ht (fun hc => hK _ _ _ _ (by rw [if_pos hc] at hx; exact hx) H locs ls hwf hl1 hl2 hP hS hL) (fun hc => hK _ _ _ _ (by rw [if_neg hc] at hx; exact hx) H locs ls hwf hl1 hl2 hP hS hL)
set_option maxHeartbeats 1000000 in
theorem xs_icmp_gt (hq : xmOK q) (cx : xCx D G p s m args meth c q) (hs0 : s.heap.size = Bs + h0.1) (hK : ∀ pc L st h, K pc L st h = some (r, h') → xW l D G Bs p e s m args below meth c q h0 r h' pc L st h)
    (hG : ∀ pc L st h, xgo h (K pc L st h)) (hC : ∀ j as h r1 h1 q1, xmis[j]? = some q1 → C j as h = some (r1, h1) → xwf h → xCon l D G Bs q1 as h r1 h1) (hCG : ∀ j as h, xgo h (C j as h))
    {pc n a b d : Nat} {k : Int32} {sw : List (Int32 × Nat)} {L : xL} {st : List Value} {h : xH} {i : Int} (hok : xoki q pc (.if_icmp .gt i, n, a, b, d, k, sw) = true) (hx : xF K C (.if_icmp .gt i, n, a, b, d, k, sw) L st h = some (r, h')) : xW l D G Bs p e s m args below meth c q h0 r h' pc L st h := by
  obtain ⟨hxe, hb, hr, hml, hown, hts, hlk, hin, hKv, hNw⟩ := cx
  simp only [xoki, xdc, Bool.and_eq_true, decide_eq_true_eq] at hok
  obtain ⟨⟨hdg, hn⟩, ht⟩ := hok
  have hn := Nat.eq_of_beq_eq_true hn
  subst hn
  obtain ⟨x, e1, hx_⟩ := Option.bind_eq_some_iff.mp hx
  clear hx
  have hx := hx_
  clear hx_
  replace e1 := xpI_inv e1
  obtain ⟨y, e2, hx_⟩ := Option.bind_eq_some_iff.mp hx
  clear hx
  have hx := hx_
  clear hx_
  replace e2 := xpI_inv e2
  rw [e2] at e1
  subst e1
  intro H locs ls hwf hl1 hl2 hP hS hL
  dsimp only at hx
  exact lv_icmp_gt hxe hb hdg ht (fun hc => hK _ _ _ _ (by rw [if_pos hc] at hx; exact hx) H locs ls hwf hl1 hl2 hP hS hL) (fun hc => hK _ _ _ _ (by rw [if_neg hc] at hx; exact hx) H locs ls hwf hl1 hl2 hP hS hL)
set_option maxHeartbeats 1000000 in
theorem xs_if_le (hq : xmOK q) (cx : xCx D G p s m args meth c q) (hs0 : s.heap.size = Bs + h0.1) (hK : ∀ pc L st h, K pc L st h = some (r, h') → xW l D G Bs p e s m args below meth c q h0 r h' pc L st h)
    (hG : ∀ pc L st h, xgo h (K pc L st h)) (hC : ∀ j as h r1 h1 q1, xmis[j]? = some q1 → C j as h = some (r1, h1) → xwf h → xCon l D G Bs q1 as h r1 h1) (hCG : ∀ j as h, xgo h (C j as h))
    {pc n a b d : Nat} {k : Int32} {sw : List (Int32 × Nat)} {L : xL} {st : List Value} {h : xH} {i : Int} (hok : xoki q pc (.ifCond .le i, n, a, b, d, k, sw) = true) (hx : xF K C (.ifCond .le i, n, a, b, d, k, sw) L st h = some (r, h')) : xW l D G Bs p e s m args below meth c q h0 r h' pc L st h := by
  obtain ⟨hxe, hb, hr, hml, hown, hts, hlk, hin, hKv, hNw⟩ := cx
  simp only [xoki, xdc, Bool.and_eq_true, decide_eq_true_eq] at hok
  obtain ⟨⟨hdg, hn⟩, ht⟩ := hok
  have hn := Nat.eq_of_beq_eq_true hn
  subst hn
  obtain ⟨x, e1, hx_⟩ := Option.bind_eq_some_iff.mp hx
  clear hx
  have hx := hx_
  clear hx_
  replace e1 := xpI_inv e1
  subst e1
  intro H locs ls hwf hl1 hl2 hP hS hL
  dsimp only at hx
  exact lv_if_le hxe hb hdg ht (fun hc => hK _ _ _ _ (by rw [if_neg (Int32.not_lt.mpr hc)] at hx; exact hx) H locs ls hwf hl1 hl2 hP hS hL) (fun hc => hK _ _ _ _ (by rw [if_pos (Int32.not_le.mp hc)] at hx; exact hx) H locs ls hwf hl1 hl2 hP hS hL)
set_option maxHeartbeats 1000000 in
theorem xs_icmp_le (hq : xmOK q) (cx : xCx D G p s m args meth c q) (hs0 : s.heap.size = Bs + h0.1) (hK : ∀ pc L st h, K pc L st h = some (r, h') → xW l D G Bs p e s m args below meth c q h0 r h' pc L st h)
    (hG : ∀ pc L st h, xgo h (K pc L st h)) (hC : ∀ j as h r1 h1 q1, xmis[j]? = some q1 → C j as h = some (r1, h1) → xwf h → xCon l D G Bs q1 as h r1 h1) (hCG : ∀ j as h, xgo h (C j as h))
    {pc n a b d : Nat} {k : Int32} {sw : List (Int32 × Nat)} {L : xL} {st : List Value} {h : xH} {i : Int} (hok : xoki q pc (.if_icmp .le i, n, a, b, d, k, sw) = true) (hx : xF K C (.if_icmp .le i, n, a, b, d, k, sw) L st h = some (r, h')) : xW l D G Bs p e s m args below meth c q h0 r h' pc L st h := by
  obtain ⟨hxe, hb, hr, hml, hown, hts, hlk, hin, hKv, hNw⟩ := cx
  simp only [xoki, xdc, Bool.and_eq_true, decide_eq_true_eq] at hok
  obtain ⟨⟨hdg, hn⟩, ht⟩ := hok
  have hn := Nat.eq_of_beq_eq_true hn
  subst hn
  obtain ⟨x, e1, hx_⟩ := Option.bind_eq_some_iff.mp hx
  clear hx
  have hx := hx_
  clear hx_
  replace e1 := xpI_inv e1
  obtain ⟨y, e2, hx_⟩ := Option.bind_eq_some_iff.mp hx
  clear hx
  have hx := hx_
  clear hx_
  replace e2 := xpI_inv e2
  rw [e2] at e1
  subst e1
  intro H locs ls hwf hl1 hl2 hP hS hL
  dsimp only at hx
  exact lv_icmp_le hxe hb hdg ht (fun hc => hK _ _ _ _ (by rw [if_neg (Int32.not_lt.mpr hc)] at hx; exact hx) H locs ls hwf hl1 hl2 hP hS hL) (fun hc => hK _ _ _ _ (by rw [if_pos (Int32.not_le.mp hc)] at hx; exact hx) H locs ls hwf hl1 hl2 hP hS hL)
end SND
