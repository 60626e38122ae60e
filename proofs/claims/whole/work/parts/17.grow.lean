/-! What a run does to the number of cells; cells behind the last one are dead -/
def xwf (h : xH) : Prop := ∀ k, h.1 ≤ k → h.2.2 k = xdead
def xge (h h' : xH) : Prop := xwf h → xwf h' ∧ h.1 ≤ h'.1 ∧ h.2.1 ≤ h'.2.1
theorem xge_rf (h : xH) : xge h h := fun w => ⟨w, Nat.le_refl _, Nat.le_refl _⟩
theorem xge_tr {a b c : xH} (h1 : xge a b) (h2 : xge b c) : xge a c := fun w => by
  obtain ⟨w1, l1, s1⟩ := h1 w
  obtain ⟨w2, l2, s2⟩ := h2 w1
  exact ⟨w2, Nat.le_trans l1 l2, Nat.le_trans s1 s2⟩
theorem xarr_inv {h : xH} {t a n : Nat} {f : Nat → Int32} (e : xarr h t a = some (n, f)) : h.2.2 a = .inl (t, n, f) := by
  unfold xarr at e
  split at e
  · next q hq =>
    by_cases hb : Nat.beq q.1 t = true
    · rw [hb, cond_true] at e
      have h1 := Nat.eq_of_beq_eq_true hb
      rw [hq, ← h1]
      obtain ⟨q1, q2⟩ := q
      cases e
      rfl
    · rw [Bool.not_eq_true] at hb
      rw [hb, cond_false] at e
      cases e
  · cases e
theorem xobj_inv {h : xH} {o ci : Nat} {fs : List Value} (e : xobj h o ci = some fs) : h.2.2 o = .inr (.inr (ci, fs)) := by
  unfold xobj at e
  split at e
  · next q hq =>
    by_cases hb : Nat.beq q.1 ci = true
    · rw [hb, cond_true] at e
      have h1 := Nat.eq_of_beq_eq_true hb
      rw [hq, ← h1]
      obtain ⟨q1, q2⟩ := q
      cases e
      rfl
    · rw [Bool.not_eq_true] at hb
      rw [hb, cond_false] at e
      cases e
  · cases e
theorem xrar_inv {h : xH} {a n : Nat} {f : Nat → Option Nat} (e : xrar h a = some (n, f)) : h.2.2 a = .inr (.inl (n, f)) := by
  unfold xrar at e
  split at e
  · next q hq => cases e; exact hq
  · cases e
theorem xlive {h : xH} (w : xwf h) {a : Nat} (hn : h.2.2 a ≠ xdead) : a < h.1 := Nat.lt_of_not_le fun q => hn (w a q)
theorem xlive_i {h : xH} (w : xwf h) {a t n : Nat} {f : Nat → Int32} (e : h.2.2 a = .inl (t, n, f)) : a < h.1 := xlive w (by rw [e]; intro q; cases q)
theorem xlive_r {h : xH} (w : xwf h) {a n : Nat} {f : Nat → Option Nat} (e : h.2.2 a = .inr (.inl (n, f))) : a < h.1 := xlive w (by rw [e]; intro q; cases q)
theorem xlive_o {h : xH} (w : xwf h) {a ci : Nat} {fs : List Value} (e : h.2.2 a = .inr (.inr (ci, fs))) (hc : ci < 6) : a < h.1 := xlive w (by rw [e]; intro q; cases q; omega)
theorem xge_up {h : xH} {a : Nat} (c : xC) (hl : xwf h → a < h.1) : xge h (xup h a c) := fun w => by
  refine ⟨fun k hk => ?_, Nat.le_refl _, Nat.le_refl _⟩
  have h1 : k ≠ a := by
    have := hl w
    have hk' : h.1 ≤ k := hk
    omega
  show (if k = a then c else h.2.2 k) = xdead
  rw [if_neg h1]
  exact w k hk
theorem xge_nw {h : xH} (c : xC) (s : Nat) : xge h (xnw h c s) := fun w => by
  refine ⟨fun k hk => ?_, Nat.le_succ _, Nat.le_add_right _ _⟩
  have hk' : h.1 + 1 ≤ k := hk
  show (if k = h.1 then c else h.2.2 k) = xdead
  rw [if_neg (by omega)]
  exact w k (by omega)
theorem xcond_some {b : Bool} {α : Type} {x y : α} (h : (bif b then some x else none) = some y) : b = true ∧ x = y := by
  cases b
  · cases h
  · exact ⟨rfl, Option.some.inj h⟩
theorem xwi_inv {h h1 : xH} {t a : Nat} {i v : Int32} (e : xwi h t a i v = some h1) : ∃ n f, h.2.2 a = .inl (t, n, f) ∧ xin i n = true ∧ h1 = xup h a (.inl (t, n, upd f i.toNatClampNeg v)) := by
  obtain ⟨⟨n, f⟩, e1, e2⟩ := Option.bind_eq_some_iff.mp e
  obtain ⟨e3, e4⟩ := xcond_some e2
  exact ⟨n, f, xarr_inv e1, e3, e4.symm⟩
theorem xri_inv {h : xH} {t a : Nat} {i v : Int32} (e : xri h t a i = some v) : ∃ n f, h.2.2 a = .inl (t, n, f) ∧ xin i n = true ∧ v = f i.toNatClampNeg := by
  obtain ⟨⟨n, f⟩, e1, e2⟩ := Option.bind_eq_some_iff.mp e
  obtain ⟨e3, e4⟩ := xcond_some e2
  exact ⟨n, f, xarr_inv e1, e3, e4.symm⟩
theorem xrr_inv {h : xH} {a v : Nat} {i : Int32} (e : xrr h a i = some v) : ∃ n f, h.2.2 a = .inr (.inl (n, f)) ∧ xin i n = true ∧ f i.toNatClampNeg = some v := by
  obtain ⟨⟨n, f⟩, e1, e2⟩ := Option.bind_eq_some_iff.mp e
  refine ⟨n, f, xrar_inv e1, ?_, ?_⟩
  · cases hb : xin i n
    · dsimp only at e2; rw [hb] at e2; cases e2
    · rfl
  · cases hb : xin i n
    · dsimp only at e2; rw [hb] at e2; cases e2
    · dsimp only at e2; rw [hb, cond_true] at e2; exact e2
theorem xwr_inv {h h1 : xH} {a v ci : Nat} {i : Int32} (e : xwr h a i v ci = some h1) : ∃ n f fs, h.2.2 a = .inr (.inl (n, f)) ∧ h.2.2 v = .inr (.inr (ci, fs)) ∧ xin i n = true ∧ h1 = xup h a (.inr (.inl (n, va_up f i.toNatClampNeg (some v)))) := by
  obtain ⟨⟨n, f⟩, e1, e2⟩ := Option.bind_eq_some_iff.mp e
  obtain ⟨fs, e3, e4⟩ := Option.bind_eq_some_iff.mp e2
  obtain ⟨e5, e6⟩ := xcond_some e4
  exact ⟨n, f, fs, xrar_inv e1, xobj_inv e3, e5, e6.symm⟩
theorem xpf_inv {h h1 : xH} {o ci k : Nat} {v : Value} (e : xpf h o ci k v = some h1) : ∃ fs, h.2.2 o = .inr (.inr (ci, fs)) ∧ k < fs.length ∧ h1 = xup h o (.inr (.inr (ci, fs.set k v))) := by
  obtain ⟨fs, e1, e2⟩ := Option.bind_eq_some_iff.mp e
  obtain ⟨e3, e4⟩ := xcond_some e2
  exact ⟨fs, xobj_inv e1, Nat.le_of_ble_eq_true e3, e4.symm⟩
theorem xcp_inv {h h1 : xH} {a b : Nat} {sp dp n : Int32} (e : xcp h a sp b dp n = some h1) : ∃ n0 f n1 g, h.2.2 a = .inl (0, n0, f) ∧ h.2.2 b = .inl (0, n1, g) ∧ ¬ sp < 0 ∧ ¬ dp < 0 ∧ ¬ n < 0 ∧ sp.toNatClampNeg + n.toNatClampNeg ≤ n0 ∧ dp.toNatClampNeg + n.toNatClampNeg ≤ n1 ∧ h1 = xup h b (.inl (0, n1, va_cpy f g sp.toNatClampNeg dp.toNatClampNeg n.toNatClampNeg)) := by
  obtain ⟨⟨n0, f⟩, e1, e2⟩ := Option.bind_eq_some_iff.mp e
  obtain ⟨⟨n1, g⟩, e3, e4⟩ := Option.bind_eq_some_iff.mp e2
  obtain ⟨e5, e6⟩ := xcond_some e4
  simp only [Bool.and_eq_true, Bool.not_eq_true', decide_eq_false_iff_not] at e5
  obtain ⟨⟨⟨a1, a2⟩, a3⟩, a4, a5⟩ := e5
  exact ⟨n0, f, n1, g, xarr_inv e1, xarr_inv e3, a1, a2, a3, Nat.le_of_ble_eq_true a4, Nat.le_of_ble_eq_true a5, e6.symm⟩
theorem xcl_lt {q : xMI} {ix a b : Nat} (h : xfl.elem (q.1, ix, a, b) = true) : a < 6 := (xfl_ok _ (List.elem_iff.mp h)).1
def xgo (h : xH) (o : Option xR) : Prop := ∀ r h', o = some (r, h') → xge h h'
theorem xgo_none (h : xH) : xgo h none := fun _ _ e => by cases e
theorem xgo_bind {β : Type} {h : xH} (o : Option β) {f : β → Option xR} (g : ∀ x, o = some x → xgo h (f x)) : xgo h (o.bind f) := by
  cases o with
  | none => exact xgo_none _
  | some x => exact g x rfl
theorem xgo_ite {c : Prop} [Decidable c] {h : xH} {a b : Option xR} (x : xgo h a) (y : xgo h b) : xgo h (if c then a else b) := by
  by_cases hc : c
  · rw [if_pos hc]; exact x
  · rw [if_neg hc]; exact y
theorem xgo_cond {c : Bool} {h : xH} {a b : Option xR} (x : xgo h a) (y : xgo h b) : xgo h (bif c then a else b) := by
  cases c
  · exact y
  · exact x
theorem xgo_sw {h : xH} {k : Nat → Option xR} (g : ∀ t, xgo h (k t)) (x : Int32) (d : Nat) : ∀ ps, xgo h (xsw x ps d k)
  | [] => g d
  | p :: r => xgo_ite (g p.2) (xgo_sw g x d r)
theorem xgo_tr {h h1 : xH} {o : Option xR} (a : xge h h1) (b : xgo h1 o) : xgo h o := fun r h' e => xge_tr a (b r h' e)
theorem xgo_ok {h : xH} {r : Option Value} : xgo h (some (r, h)) := fun _ _ e => by cases e; exact xge_rf _
theorem xgo_ret {h : xH} {o : Option xR} (ho : xgo h o) (d : Nat) (rest : List Value) {K : List Value → xH → Option xR} (hk : ∀ s t, xgo t (K s t)) : xgo h (xret d o rest K) := by
  unfold xret xcV xcI xcL
  split
  · refine xgo_bind _ fun p hp => ?_
    obtain ⟨_ | v, t⟩ := p
    · exact xgo_tr (ho _ _ hp) (hk _ _)
    · exact xgo_none _
  · exact xgo_bind _ fun p hp => xgo_bind _ fun x _ => xgo_tr (ho p.1 p.2 hp) (hk _ _)
  · exact xgo_bind _ fun p hp => xgo_bind _ fun x _ => xgo_tr (ho p.1 p.2 hp) (hk _ _)
  · exact xgo_none _
theorem xgo_call {K : Nat → xL → List Value → xH → Option xR} {C : Nat → List Value → xH → Option xR} (hK : ∀ p l s t, xgo t (K p l s t)) (hC : ∀ j a t, xgo t (C j a t)) (n a b d : Nat) (L : xL) (st : List Value) (h : xH) : xgo h (xcall K C n a b d L st h) :=
  xgo_bind _ fun q _ => xgo_cond (xgo_ret (hC _ _ _) _ _ fun s t => hK _ _ _ _) (xgo_none _)
set_option maxHeartbeats 4000000 in
theorem xF_go {K : Nat → xL → List Value → xH → Option xR} {C : Nat → List Value → xH → Option xR} (hK : ∀ p l s t, xgo t (K p l s t)) (hC : ∀ j a t, xgo t (C j a t)) {q : xMI} {pc : Nat} (w : xRow) (hok : xoki q pc w = true) (L : xL) (st : List Value) (h : xH) : xgo h (xF K C w L st h) := by
  obtain ⟨i, n, a, b, d, c, sw⟩ := w
  unfold xF
  cases i <;> first
    | exact xgo_none _
    | exact hK _ _ _ _
    | exact xgo_call hK hC _ _ _ _ _ _ _
    | exact xgo_bind _ fun _ _ => xgo_bind _ fun _ _ => xgo_call hK hC _ _ _ _ _ _ _
    | (dsimp only
       repeat' first
        | exact hK _ _ _ _
        | exact xgo_none _
        | exact xgo_ok
        | exact xgo_call hK hC _ _ _ _ _ _ _
        | exact xgo_tr (xge_nw _ _) (hK _ _ _ _)
        | (refine xgo_bind (xwi h _ _ _ _) fun h1 e => ?_
           obtain ⟨n1, f1, e1, -, e2⟩ := xwi_inv e
           subst e2
           exact xgo_tr (xge_up _ fun w => xlive_i w e1) (hK _ _ _ _))
        | (refine xgo_bind (xwr h _ _ _ _) fun h1 e => ?_
           obtain ⟨n1, f1, fs, e1, -, -, e2⟩ := xwr_inv e
           subst e2
           exact xgo_tr (xge_up _ fun w => xlive_r w e1) (hK _ _ _ _))
        | (refine xgo_bind (xcp h _ _ _ _ _) fun h1 e => ?_
           obtain ⟨n0, f0, n1, f1, -, e1, -, -, -, -, -, e2⟩ := xcp_inv e
           subst e2
           exact xgo_tr (xge_up _ fun w => xlive_i w e1) (hK _ _ _ _))
        | (refine xgo_bind (xpf h _ _ _ _) fun h1 e => ?_
           obtain ⟨fs, e1, -, e2⟩ := xpf_inv e
           subst e2
           simp only [xoki, Bool.and_eq_true] at hok
           exact xgo_tr (xge_up _ fun w => xlive_o w e1 (xcl_lt hok.1.1.2)) (hK _ _ _ _))
        | refine xgo_bind _ fun _ _ => ?_
        | refine xgo_ite ?_ ?_
        | refine xgo_cond ?_ ?_
        | (refine xgo_sw ?_ _ _ _; intro _)
        | split)
theorem xmis_P {m pc : Nat} {w : xRow} (h : xP m pc = some w) : ∃ q, xmis[m]? = some q := by
  have h0 : (pc, w) ∈ xQ.getD m [] := xfind_mem h
  rw [← xQM_1, List.getD_eq_getElem?_getD, List.getElem?_map] at h0
  rw [← xQM_2, List.getElem?_map]
  cases hm : xQM[m]? with
  | none => rw [hm] at h0; cases h0
  | some z => exact ⟨z.2, rfl⟩
theorem xrun_go : ∀ (k m pc : Nat) (L : xL) (st : List Value) (h : xH), xgo h (xrun xP xN k m pc L st h)
  | 0, _, _, _, _, _ => xgo_none _
  | k + 1, m, pc, L, st, h => xgo_bind _ fun w hw => by
    obtain ⟨q, hq⟩ := xmis_P hw
    exact xF_go (fun _ _ _ _ => xrun_go k _ _ _ _ _) (fun _ _ _ => xgo_cond (xrun_go k _ _ _ _ _) (xgo_none _)) w (xP_ok hq hw) L st h
