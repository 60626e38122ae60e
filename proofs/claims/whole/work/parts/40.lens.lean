/-! A block of cells in the heap, as a list -/
def pL (h : xH) (a : Nat) (l : List xC) : xH := (h.1, h.2.1, fun q => if a ≤ q then (match l[q - a]? with
  | some c => c
  | none => h.2.2 q) else h.2.2 q)
theorem pL_get {h : xH} {a k : Nat} {l : List xC} {c : xC} (hk : l[k]? = some c) : (pL h a l).2.2 (a + k) = c := by
  show (if a ≤ a + k then (match l[a + k - a]? with | some c => c | none => h.2.2 (a + k)) else h.2.2 (a + k)) = c
  rw [if_pos (Nat.le_add_right _ _), Nat.add_sub_cancel_left, hk]
theorem pL_out {h : xH} {a q : Nat} {l : List xC} (hq : q < a ∨ a + l.length ≤ q) : (pL h a l).2.2 q = h.2.2 q := by
  show (if a ≤ q then (match l[q - a]? with | some c => c | none => h.2.2 q) else h.2.2 q) = h.2.2 q
  by_cases hc : a ≤ q
  · rw [if_pos hc, List.getElem?_eq_none (by omega)]
  · rw [if_neg hc]
theorem pL_up {h : xH} {a k : Nat} {l : List xC} (c : xC) (hk : k < l.length) : xup (pL h a l) (a + k) c = pL h a (l.set k c) := by
  unfold xup
  refine Prod.ext rfl (Prod.ext rfl ?_)
  funext q
  show (if q = a + k then c else (pL h a l).2.2 q) = (pL h a (l.set k c)).2.2 q
  by_cases hq : q = a + k
  · subst hq
    rw [if_pos rfl, pL_get (l := l.set k c) (List.getElem?_set_self hk)]
  · rw [if_neg hq]
    show (if a ≤ q then (match l[q - a]? with | some c => c | none => h.2.2 q) else h.2.2 q) = (if a ≤ q then (match (l.set k c)[q - a]? with | some c => c | none => h.2.2 q) else h.2.2 q)
    by_cases hc : a ≤ q
    · rw [if_pos hc, if_pos hc, List.getElem?_set_ne (by omega)]
    · rw [if_neg hc, if_neg hc]
theorem pL_pL (h : xH) (a : Nat) (l l' : List xC) (hl : l.length = l'.length) : pL (pL h a l) a l' = pL h a l' := by
  refine Prod.ext rfl (Prod.ext rfl ?_)
  funext q
  by_cases hq : q < a ∨ a + l.length ≤ q
  · rw [pL_out (by omega), pL_out hq, pL_out (by omega)]
  · have h1 : ∃ c, l'[q - a]? = some c := ⟨_, List.getElem?_eq_getElem (by omega)⟩
    obtain ⟨c, hc⟩ := h1
    have e : q = a + (q - a) := by omega
    rw [e, pL_get hc, pL_get hc]
/-- the block lies in the heap -/
def pAt (h : xH) (a : Nat) (l : List xC) : Prop := ∀ k c, l[k]? = some c → h.2.2 (a + k) = c
theorem pL_at (h : xH) (a : Nat) (l : List xC) : pAt (pL h a l) a l := fun _ _ hk => pL_get hk
theorem pL_id {h : xH} {a : Nat} {l : List xC} (hp : pAt h a l) : pL h a l = h := by
  refine Prod.ext rfl (Prod.ext rfl ?_)
  funext q
  by_cases hq : q < a ∨ a + l.length ≤ q
  · rw [pL_out hq]
  · have h1 : ∃ c, l[q - a]? = some c := ⟨_, List.getElem?_eq_getElem (by omega)⟩
    obtain ⟨c, hc⟩ := h1
    have e : q = a + (q - a) := by omega
    rw [e, pL_get hc, hp _ _ hc]
theorem pAt_pL {h : xH} {a b : Nat} {l l' : List xC} (hp : pAt h a l) (hd : a + l.length ≤ b ∨ b + l'.length ≤ a) : pAt (pL h b l') a l := fun k c hk => by
  have hl : k < l.length := (List.getElem?_eq_some_iff.mp hk).1
  rw [pL_out (by omega)]
  exact hp k c hk
section LENS
variable {h : xH} {a : Nat} {l : List xC}
theorem xarr_pL {t k n : Nat} {f : Nat → Int32} (hk : l[k]? = some (.inl (t, n, f))) : xarr (pL h a l) t (a + k) = some (n, f) := by
  unfold xarr
  rw [pL_get hk]
  simp
theorem xobj_pL {k ci : Nat} {fs : List Value} (hk : l[k]? = some (.inr (.inr (ci, fs)))) : xobj (pL h a l) (a + k) ci = some fs := by
  unfold xobj
  rw [pL_get hk]
  simp
theorem xgu_pL {k ci : Nat} {fs : List Value} (hk : l[k]? = some (.inr (.inr (ci, fs)))) (z : Option xR) : xgu (pL h a l) (a + k) ci z = z := by
  unfold xgu
  rw [xobj_pL hk]
  rfl
theorem xri_pL {t k n : Nat} {f : Nat → Int32} (hk : l[k]? = some (.inl (t, n, f))) (i : Int32) : xri (pL h a l) t (a + k) i = bif xin i n then some (f i.toNatClampNeg) else none := by
  unfold xri
  rw [xarr_pL hk]
  rfl
theorem xwi_pL {t k n : Nat} {f : Nat → Int32} {l' : List xC} {i v : Int32} (hk : l[k]? = some (.inl (t, n, f))) (hl : l.set k (.inl (t, n, upd f i.toNatClampNeg v)) = l') : xwi (pL h a l) t (a + k) i v = bif xin i n then some (pL h a l') else none := by
  unfold xwi
  rw [xarr_pL hk, Option.bind_some, pL_up _ (List.getElem?_eq_some_iff.mp hk).1, hl]
theorem xfR_pL {k ci j b : Nat} {fs : List Value} (hk : l[k]? = some (.inr (.inr (ci, fs)))) (hf : fs[j]? = some (.ref b)) : xfR (pL h a l) (a + k) ci j = some b := by
  unfold xfR
  rw [xobj_pL hk, Option.bind_some, hf]
  rfl
theorem xfI_pL {k ci j : Nat} {v : Int32} {fs : List Value} (hk : l[k]? = some (.inr (.inr (ci, fs)))) (hf : fs[j]? = some (.int v)) : xfI (pL h a l) (a + k) ci j = some v := by
  unfold xfI
  rw [xobj_pL hk, Option.bind_some, hf]
  rfl
theorem xfL_pL {k ci j : Nat} {v : Int64} {fs : List Value} (hk : l[k]? = some (.inr (.inr (ci, fs)))) (hf : fs[j]? = some (.long v)) : xfL (pL h a l) (a + k) ci j = some v := by
  unfold xfL
  rw [xobj_pL hk, Option.bind_some, hf]
  rfl
theorem xpf_pL {k ci j : Nat} {v : Value} {fs : List Value} {l' : List xC} (hk : l[k]? = some (.inr (.inr (ci, fs)))) (hj : j < fs.length) (hl : l.set k (.inr (.inr (ci, fs.set j v))) = l') : xpf (pL h a l) (a + k) ci j v = some (pL h a l') := by
  unfold xpf
  rw [xobj_pL hk, Option.bind_some, show Nat.blt j fs.length = true from Nat.ble_eq_true_of_le hj, cond_true, pL_up _ (List.getElem?_eq_some_iff.mp hk).1, hl]
theorem xcp_pL {k m n0 n1 : Nat} {f g : Nat → Int32} {sp dp n : Int32} {l' : List xC} (hk : l[k]? = some (.inl (0, n0, f))) (hm : l[m]? = some (.inl (0, n1, g))) (hl : l.set m (.inl (0, n1, va_cpy f g sp.toNatClampNeg dp.toNatClampNeg n.toNatClampNeg)) = l') :
    xcp (pL h a l) (a + k) sp (a + m) dp n = bif (!(decide (sp < 0)) && !(decide (dp < 0)) && !(decide (n < 0))) && (Nat.ble (sp.toNatClampNeg + n.toNatClampNeg) n0 && Nat.ble (dp.toNatClampNeg + n.toNatClampNeg) n1) then some (pL h a l') else none := by
  unfold xcp
  rw [xarr_pL hk, Option.bind_some, xarr_pL hm, Option.bind_some, pL_up _ (List.getElem?_eq_some_iff.mp hm).1, hl]
end LENS
/-- the reference's state: its rows and its numbers by the numbers of the fields, and the checksum -/
abbrev mS : Type := (Nat → Nat → Int32) × (Nat → Int32) × Int64
def gM (a : Nat) (S : mS) : List xC := [.inr (.inr (5, [.ref (a + 1), .ref (a + 2), .ref (a + 3), .int (S.2.1 3), .ref (a + 4), .ref (a + 5), .int (S.2.1 6), .ref (a + 6), .ref (a + 7), .ref (a + 8), .ref (a + 9), .ref (a + 10), .int (S.2.1 12), .ref (a + 11), .int (S.2.1 14), .ref (a + 12), .int (S.2.1 16), .ref (a + 13), .ref (a + 14), .ref (a + 15), .ref (a + 16), .int (S.2.1 21), .int (S.2.1 22), .int (S.2.1 23), .long S.2.2])), .inl (0, 311, S.1 0), .inl (0, 311, S.1 1), .inl (0, 1555, S.1 2), .inl (0, 3, S.1 4), .inl (0, 120, S.1 5), .inl (0, 5, S.1 7), .inl (0, 24, S.1 8), .inl (0, 24, S.1 9), .inl (0, 24, S.1 10), .inl (0, 24, S.1 11), .inl (0, 16, S.1 13), .inl (0, 16, S.1 15), .inl (0, 16, S.1 17), .inl (1, 16, S.1 18), .inl (0, 60, S.1 19), .inl (0, 300, S.1 20)]
def pM (h : xH) (a : Nat) (S : mS) : xH := pL h a (gM a S)
section ML
variable (h : xH) (a : Nat) (S : mS)
theorem ml_gu (z : Option xR) : xgu (pM h a S) a 5 z = z := xgu_pL (h := h) (a := a) (k := 0) rfl z
theorem ml_f0 : xfR (pM h a S) a 5 0 = some (a + 1) := xfR_pL (h := h) (a := a) (k := 0) rfl rfl
theorem ml_r0 (i : Int32) : xri (pM h a S) 0 (a + 1) i = bif xin i 311 then some (S.1 0 i.toNatClampNeg) else none := xri_pL (h := h) (a := a) (k := 1) rfl i
theorem ml_w0 (i v : Int32) : xwi (pM h a S) 0 (a + 1) i v = bif xin i 311 then some (pM h a (va_up S.1 0 (upd (S.1 0) i.toNatClampNeg v), S.2)) else none := xwi_pL (h := h) (a := a) (k := 1) rfl rfl
theorem ml_f1 : xfR (pM h a S) a 5 1 = some (a + 2) := xfR_pL (h := h) (a := a) (k := 0) rfl rfl
theorem ml_r1 (i : Int32) : xri (pM h a S) 0 (a + 2) i = bif xin i 311 then some (S.1 1 i.toNatClampNeg) else none := xri_pL (h := h) (a := a) (k := 2) rfl i
theorem ml_w1 (i v : Int32) : xwi (pM h a S) 0 (a + 2) i v = bif xin i 311 then some (pM h a (va_up S.1 1 (upd (S.1 1) i.toNatClampNeg v), S.2)) else none := xwi_pL (h := h) (a := a) (k := 2) rfl rfl
theorem ml_f2 : xfR (pM h a S) a 5 2 = some (a + 3) := xfR_pL (h := h) (a := a) (k := 0) rfl rfl
theorem ml_r2 (i : Int32) : xri (pM h a S) 0 (a + 3) i = bif xin i 1555 then some (S.1 2 i.toNatClampNeg) else none := xri_pL (h := h) (a := a) (k := 3) rfl i
theorem ml_w2 (i v : Int32) : xwi (pM h a S) 0 (a + 3) i v = bif xin i 1555 then some (pM h a (va_up S.1 2 (upd (S.1 2) i.toNatClampNeg v), S.2)) else none := xwi_pL (h := h) (a := a) (k := 3) rfl rfl
theorem ml_f4 : xfR (pM h a S) a 5 4 = some (a + 4) := xfR_pL (h := h) (a := a) (k := 0) rfl rfl
theorem ml_r4 (i : Int32) : xri (pM h a S) 0 (a + 4) i = bif xin i 3 then some (S.1 4 i.toNatClampNeg) else none := xri_pL (h := h) (a := a) (k := 4) rfl i
theorem ml_w4 (i v : Int32) : xwi (pM h a S) 0 (a + 4) i v = bif xin i 3 then some (pM h a (va_up S.1 4 (upd (S.1 4) i.toNatClampNeg v), S.2)) else none := xwi_pL (h := h) (a := a) (k := 4) rfl rfl
theorem ml_f5 : xfR (pM h a S) a 5 5 = some (a + 5) := xfR_pL (h := h) (a := a) (k := 0) rfl rfl
theorem ml_r5 (i : Int32) : xri (pM h a S) 0 (a + 5) i = bif xin i 120 then some (S.1 5 i.toNatClampNeg) else none := xri_pL (h := h) (a := a) (k := 5) rfl i
theorem ml_w5 (i v : Int32) : xwi (pM h a S) 0 (a + 5) i v = bif xin i 120 then some (pM h a (va_up S.1 5 (upd (S.1 5) i.toNatClampNeg v), S.2)) else none := xwi_pL (h := h) (a := a) (k := 5) rfl rfl
theorem ml_f7 : xfR (pM h a S) a 5 7 = some (a + 6) := xfR_pL (h := h) (a := a) (k := 0) rfl rfl
theorem ml_r7 (i : Int32) : xri (pM h a S) 0 (a + 6) i = bif xin i 5 then some (S.1 7 i.toNatClampNeg) else none := xri_pL (h := h) (a := a) (k := 6) rfl i
theorem ml_w7 (i v : Int32) : xwi (pM h a S) 0 (a + 6) i v = bif xin i 5 then some (pM h a (va_up S.1 7 (upd (S.1 7) i.toNatClampNeg v), S.2)) else none := xwi_pL (h := h) (a := a) (k := 6) rfl rfl
theorem ml_f8 : xfR (pM h a S) a 5 8 = some (a + 7) := xfR_pL (h := h) (a := a) (k := 0) rfl rfl
theorem ml_r8 (i : Int32) : xri (pM h a S) 0 (a + 7) i = bif xin i 24 then some (S.1 8 i.toNatClampNeg) else none := xri_pL (h := h) (a := a) (k := 7) rfl i
theorem ml_w8 (i v : Int32) : xwi (pM h a S) 0 (a + 7) i v = bif xin i 24 then some (pM h a (va_up S.1 8 (upd (S.1 8) i.toNatClampNeg v), S.2)) else none := xwi_pL (h := h) (a := a) (k := 7) rfl rfl
theorem ml_f9 : xfR (pM h a S) a 5 9 = some (a + 8) := xfR_pL (h := h) (a := a) (k := 0) rfl rfl
theorem ml_r9 (i : Int32) : xri (pM h a S) 0 (a + 8) i = bif xin i 24 then some (S.1 9 i.toNatClampNeg) else none := xri_pL (h := h) (a := a) (k := 8) rfl i
theorem ml_w9 (i v : Int32) : xwi (pM h a S) 0 (a + 8) i v = bif xin i 24 then some (pM h a (va_up S.1 9 (upd (S.1 9) i.toNatClampNeg v), S.2)) else none := xwi_pL (h := h) (a := a) (k := 8) rfl rfl
theorem ml_f10 : xfR (pM h a S) a 5 10 = some (a + 9) := xfR_pL (h := h) (a := a) (k := 0) rfl rfl
theorem ml_r10 (i : Int32) : xri (pM h a S) 0 (a + 9) i = bif xin i 24 then some (S.1 10 i.toNatClampNeg) else none := xri_pL (h := h) (a := a) (k := 9) rfl i
theorem ml_w10 (i v : Int32) : xwi (pM h a S) 0 (a + 9) i v = bif xin i 24 then some (pM h a (va_up S.1 10 (upd (S.1 10) i.toNatClampNeg v), S.2)) else none := xwi_pL (h := h) (a := a) (k := 9) rfl rfl
theorem ml_f11 : xfR (pM h a S) a 5 11 = some (a + 10) := xfR_pL (h := h) (a := a) (k := 0) rfl rfl
theorem ml_r11 (i : Int32) : xri (pM h a S) 0 (a + 10) i = bif xin i 24 then some (S.1 11 i.toNatClampNeg) else none := xri_pL (h := h) (a := a) (k := 10) rfl i
theorem ml_w11 (i v : Int32) : xwi (pM h a S) 0 (a + 10) i v = bif xin i 24 then some (pM h a (va_up S.1 11 (upd (S.1 11) i.toNatClampNeg v), S.2)) else none := xwi_pL (h := h) (a := a) (k := 10) rfl rfl
theorem ml_f13 : xfR (pM h a S) a 5 13 = some (a + 11) := xfR_pL (h := h) (a := a) (k := 0) rfl rfl
theorem ml_r13 (i : Int32) : xri (pM h a S) 0 (a + 11) i = bif xin i 16 then some (S.1 13 i.toNatClampNeg) else none := xri_pL (h := h) (a := a) (k := 11) rfl i
theorem ml_w13 (i v : Int32) : xwi (pM h a S) 0 (a + 11) i v = bif xin i 16 then some (pM h a (va_up S.1 13 (upd (S.1 13) i.toNatClampNeg v), S.2)) else none := xwi_pL (h := h) (a := a) (k := 11) rfl rfl
theorem ml_f15 : xfR (pM h a S) a 5 15 = some (a + 12) := xfR_pL (h := h) (a := a) (k := 0) rfl rfl
theorem ml_r15 (i : Int32) : xri (pM h a S) 0 (a + 12) i = bif xin i 16 then some (S.1 15 i.toNatClampNeg) else none := xri_pL (h := h) (a := a) (k := 12) rfl i
theorem ml_w15 (i v : Int32) : xwi (pM h a S) 0 (a + 12) i v = bif xin i 16 then some (pM h a (va_up S.1 15 (upd (S.1 15) i.toNatClampNeg v), S.2)) else none := xwi_pL (h := h) (a := a) (k := 12) rfl rfl
theorem ml_f17 : xfR (pM h a S) a 5 17 = some (a + 13) := xfR_pL (h := h) (a := a) (k := 0) rfl rfl
theorem ml_r17 (i : Int32) : xri (pM h a S) 0 (a + 13) i = bif xin i 16 then some (S.1 17 i.toNatClampNeg) else none := xri_pL (h := h) (a := a) (k := 13) rfl i
theorem ml_w17 (i v : Int32) : xwi (pM h a S) 0 (a + 13) i v = bif xin i 16 then some (pM h a (va_up S.1 17 (upd (S.1 17) i.toNatClampNeg v), S.2)) else none := xwi_pL (h := h) (a := a) (k := 13) rfl rfl
theorem ml_f18 : xfR (pM h a S) a 5 18 = some (a + 14) := xfR_pL (h := h) (a := a) (k := 0) rfl rfl
theorem ml_r18 (i : Int32) : xri (pM h a S) 1 (a + 14) i = bif xin i 16 then some (S.1 18 i.toNatClampNeg) else none := xri_pL (h := h) (a := a) (k := 14) rfl i
theorem ml_w18 (i v : Int32) : xwi (pM h a S) 1 (a + 14) i v = bif xin i 16 then some (pM h a (va_up S.1 18 (upd (S.1 18) i.toNatClampNeg v), S.2)) else none := xwi_pL (h := h) (a := a) (k := 14) rfl rfl
theorem ml_f19 : xfR (pM h a S) a 5 19 = some (a + 15) := xfR_pL (h := h) (a := a) (k := 0) rfl rfl
theorem ml_r19 (i : Int32) : xri (pM h a S) 0 (a + 15) i = bif xin i 60 then some (S.1 19 i.toNatClampNeg) else none := xri_pL (h := h) (a := a) (k := 15) rfl i
theorem ml_w19 (i v : Int32) : xwi (pM h a S) 0 (a + 15) i v = bif xin i 60 then some (pM h a (va_up S.1 19 (upd (S.1 19) i.toNatClampNeg v), S.2)) else none := xwi_pL (h := h) (a := a) (k := 15) rfl rfl
theorem ml_f20 : xfR (pM h a S) a 5 20 = some (a + 16) := xfR_pL (h := h) (a := a) (k := 0) rfl rfl
theorem ml_r20 (i : Int32) : xri (pM h a S) 0 (a + 16) i = bif xin i 300 then some (S.1 20 i.toNatClampNeg) else none := xri_pL (h := h) (a := a) (k := 16) rfl i
theorem ml_w20 (i v : Int32) : xwi (pM h a S) 0 (a + 16) i v = bif xin i 300 then some (pM h a (va_up S.1 20 (upd (S.1 20) i.toNatClampNeg v), S.2)) else none := xwi_pL (h := h) (a := a) (k := 16) rfl rfl
theorem ml_i3 : xfI (pM h a S) a 5 3 = some (S.2.1 3) := xfI_pL (h := h) (a := a) (k := 0) rfl rfl
theorem ml_p3 (v : Int32) : xpf (pM h a S) a 5 3 (.int v) = some (pM h a (S.1, va_up S.2.1 3 v, S.2.2)) := xpf_pL (h := h) (a := a) (k := 0) rfl (by simp) rfl
theorem ml_i6 : xfI (pM h a S) a 5 6 = some (S.2.1 6) := xfI_pL (h := h) (a := a) (k := 0) rfl rfl
theorem ml_p6 (v : Int32) : xpf (pM h a S) a 5 6 (.int v) = some (pM h a (S.1, va_up S.2.1 6 v, S.2.2)) := xpf_pL (h := h) (a := a) (k := 0) rfl (by simp) rfl
theorem ml_i12 : xfI (pM h a S) a 5 12 = some (S.2.1 12) := xfI_pL (h := h) (a := a) (k := 0) rfl rfl
theorem ml_p12 (v : Int32) : xpf (pM h a S) a 5 12 (.int v) = some (pM h a (S.1, va_up S.2.1 12 v, S.2.2)) := xpf_pL (h := h) (a := a) (k := 0) rfl (by simp) rfl
theorem ml_i14 : xfI (pM h a S) a 5 14 = some (S.2.1 14) := xfI_pL (h := h) (a := a) (k := 0) rfl rfl
theorem ml_p14 (v : Int32) : xpf (pM h a S) a 5 14 (.int v) = some (pM h a (S.1, va_up S.2.1 14 v, S.2.2)) := xpf_pL (h := h) (a := a) (k := 0) rfl (by simp) rfl
theorem ml_i16 : xfI (pM h a S) a 5 16 = some (S.2.1 16) := xfI_pL (h := h) (a := a) (k := 0) rfl rfl
theorem ml_p16 (v : Int32) : xpf (pM h a S) a 5 16 (.int v) = some (pM h a (S.1, va_up S.2.1 16 v, S.2.2)) := xpf_pL (h := h) (a := a) (k := 0) rfl (by simp) rfl
theorem ml_i21 : xfI (pM h a S) a 5 21 = some (S.2.1 21) := xfI_pL (h := h) (a := a) (k := 0) rfl rfl
theorem ml_p21 (v : Int32) : xpf (pM h a S) a 5 21 (.int v) = some (pM h a (S.1, va_up S.2.1 21 v, S.2.2)) := xpf_pL (h := h) (a := a) (k := 0) rfl (by simp) rfl
theorem ml_i22 : xfI (pM h a S) a 5 22 = some (S.2.1 22) := xfI_pL (h := h) (a := a) (k := 0) rfl rfl
theorem ml_p22 (v : Int32) : xpf (pM h a S) a 5 22 (.int v) = some (pM h a (S.1, va_up S.2.1 22 v, S.2.2)) := xpf_pL (h := h) (a := a) (k := 0) rfl (by simp) rfl
theorem ml_i23 : xfI (pM h a S) a 5 23 = some (S.2.1 23) := xfI_pL (h := h) (a := a) (k := 0) rfl rfl
theorem ml_p23 (v : Int32) : xpf (pM h a S) a 5 23 (.int v) = some (pM h a (S.1, va_up S.2.1 23 v, S.2.2)) := xpf_pL (h := h) (a := a) (k := 0) rfl (by simp) rfl
theorem ml_l : xfL (pM h a S) a 5 24 = some S.2.2 := xfL_pL (h := h) (a := a) (k := 0) rfl rfl
theorem ml_pl (v : Int64) : xpf (pM h a S) a 5 24 (.long v) = some (pM h a (S.1, S.2.1, v)) := xpf_pL (h := h) (a := a) (k := 0) rfl (by simp) rfl
end ML
/-- a scene of the class: rows 0 boxes, 1 parents, 2 ranks, 3 sizes, 4 entries, 5 others, 6 line, 7 noted, 8 the damaged boxes, 9 levels, 10 clips; numbers 0 root, 1 how many noted, 2 how many damaged -/
abbrev sS : Type := (Nat → Nat → Int32) × (Nat → Int32)
def gS (a : Nat) (S : sS) : List xC := [.inr (.inr (2, [.ref (a + 1), .ref (a + 10), .ref (a + 2), .ref (a + 12), .ref (a + 13)])), .inr (.inr (3, [.int (S.2 0), .ref (a + 2), .ref (a + 3), .ref (a + 4), .ref (a + 5), .ref (a + 6), .ref (a + 7), .ref (a + 8), .ref (a + 9), .int (S.2 1)])), .inl (0, 32, S.1 0), .inl (0, 32, S.1 1), .inl (0, 32, S.1 2), .inl (0, 32, S.1 3), .inl (0, 80, S.1 4), .inl (0, 3, S.1 5), .inl (0, 16, S.1 6), .inl (0, 16, S.1 7), .inr (.inr (0, [.ref (a + 11), .int (S.2 2)])), .inl (0, 5, S.1 8), .inl (0, 16, S.1 9), .inl (0, 16, S.1 10)]
def pS (h : xH) (a : Nat) (S : sS) : xH := pL h a (gS a S)
section SL
variable (h : xH) (a : Nat) (S : sS)
theorem sl_gu (z : Option xR) : xgu (pS h a S) a 2 z = z := xgu_pL (h := h) (a := a) (k := 0) rfl z
theorem sl_gt (z : Option xR) : xgu (pS h a S) (a + 1) 3 z = z := xgu_pL (h := h) (a := a) (k := 1) rfl z
theorem sl_gd (z : Option xR) : xgu (pS h a S) (a + 10) 0 z = z := xgu_pL (h := h) (a := a) (k := 10) rfl z
theorem sl_s0 : xfR (pS h a S) a 2 0 = some (a + 1) := xfR_pL (h := h) (a := a) (k := 0) rfl rfl
theorem sl_s1 : xfR (pS h a S) a 2 1 = some (a + 10) := xfR_pL (h := h) (a := a) (k := 0) rfl rfl
theorem sl_s2 : xfR (pS h a S) a 2 2 = some (a + 2) := xfR_pL (h := h) (a := a) (k := 0) rfl rfl
theorem sl_s3 : xfR (pS h a S) a 2 3 = some (a + 12) := xfR_pL (h := h) (a := a) (k := 0) rfl rfl
theorem sl_s4 : xfR (pS h a S) a 2 4 = some (a + 13) := xfR_pL (h := h) (a := a) (k := 0) rfl rfl
theorem sl_t1 : xfR (pS h a S) (a + 1) 3 1 = some (a + 2) := xfR_pL (h := h) (a := a) (k := 1) rfl rfl
theorem sl_t2 : xfR (pS h a S) (a + 1) 3 2 = some (a + 3) := xfR_pL (h := h) (a := a) (k := 1) rfl rfl
theorem sl_t3 : xfR (pS h a S) (a + 1) 3 3 = some (a + 4) := xfR_pL (h := h) (a := a) (k := 1) rfl rfl
theorem sl_t4 : xfR (pS h a S) (a + 1) 3 4 = some (a + 5) := xfR_pL (h := h) (a := a) (k := 1) rfl rfl
theorem sl_t5 : xfR (pS h a S) (a + 1) 3 5 = some (a + 6) := xfR_pL (h := h) (a := a) (k := 1) rfl rfl
theorem sl_t6 : xfR (pS h a S) (a + 1) 3 6 = some (a + 7) := xfR_pL (h := h) (a := a) (k := 1) rfl rfl
theorem sl_t7 : xfR (pS h a S) (a + 1) 3 7 = some (a + 8) := xfR_pL (h := h) (a := a) (k := 1) rfl rfl
theorem sl_t8 : xfR (pS h a S) (a + 1) 3 8 = some (a + 9) := xfR_pL (h := h) (a := a) (k := 1) rfl rfl
theorem sl_t0 : xfI (pS h a S) (a + 1) 3 0 = some (S.2 0) := xfI_pL (h := h) (a := a) (k := 1) rfl rfl
theorem sl_t9 : xfI (pS h a S) (a + 1) 3 9 = some (S.2 1) := xfI_pL (h := h) (a := a) (k := 1) rfl rfl
theorem sl_pt0 (v : Int32) : xpf (pS h a S) (a + 1) 3 0 (.int v) = some (pS h a (S.1, va_up S.2 0 v)) := xpf_pL (h := h) (a := a) (k := 1) rfl (by simp) rfl
theorem sl_pt9 (v : Int32) : xpf (pS h a S) (a + 1) 3 9 (.int v) = some (pS h a (S.1, va_up S.2 1 v)) := xpf_pL (h := h) (a := a) (k := 1) rfl (by simp) rfl
theorem sl_d0 : xfR (pS h a S) (a + 10) 0 0 = some (a + 11) := xfR_pL (h := h) (a := a) (k := 10) rfl rfl
theorem sl_d1 : xfI (pS h a S) (a + 10) 0 1 = some (S.2 2) := xfI_pL (h := h) (a := a) (k := 10) rfl rfl
theorem sl_pd1 (v : Int32) : xpf (pS h a S) (a + 10) 0 1 (.int v) = some (pS h a (S.1, va_up S.2 2 v)) := xpf_pL (h := h) (a := a) (k := 10) rfl (by simp) rfl
theorem sl_r0 (i : Int32) : xri (pS h a S) 0 (a + 2) i = bif xin i 32 then some (S.1 0 i.toNatClampNeg) else none := xri_pL (h := h) (a := a) (k := 2) rfl i
theorem sl_w0 (i v : Int32) : xwi (pS h a S) 0 (a + 2) i v = bif xin i 32 then some (pS h a (va_up S.1 0 (upd (S.1 0) i.toNatClampNeg v), S.2)) else none := xwi_pL (h := h) (a := a) (k := 2) rfl rfl
theorem sl_r1 (i : Int32) : xri (pS h a S) 0 (a + 3) i = bif xin i 32 then some (S.1 1 i.toNatClampNeg) else none := xri_pL (h := h) (a := a) (k := 3) rfl i
theorem sl_w1 (i v : Int32) : xwi (pS h a S) 0 (a + 3) i v = bif xin i 32 then some (pS h a (va_up S.1 1 (upd (S.1 1) i.toNatClampNeg v), S.2)) else none := xwi_pL (h := h) (a := a) (k := 3) rfl rfl
theorem sl_r2 (i : Int32) : xri (pS h a S) 0 (a + 4) i = bif xin i 32 then some (S.1 2 i.toNatClampNeg) else none := xri_pL (h := h) (a := a) (k := 4) rfl i
theorem sl_w2 (i v : Int32) : xwi (pS h a S) 0 (a + 4) i v = bif xin i 32 then some (pS h a (va_up S.1 2 (upd (S.1 2) i.toNatClampNeg v), S.2)) else none := xwi_pL (h := h) (a := a) (k := 4) rfl rfl
theorem sl_r3 (i : Int32) : xri (pS h a S) 0 (a + 5) i = bif xin i 32 then some (S.1 3 i.toNatClampNeg) else none := xri_pL (h := h) (a := a) (k := 5) rfl i
theorem sl_w3 (i v : Int32) : xwi (pS h a S) 0 (a + 5) i v = bif xin i 32 then some (pS h a (va_up S.1 3 (upd (S.1 3) i.toNatClampNeg v), S.2)) else none := xwi_pL (h := h) (a := a) (k := 5) rfl rfl
theorem sl_r4 (i : Int32) : xri (pS h a S) 0 (a + 6) i = bif xin i 80 then some (S.1 4 i.toNatClampNeg) else none := xri_pL (h := h) (a := a) (k := 6) rfl i
theorem sl_w4 (i v : Int32) : xwi (pS h a S) 0 (a + 6) i v = bif xin i 80 then some (pS h a (va_up S.1 4 (upd (S.1 4) i.toNatClampNeg v), S.2)) else none := xwi_pL (h := h) (a := a) (k := 6) rfl rfl
theorem sl_r5 (i : Int32) : xri (pS h a S) 0 (a + 7) i = bif xin i 3 then some (S.1 5 i.toNatClampNeg) else none := xri_pL (h := h) (a := a) (k := 7) rfl i
theorem sl_w5 (i v : Int32) : xwi (pS h a S) 0 (a + 7) i v = bif xin i 3 then some (pS h a (va_up S.1 5 (upd (S.1 5) i.toNatClampNeg v), S.2)) else none := xwi_pL (h := h) (a := a) (k := 7) rfl rfl
theorem sl_r6 (i : Int32) : xri (pS h a S) 0 (a + 8) i = bif xin i 16 then some (S.1 6 i.toNatClampNeg) else none := xri_pL (h := h) (a := a) (k := 8) rfl i
theorem sl_w6 (i v : Int32) : xwi (pS h a S) 0 (a + 8) i v = bif xin i 16 then some (pS h a (va_up S.1 6 (upd (S.1 6) i.toNatClampNeg v), S.2)) else none := xwi_pL (h := h) (a := a) (k := 8) rfl rfl
theorem sl_r7 (i : Int32) : xri (pS h a S) 0 (a + 9) i = bif xin i 16 then some (S.1 7 i.toNatClampNeg) else none := xri_pL (h := h) (a := a) (k := 9) rfl i
theorem sl_w7 (i v : Int32) : xwi (pS h a S) 0 (a + 9) i v = bif xin i 16 then some (pS h a (va_up S.1 7 (upd (S.1 7) i.toNatClampNeg v), S.2)) else none := xwi_pL (h := h) (a := a) (k := 9) rfl rfl
theorem sl_r8 (i : Int32) : xri (pS h a S) 0 (a + 11) i = bif xin i 5 then some (S.1 8 i.toNatClampNeg) else none := xri_pL (h := h) (a := a) (k := 11) rfl i
theorem sl_w8 (i v : Int32) : xwi (pS h a S) 0 (a + 11) i v = bif xin i 5 then some (pS h a (va_up S.1 8 (upd (S.1 8) i.toNatClampNeg v), S.2)) else none := xwi_pL (h := h) (a := a) (k := 11) rfl rfl
theorem sl_r9 (i : Int32) : xri (pS h a S) 0 (a + 12) i = bif xin i 16 then some (S.1 9 i.toNatClampNeg) else none := xri_pL (h := h) (a := a) (k := 12) rfl i
theorem sl_w9 (i v : Int32) : xwi (pS h a S) 0 (a + 12) i v = bif xin i 16 then some (pS h a (va_up S.1 9 (upd (S.1 9) i.toNatClampNeg v), S.2)) else none := xwi_pL (h := h) (a := a) (k := 12) rfl rfl
theorem sl_r10 (i : Int32) : xri (pS h a S) 0 (a + 13) i = bif xin i 16 then some (S.1 10 i.toNatClampNeg) else none := xri_pL (h := h) (a := a) (k := 13) rfl i
theorem sl_w10 (i v : Int32) : xwi (pS h a S) 0 (a + 13) i v = bif xin i 16 then some (pS h a (va_up S.1 10 (upd (S.1 10) i.toNatClampNeg v), S.2)) else none := xwi_pL (h := h) (a := a) (k := 13) rfl rfl
theorem sl_c6 (sp dp n : Int32) : xcp (pS h a S) (a + 6) sp (a + 8) dp n = bif (!(decide (sp < 0)) && !(decide (dp < 0)) && !(decide (n < 0))) && (Nat.ble (sp.toNatClampNeg + n.toNatClampNeg) 80 && Nat.ble (dp.toNatClampNeg + n.toNatClampNeg) 16) then some (pS h a (va_up S.1 6 (va_cpy (S.1 4) (S.1 6) sp.toNatClampNeg dp.toNatClampNeg n.toNatClampNeg), S.2)) else none := xcp_pL (h := h) (a := a) (k := 6) (m := 8) rfl rfl rfl
theorem sl_c7 (sp dp n : Int32) : xcp (pS h a S) (a + 6) sp (a + 9) dp n = bif (!(decide (sp < 0)) && !(decide (dp < 0)) && !(decide (n < 0))) && (Nat.ble (sp.toNatClampNeg + n.toNatClampNeg) 80 && Nat.ble (dp.toNatClampNeg + n.toNatClampNeg) 16) then some (pS h a (va_up S.1 7 (va_cpy (S.1 4) (S.1 7) sp.toNatClampNeg dp.toNatClampNeg n.toNatClampNeg), S.2)) else none := xcp_pL (h := h) (a := a) (k := 6) (m := 9) rfl rfl rfl
end SL
theorem xcV_some (h : xH) (f : xH → Option xR) : xcV (some (none, h)) f = f h := rfl
theorem xcI_some (x : Int32) (h : xH) (f : Int32 → xH → Option xR) : xcI (some (some (.int x), h)) f = f x h := rfl
theorem xcL_some (x : Int64) (h : xH) (f : Int64 → xH → Option xR) : xcL (some (some (.long x), h)) f = f x h := rfl
theorem xin_nI {i n : Nat} (h : i < n) (hn : n < 2 ^ 31) : xin (nI i) n = true := by
  unfold xin
  rw [nI_clamp (by omega)]
  simp only [Bool.and_eq_true, Bool.not_eq_true', decide_eq_false_iff_not]
  exact ⟨nI_pos (by omega), Nat.ble_eq_true_of_le h⟩
