/-! How the small machine's values, cells and locals stand in the real one: an address k is Bs + k there -/
def xcv (Bs : Nat) (v : Value) : Value := match v with
  | .ref a => .ref (Bs + a)
  | v => v
theorem xcv_cat (Bs : Nat) (v : Value) : (xcv Bs v).category = v.category := by cases v <;> rfl
abbrev xG : Type := ClassId × ClassId × ClassId
def xce (G : xG) (Bs : Nat) (c : xC) : va_E := match c with
  | .inl q => .inl ((if q.1 = 0 then G.1 else G.2.1), q.2.1, .inl q.2.2)
  | .inr (.inl q) => .inl (G.2.2, q.1, .inr (.inr (.inr (.inr (fun j => (q.2 j).map (fun a => Bs + a))))))
  | .inr (.inr q) => .inr (q.1, q.2.map (xcv Bs))
def xws (G : xG) (Bs : Nat) (h : xH) : va_W := (List.range h.1).map fun k => (Bs + k, xce G Bs (h.2.2 k))
def xtys (G : xG) : List (ClassId × FieldType) := [(G.1, .int), (G.2.1, .boolean), (G.2.2, .object "SceneBoxes$Scene")]
theorem xws_len (G : xG) (Bs : Nat) (h : xH) : (xws G Bs h).length = h.1 := by simp [xws]
theorem xws_get {G : xG} {Bs : Nat} {h : xH} {k : Nat} (hk : k < h.1) : (xws G Bs h)[k]? = some (Bs + k, xce G Bs (h.2.2 k)) := by
  simp [xws, List.getElem?_map, List.getElem?_range hk]
theorem xws_at {G : xG} {Bs : Nat} {h : xH} {k : Nat} {x : Nat × va_E} (e : (xws G Bs h)[k]? = some x) : k < h.1 ∧ x = (Bs + k, xce G Bs (h.2.2 k)) := by
  have hk : k < h.1 := by
    have := (List.getElem?_eq_some_iff.mp e).1
    rw [xws_len] at this
    exact this
  rw [xws_get hk] at e
  exact ⟨hk, (Option.some.inj e).symm⟩
theorem xws_up {G : xG} {Bs : Nat} {h : xH} {a : Nat} (c : xC) : (xws G Bs h).set a (Bs + a, xce G Bs c) = xws G Bs (xup h a c) := by
  apply List.ext_getElem?
  intro k
  by_cases hk : k < h.1
  · rw [xws_get (h := xup h a c) (show k < (xup h a c).1 from hk)]
    by_cases ha : a = k
    · subst ha
      rw [List.getElem?_set_self (by rw [xws_len]; exact hk)]
      simp [xup]
    · rw [List.getElem?_set_ne ha, xws_get hk]
      simp [xup, Ne.symm ha]
  · rw [List.getElem?_eq_none (by rw [List.length_set, xws_len]; omega), List.getElem?_eq_none (by rw [xws_len]; exact Nat.le_of_not_lt hk)]
theorem xws_nw {G : xG} {Bs : Nat} {h : xH} (c : xC) (s : Nat) : xws G Bs (xnw h c s) = xws G Bs h ++ [(Bs + h.1, xce G Bs c)] := by
  apply List.ext_getElem?
  intro k
  by_cases hk : k < h.1
  · rw [xws_get (h := xnw h c s) (show k < h.1 + 1 by omega), List.getElem?_append_left (by rw [xws_len]; exact hk), xws_get hk]
    simp [xnw, Nat.ne_of_lt hk]
  · by_cases h2 : k = h.1
    · subst h2
      rw [xws_get (h := xnw h c s) (show h.1 < h.1 + 1 by omega), List.getElem?_append_right (by rw [xws_len]; exact Nat.le_refl _), xws_len, Nat.sub_self]
      simp [xnw]
    · rw [List.getElem?_eq_none (by rw [xws_len]; show h.1 + 1 ≤ k; omega), List.getElem?_eq_none (by rw [List.length_append, xws_len]; simp; omega)]
theorem xws_D (G : xG) (Bs : Nat) (h : xH) : va_D (fun a => Bs ≤ a) (xws G Bs h) := by
  refine ⟨fun i j p q hi hj e => ?_, fun k q hk => ?_⟩
  · rw [(xws_at hi).2, (xws_at hj).2] at e
    have e' : Bs + i = Bs + j := e
    omega
  · rw [(xws_at hk).2]
    exact Nat.le_add_right _ _
/-- the listed values of locals, as the kit lists them -/
def xlv (Bs : Nat) (L : xL) : List (Nat × Value) := L.zipIdx.filterMap fun p => p.1.map fun v => (p.2, xcv Bs v)
theorem xlv_mem {Bs : Nat} {L : xL} {i : Nat} {w : Value} : (i, w) ∈ xlv Bs L ↔ ∃ v, L[i]? = some (some v) ∧ w = xcv Bs v := by
  unfold xlv
  rw [List.mem_filterMap]
  constructor
  · rintro ⟨⟨o, k⟩, hm, he⟩
    rw [List.mem_zipIdx_iff_getElem?] at hm
    cases o with
    | none => cases he
    | some v =>
      have h1 := Option.some.inj he
      cases h1
      exact ⟨v, hm, rfl⟩
  · rintro ⟨v, h1, rfl⟩
    exact ⟨(some v, i), List.mem_zipIdx_iff_getElem?.mpr h1, rfl⟩
def xLo (Bs : Nat) (ls : Array Slot) (nL : Nat) (L : xL) : Prop := L.length = nL ∧ lv_has ls nL (xlv Bs L)
theorem xLo_at {Bs : Nat} {ls : Array Slot} {nL : Nat} {L : xL} {i : Nat} {v : Value} (h : xLo Bs ls nL L) (e : xlc L i = some v) : ls[i]? = some (.val (xcv Bs v)) := by
  unfold xlc at e
  obtain ⟨o, h1, h2⟩ := Option.bind_eq_some_iff.mp e
  have h3 : o = some v := h2
  subst h3
  exact h.2.2.2 (i, xcv Bs v) (xlv_mem.mpr ⟨v, h1, rfl⟩)
theorem xst_len (L : xL) (i : Nat) (v : Value) : (xst L i v).length = L.length := by
  cases i <;> simp [xst]
theorem xst_get {L : xL} {i j : Nat} {v w : Value} (e : (xst L i v)[j]? = some (some w)) : (j = i ∧ w = v) ∨ (j ≠ i ∧ L[j]? = some (some w) ∧ ¬ (j + 1 = i ∧ w.category = 2)) := by
  by_cases hj : j = i
  · subst hj
    refine Or.inl ⟨rfl, ?_⟩
    cases j with
    | zero =>
      have hl : 0 < (L.set 0 (some v)).length := (List.getElem?_eq_some_iff.mp e).1
      rw [List.length_set] at hl
      unfold xst at e
      rw [List.getElem?_set_self hl] at e
      exact (Option.some.inj (Option.some.inj e)).symm
    | succ k =>
      have hl : k + 1 < (xst L (k + 1) v).length := (List.getElem?_eq_some_iff.mp e).1
      rw [xst_len] at hl
      unfold xst at e
      rw [List.getElem?_set_self (by simpa using hl)] at e
      exact (Option.some.inj (Option.some.inj e)).symm
  · refine Or.inr ⟨hj, ?_⟩
    cases i with
    | zero =>
      unfold xst at e
      rw [List.getElem?_set_ne (Ne.symm hj)] at e
      exact ⟨e, fun q => by omega⟩
    | succ k =>
      unfold xst at e
      rw [List.getElem?_set_ne (Ne.symm hj), List.getElem?_modify] at e
      by_cases hk : k = j
      · subst hk
        simp only [if_true] at e
        cases hL : L[k]? with
        | none => rw [hL] at e; cases e
        | some o =>
          rw [hL] at e
          have e1 : xnl o = some w := Option.some.inj e
          cases o with
          | none => cases e1
          | some u =>
            cases u <;> first | (exfalso; cases e1; done) | (cases e1; exact ⟨rfl, fun q => absurd q.2 (by simp [Value.category])⟩)
      · simp only [if_neg hk] at e
        cases hL : L[j]? with
        | none => rw [hL] at e; cases e
        | some o =>
          rw [hL] at e
          exact ⟨by simpa using e, fun q => hk (by omega)⟩
theorem xLo_st {Bs : Nat} {ls' : Array Slot} {nL : Nat} {L : xL} {i : Nat} {v : Value} (hL : L.length = nL) (h : lv_has ls' nL ((i, xcv Bs v) :: (xlv Bs L).filter (fun q => !(q.1 == i) && !(q.1 + 1 == i && q.2.category == 2)))) : xLo Bs ls' nL (xst L i v) := by
  refine ⟨by rw [xst_len]; exact hL, h.1, h.2.1, fun q hq => ?_⟩
  obtain ⟨j, w⟩ := q
  obtain ⟨u, e1, rfl⟩ := xlv_mem.mp hq
  rcases xst_get e1 with ⟨rfl, rfl⟩ | ⟨h1, h2, h3⟩
  · exact h.2.2 _ List.mem_cons_self
  · refine h.2.2 _ (List.mem_cons_of_mem _ (List.mem_filter.mpr ⟨xlv_mem.mpr ⟨u, h2, rfl⟩, ?_⟩))
    simp only [Bool.and_eq_true, Bool.not_eq_true', beq_eq_false_iff_ne, ne_eq, Bool.and_eq_false_iff]
    refine ⟨h1, ?_⟩
    by_cases h4 : j + 1 = i
    · exact Or.inr (by rw [xcv_cat]; exact fun q => h3 ⟨h4, q⟩)
    · exact Or.inl h4
theorem xLo_st2 {Bs : Nat} {ls' : Array Slot} {nL : Nat} {L : xL} {i : Nat} {v : Value} (hL : L.length = nL) (h : lv_has ls' nL ((i, xcv Bs v) :: (xlv Bs L).filter (fun q => !(q.1 == i) && (!(q.1 == i + 1) && !(q.1 + 1 == i && q.2.category == 2))))) : xLo Bs ls' nL (xst2 L i v) := by
  refine ⟨by unfold xst2; rw [List.length_set, xst_len]; exact hL, h.1, h.2.1, fun q hq => ?_⟩
  obtain ⟨j, w⟩ := q
  obtain ⟨u, e1, rfl⟩ := xlv_mem.mp hq
  unfold xst2 at e1
  by_cases hj : j = i + 1
  · subst hj
    have hl : i + 1 < ((xst L i v).set (i + 1) none).length := (List.getElem?_eq_some_iff.mp e1).1
    rw [List.length_set] at hl
    rw [List.getElem?_set_self hl] at e1
    cases e1
  · rw [List.getElem?_set_ne (Ne.symm hj)] at e1
    rcases xst_get e1 with ⟨rfl, rfl⟩ | ⟨h1, h2, h3⟩
    · exact h.2.2 _ List.mem_cons_self
    · refine h.2.2 _ (List.mem_cons_of_mem _ (List.mem_filter.mpr ⟨xlv_mem.mpr ⟨u, h2, rfl⟩, ?_⟩))
      simp only [Bool.and_eq_true, Bool.not_eq_true', beq_eq_false_iff_ne, ne_eq, Bool.and_eq_false_iff]
      refine ⟨h1, hj, ?_⟩
      by_cases h4 : j + 1 = i
      · exact Or.inr (by rw [xcv_cat]; exact fun q => h3 ⟨h4, q⟩)
      · exact Or.inl h4
/-- the entry of a method -/
theorem xsl_args (Bs : Nat) : ∀ (as : List Value) (k j : Nat) (w : Value), (xsl as)[j]? = some (some w) → (k + j, xcv Bs w) ∈ lv_args k (as.map (xcv Bs))
  | [], k, j, w, e => by cases e
  | v :: r, k, j, w, e => by
    have hc : (xcv Bs v).category = v.category := xcv_cat Bs v
    simp only [List.map_cons, lv_args, hc]
    unfold xsl at e
    by_cases h2 : v.category = 2
    · rw [show Nat.beq v.category 2 = true by rw [h2]; rfl, cond_true] at e
      rw [if_pos h2]
      match j, e with
      | 0, e => cases e; exact List.mem_cons_self
      | 1, e => cases e
      | j + 2, e =>
        have := xsl_args Bs r (k + 2) j w e
        rw [show k + (j + 2) = k + 2 + j by omega]
        exact List.mem_cons_of_mem _ this
    · rw [show Nat.beq v.category 2 = false from Bool.eq_false_iff.mpr fun q => h2 (Nat.eq_of_beq_eq_true q), cond_false] at e
      rw [if_neg h2]
      match j, e with
      | 0, e => cases e; exact List.mem_cons_self
      | j + 1, e =>
        have := xsl_args Bs r (k + 1) j w e
        rw [show k + (j + 1) = k + 1 + j by omega]
        exact List.mem_cons_of_mem _ this
theorem xsl_len (Bs : Nat) : ∀ as : List Value, (lg_sl (as.map (xcv Bs))).length = (xsl as).length
  | [] => rfl
  | v :: r => by
    have ih := xsl_len Bs r
    have hc : (xcv Bs v).category = v.category := xcv_cat Bs v
    unfold xsl
    by_cases h2 : v.category = 2
    · rw [show Nat.beq v.category 2 = true by rw [h2]; rfl, cond_true]
      simp only [lg_sl, List.map_cons, List.flatMap_cons, List.length_append, List.length_cons] at ih ⊢
      rw [ih, hc, if_pos h2]
      simp; omega
    · rw [show Nat.beq v.category 2 = false from Bool.eq_false_iff.mpr fun q => h2 (Nat.eq_of_beq_eq_true q), cond_false]
      simp only [lg_sl, List.map_cons, List.flatMap_cons, List.length_append, List.length_cons] at ih ⊢
      rw [ih, hc, if_neg h2]
      simp; omega
theorem xLo_entry {Bs n : Nat} {as : List Value} (h : (xsl as).length ≤ n) : xLo Bs ((lg_sl (as.map (xcv Bs)) ++ List.replicate (n - (lg_sl (as.map (xcv Bs))).length) Slot.unset).toArray) n (xpad n (xsl as)) := by
  have h0 := lv_entry (as.map (xcv Bs)) (n := n) (by rw [xsl_len]; exact h)
  refine ⟨by simp [xpad]; omega, h0.1, h0.2.1, fun q hq => ?_⟩
  obtain ⟨j, w⟩ := q
  obtain ⟨u, e1, rfl⟩ := xlv_mem.mp hq
  have e2 : (xsl as)[j]? = some (some u) := by
    unfold xpad at e1
    by_cases hj : j < (xsl as).length
    · rw [List.getElem?_append_left hj] at e1; exact e1
    · rw [List.getElem?_append_right (by omega)] at e1
      have := List.eq_of_mem_replicate (List.mem_of_getElem? e1)
      cases this
  have := xsl_args Bs as 0 j u e2
  rw [Nat.zero_add] at this
  exact h0.2.2 _ this
