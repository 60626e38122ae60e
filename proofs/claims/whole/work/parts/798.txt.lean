/-! Texts: a pure machine that reads character by character; the class follows it -/
/-- orders done; the open order: its letter, its numbers, how many it still wants; digits of the number just read -/
abbrev pP : Type := List (Int32 × List Int32) × Option (Int32 × List Int32 × Nat) × Nat
def manyN (c : Int32) : Option Nat := if c = 99 then some 2 else if c = 100 then some 0 else if c = 108 then some 2 else if c = 109 then some 5 else if c = 114 then some 1 else if c = 115 then some 5 else none
def pdig (P : pP) (c : Int32) : Option pP := match P.2.1 with
  | none => none
  | some q => if P.2.2 = 1 then some (P.1, some (q.1, q.2.1.dropLast ++ [10 * (q.2.1.getLastD 0) + (c - 48)], q.2.2), 2) else if P.2.2 = 0 ∧ 0 < q.2.2 then some (P.1, some (q.1, q.2.1 ++ [c - 48], q.2.2 - 1), 1) else none
def pend (P : pP) : Option pP := match P.2.1 with
  | none => none
  | some q => if q.2.2 = 0 then some (P.1 ++ [(q.1, q.2.1)], none, 0) else none
def plet (P : pP) (c : Int32) : Option pP := match P.2.1 with
  | some _ => none
  | none => (manyN c).map fun m => (P.1, some (c, [], m), 0)
def pstep (P : pP) (c : Int32) : Option pP := if 48 ≤ c ∧ c ≤ 57 then pdig P c else if c = 32 then some (P.1, P.2.1, 0) else if c = 59 then pend P else plet P c
def rn (tx : Nat → Int32) (n : Nat) : Nat → Nat → pP → Nat ⊕ List (Int32 × List Int32)
  | 0, _, P => match P.2.1 with
    | some _ => .inl n
    | none => if P.1 = [] then .inl n else .inr P.1
  | d + 1, i, P => match pstep P (tx i) with
    | none => .inl i
    | some P' => rn tx n d (i + 1) P'
def plets (P : pP) : List Int32 := P.1.map (fun q => q.1) ++ (match P.2.1 with | none => [] | some q => [q.1])
def pnums (P : pP) : List Int32 := P.1.flatMap (fun q => q.2) ++ (match P.2.1 with | none => [] | some q => q.2.1)
def pwant (P : pP) : Int32 := match P.2.1 with | none => -1 | some q => nI q.2.2
/-- what holds at place i -/
def PI (P : pP) (i : Nat) : Prop := 2 * P.1.length + (match P.2.1 with | none => 0 | some _ => 1) ≤ i ∧ (pnums P).length ≤ i ∧ P.2.2 ≤ 2 ∧ (P.2.2 = 1 → ∃ q, P.2.1 = some q ∧ q.2.1 ≠ []) ∧ (∀ q, P.2.1 = some q → q.2.2 ≤ 5 ∧ ∃ m, manyN q.1 = some m ∧ q.2.1.length + q.2.2 = m) ∧ ∀ o, o ∈ P.1 → manyN o.1 = some o.2.length
theorem manyN_le {c : Int32} {m : Nat} (h : manyN c = some m) : m ≤ 5 := by
  unfold manyN at h
  repeat' (split at h)
  all_goals first | (cases h; done) | (injection h with h; omega)
theorem pstep_PI {P P' : pP} {c : Int32} {i : Nat} (h : PI P i) (hs : pstep P c = some P') : PI P' (i + 1) := by
  obtain ⟨D, cur, dg⟩ := P
  obtain ⟨h1, h2, h3, h4, h5, h6⟩ := h
  unfold pstep at hs
  by_cases c1 : 48 ≤ c ∧ c ≤ 57
  · rw [if_pos c1] at hs
    unfold pdig at hs
    cases cur with
    | none => cases hs
    | some q =>
      obtain ⟨l, ns, w⟩ := q
      dsimp only at hs h1 h2 h3 h4 h5
      unfold pnums at h2
      dsimp only at h2
      rw [List.length_append] at h2
      obtain ⟨g1, m, g2, g3⟩ := h5 _ rfl
      dsimp only at g1 g2 g3
      by_cases d1 : dg = 1
      · rw [if_pos d1] at hs
        injection hs with hs
        subst hs
        obtain ⟨q, q1, q2⟩ := h4 d1
        cases q1
        have hl : (ns.dropLast ++ [10 * (ns.getLastD 0) + (c - 48)]).length = ns.length := by
          rw [List.length_append, List.length_dropLast, List.length_singleton]
          have : 0 < ns.length := List.length_pos_iff.mpr q2
          omega
        refine ⟨by dsimp only at h1 ⊢; omega, ?_, Nat.le_refl 2, fun q => (by cases q), fun q hq => ?_, h6⟩
        · unfold pnums
          dsimp only
          rw [List.length_append, hl]; omega
        · cases hq
          exact ⟨g1, m, g2, by dsimp only; rw [hl]; exact g3⟩
      · rw [if_neg d1] at hs
        by_cases d2 : dg = 0 ∧ 0 < w
        · rw [if_pos d2] at hs
          injection hs with hs
          subst hs
          refine ⟨by dsimp only at h1 ⊢; omega, ?_, Nat.le_succ 1, fun _ => ⟨_, rfl, by simp⟩, fun q hq => ?_, h6⟩
          · unfold pnums
            dsimp only
            rw [List.length_append, List.length_append]
            show _ + (ns.length + 1) ≤ _
            omega
          · cases hq
            refine ⟨by dsimp only; omega, m, g2, ?_⟩
            dsimp only
            rw [List.length_append]
            show ns.length + 1 + (w - 1) = m
            omega
        · rw [if_neg d2] at hs
          cases hs
  · rw [if_neg c1] at hs
    by_cases c2 : c = 32
    · rw [if_pos c2] at hs
      injection hs with hs
      subst hs
      refine ⟨?_, ?_, Nat.zero_le 2, fun q => (by cases q), h5, h6⟩
      · dsimp only at h1 ⊢; omega
      · have : pnums (D, cur, 0) = pnums (D, cur, dg) := rfl
        rw [this]; omega
    · rw [if_neg c2] at hs
      by_cases c3 : c = 59
      · rw [if_pos c3] at hs
        unfold pend at hs
        cases cur with
        | none => cases hs
        | some q =>
          obtain ⟨l, ns, w⟩ := q
          dsimp only at hs h1 h2
          obtain ⟨g1, m, g2, g3⟩ := h5 _ rfl
          dsimp only at g1 g2 g3
          by_cases d1 : w = 0
          · rw [if_pos d1] at hs
            injection hs with hs
            subst hs
            unfold pnums at h2
            dsimp only at h2
            refine ⟨?_, ?_, Nat.zero_le 2, fun q => (by cases q), fun q hq => (by cases hq), fun o ho => ?_⟩
            · dsimp only
              rw [List.length_append]
              show 2 * (D.length + 1) + 0 ≤ _
              omega
            · unfold pnums
              dsimp only
              rw [fm_app, List.flatMap_cons, List.flatMap_nil, List.append_nil, List.append_nil]
              show (D.flatMap (fun q => q.2) ++ ns).length ≤ i + 1
              omega
            · rcases List.mem_append.mp ho with q | q
              · exact h6 o q
              · rw [List.mem_singleton.mp q]
                dsimp only
                rw [g2]
                congr 1
                omega
          · rw [if_neg d1] at hs
            cases hs
      · rw [if_neg c3] at hs
        unfold plet at hs
        cases cur with
        | some q => cases hs
        | none =>
          dsimp only at hs h1 h2
          cases hm : manyN c with
          | none => rw [hm] at hs; cases hs
          | some m =>
            rw [hm] at hs
            injection hs with hs
            subst hs
            refine ⟨by dsimp only at h1 ⊢; omega, ?_, Nat.zero_le 2, fun q => (by cases q), fun q hq => ?_, h6⟩
            · have : pnums (D, some (c, [], m), 0) = pnums (D, none, dg) := rfl
              rw [this]; omega
            · cases hq
              exact ⟨manyN_le hm, m, hm, by simp⟩
-- the class's Orders: the object at q, its rows at q + 1 (kinds), q + 2 (numbers)
def gO (q : Nat) (O : sS) : List xC := [.inr (.inr (1, [.ref (q + 1), .ref (q + 2), .int (O.2 2), .int (O.2 3), .int (O.2 4), .int (O.2 5)])), .inl (0, 120, O.1 0), .inl (0, 120, O.1 1)]
def pO (h : xH) (q : Nat) (O : sS) : xH := pL h q (gO q O)
section OACC
variable (h : xH) (q : Nat) (O : sS)
theorem o_gu (z : Option xR) : xgu (pO h q O) q 1 z = z := xgu_pL (h := h) (a := q) (k := 0) rfl z
theorem o_f0 : xfR (pO h q O) q 1 0 = some (q + 1) := xfR_pL (h := h) (a := q) (k := 0) rfl rfl
theorem o_f1 : xfR (pO h q O) q 1 1 = some (q + 2) := xfR_pL (h := h) (a := q) (k := 0) rfl rfl
theorem o_i2 : xfI (pO h q O) q 1 2 = some (O.2 2) := xfI_pL (h := h) (a := q) (k := 0) rfl rfl
theorem o_i3 : xfI (pO h q O) q 1 3 = some (O.2 3) := xfI_pL (h := h) (a := q) (k := 0) rfl rfl
theorem o_i4 : xfI (pO h q O) q 1 4 = some (O.2 4) := xfI_pL (h := h) (a := q) (k := 0) rfl rfl
theorem o_i5 : xfI (pO h q O) q 1 5 = some (O.2 5) := xfI_pL (h := h) (a := q) (k := 0) rfl rfl
theorem o_p2 (v : Int32) : xpf (pO h q O) q 1 2 (.int v) = some (pO h q (sJ O 2 v)) := xpf_pL (h := h) (a := q) (k := 0) rfl (by simp) rfl
theorem o_p3 (v : Int32) : xpf (pO h q O) q 1 3 (.int v) = some (pO h q (sJ O 3 v)) := xpf_pL (h := h) (a := q) (k := 0) rfl (by simp) rfl
theorem o_p4 (v : Int32) : xpf (pO h q O) q 1 4 (.int v) = some (pO h q (sJ O 4 v)) := xpf_pL (h := h) (a := q) (k := 0) rfl (by simp) rfl
theorem o_p5 (v : Int32) : xpf (pO h q O) q 1 5 (.int v) = some (pO h q (sJ O 5 v)) := xpf_pL (h := h) (a := q) (k := 0) rfl (by simp) rfl
theorem o_r0 {i : Nat} (hi : i < 120) : xri (pO h q O) 0 (q + 1) (nI i) = some (O.1 0 i) := by
  have := xri_pL (h := h) (a := q) (l := gO q O) (k := 1) rfl (nI i)
  rw [xin_nI hi (by decide), cond_true, nI_clamp (by omega)] at this
  exact this
theorem o_r1 {i : Nat} (hi : i < 120) : xri (pO h q O) 0 (q + 2) (nI i) = some (O.1 1 i) := by
  have := xri_pL (h := h) (a := q) (l := gO q O) (k := 2) rfl (nI i)
  rw [xin_nI hi (by decide), cond_true, nI_clamp (by omega)] at this
  exact this
theorem o_w0 {i : Nat} (hi : i < 120) (v : Int32) : xwi (pO h q O) 0 (q + 1) (nI i) v = some (pO h q (sB O 0 (upd (O.1 0) i v))) := by
  have := xwi_pL (h := h) (a := q) (l := gO q O) (k := 1) (i := nI i) (v := v) rfl rfl
  rw [xin_nI hi (by decide), cond_true, nI_clamp (by omega)] at this
  exact this
theorem o_w1 {i : Nat} (hi : i < 120) (v : Int32) : xwi (pO h q O) 0 (q + 2) (nI i) v = some (pO h q (sB O 1 (upd (O.1 1) i v))) := by
  have := xwi_pL (h := h) (a := q) (l := gO q O) (k := 2) (i := nI i) (v := v) rfl rfl
  rw [xin_nI hi (by decide), cond_true, nI_clamp (by omega)] at this
  exact this
end OACC
def RO (P : pP) (O : sS) : Prop := O.2 2 = nI P.1.length ∧ O.2 3 = nI (pnums P).length ∧ O.2 4 = pwant P ∧ O.2 5 = nI P.2.2 ∧ DL (O.1 0) (plets P) ∧ DL (O.1 1) (pnums P)
section OT
variable {h : xH} {q : Nat}
theorem c_numbersOf (c : Int32) (hp : xH) : xM 23 [.int c] hp = some (some (.int (match manyN c with | none => -1 | some m => nI m)), hp) := by
  rw [xb23]
  unfold manyN
  repeat' split
  all_goals first | rfl | contradiction | (rename_i e; injection e with e; subst e; rfl)
theorem c_takes {P : pP} {O : sS} {c : Int32} {i : Nat} (hi : i < 120) (hP : PI P i) (hR : RO P O) : (∃ O' P', xM 26 [.ref q, .int c] (pO h q O) = some (some (.int 1), pO h q O') ∧ pstep P c = some P' ∧ RO P' O') ∨ ∃ O', xM 26 [.ref q, .int c] (pO h q O) = some (some (.int 0), pO h q O') ∧ pstep P c = none := by
  obtain ⟨D, cur, dg⟩ := P
  obtain ⟨h1, h2, h3, h4, h5, h6⟩ := hP
  obtain ⟨r2, r3, r4, r5, r6, r7⟩ := hR
  dsimp only at h1 h2 h3 h4 h5 r2 r3 r4 r5
  have hx1 : ∀ hh : xH, (bif xbz 1 then some (some (Value.int 1), hh) else none : Option xR) = some (some (.int 1), hh) := fun hh => rfl
  have hx0 : ∀ hh : xH, (bif xbz 0 then some (some (Value.int 0), hh) else none : Option xR) = some (some (.int 0), hh) := fun hh => rfl
  unfold pstep
  by_cases c1 : 48 ≤ c ∧ c ≤ 57
  · rw [if_pos c1, xb26, if_neg (Int32.not_lt.mpr c1.1), if_neg (Int32.not_lt.mpr c1.2), o_gu, xb27, o_i5, Option.bind_some, r5]
    unfold pdig
    cases cur with
    | none =>
      refine Or.inr ⟨O, ?_, rfl⟩
      have hd1 : dg ≠ 1 := fun z => by obtain ⟨q, q1, -⟩ := h4 z; cases q1
      have e45 : xE 27 45 [some (.ref q), some (.int (c - 48))] [] (pO h q O) = some (some (.int 0), pO h q O) := by
        rw [xb27_45, o_i5, Option.bind_some, r5]
        by_cases d0 : dg = 0
        · rw [if_pos (show nI dg = (0 : Int32) by rw [d0]; rfl), o_i4, Option.bind_some, r4, if_neg (show ¬ (0 : Int32) < pwant (D, none, dg) by show ¬ (0 : Int32) < -1; decide)]
        · rw [if_neg (show ¬ nI dg = (0 : Int32) from nI_nel (n := 0) (by omega) (by decide) d0)]
      rw [if_neg (show ¬ nI dg = (1 : Int32) from nI_nel (n := 1) (by omega) (by decide) hd1), e45, xcI_some, hx0]
    | some qq =>
      obtain ⟨l, ns, w⟩ := qq
      obtain ⟨g1, m, g2, g3⟩ := h5 _ rfl
      dsimp only at g1 g2 g3 ⊢
      have hpn : pnums (D, some (l, ns, w), dg) = D.flatMap (fun q => q.2) ++ ns := rfl
      rw [hpn] at h2 r3 r7
      have hlen : (D.flatMap (fun q => q.2) ++ ns).length = (D.flatMap (fun q => q.2)).length + ns.length := List.length_append
      by_cases d1 : dg = 1
      · obtain ⟨qq, q1, q2⟩ := h4 d1
        cases q1
        dsimp only at q2
        have hns : 0 < ns.length := List.length_pos_iff.mpr q2
        have hF : (D.flatMap (fun q => q.2) ++ ns).length = (D.flatMap (fun q => q.2)).length + (ns.length - 1) + 1 := by omega
        have hlast : O.1 1 ((D.flatMap (fun q => q.2)).length + (ns.length - 1)) = ns.getLastD 0 := by
          refine r7 _ _ ?_
          rw [List.getElem?_append_right (by omega), Nat.add_sub_cancel_left, ← List.getLast?_eq_getElem?, List.getLastD_eq_getLast?]
          cases hq : ns.getLast? with
          | none => exact absurd (List.getLast?_eq_none_iff.mp hq) q2
          | some z => rfl
        have hnew : D.flatMap (fun q => q.2) ++ (ns.dropLast ++ [10 * (ns.getLastD 0) + (c - 48)]) = (D.flatMap (fun q => q.2) ++ ns).set ((D.flatMap (fun q => q.2)).length + (ns.length - 1)) (10 * (ns.getLastD 0) + (c - 48)) := by
          rw [List.set_append_right _ _ (by omega), Nat.add_sub_cancel_left]
          congr 1
          have : ns = ns.dropLast ++ [ns.getLast q2] := (List.dropLast_concat_getLast q2).symm
          generalize hv : 10 * (ns.getLastD 0) + (c - 48) = v
          rw [this, List.dropLast_concat, List.length_append, List.length_singleton, List.set_append_right _ _ (by omega)]
          congr 1
          rw [show ns.dropLast.length + 1 - 1 - ns.dropLast.length = 0 by omega]
          rfl
        rw [if_pos d1]
        refine Or.inl ⟨sJ (sB O 1 (upd (O.1 1) ((D.flatMap (fun q => q.2)).length + (ns.length - 1)) (10 * (ns.getLastD 0) + (c - 48)))) 5 (nI 2), _, ?_, rfl, ?_⟩
        · rw [if_pos (show nI dg = (1 : Int32) by rw [d1]; rfl), o_i3, Option.bind_some, r3, if_pos (show (0 : Int32) < nI _ from nI_lt (a := 0) (by omega) (by omega)), o_f1, Option.bind_some, Option.bind_some, Option.bind_some, Option.bind_some, hF, nI_pred, o_r1 h q O (by omega), Option.bind_some, hlast, o_w1 h q O (by omega), Option.bind_some, o_i5, Option.bind_some, sB_2, r5, d1, nI_1, o_p5, Option.bind_some, xcI_some, hx1]
        · refine ⟨by rw [sJ_n _ _ (by decide)]; exact r2, ?_, by rw [sJ_n _ _ (by decide)]; exact r4, sJ_s _ _ _, by rw [sJ_1, sB_n _ _ (by decide)]; exact r6, ?_⟩
          · rw [sJ_n _ _ (by decide)]
            show O.2 3 = nI (D.flatMap (fun q => q.2) ++ (ns.dropLast ++ [10 * (ns.getLastD 0) + (c - 48)])).length
            rw [hnew, List.length_set]; exact r3
          · rw [sJ_1, sB_s]
            show DL _ (D.flatMap (fun q => q.2) ++ (ns.dropLast ++ [10 * (ns.getLastD 0) + (c - 48)]))
            rw [hnew]
            exact DL_set r7 _
      · rw [if_neg (show ¬ nI dg = (1 : Int32) from nI_nel (n := 1) (by omega) (by decide) d1), if_neg d1, xb27_45, o_i5, Option.bind_some, r5]
        by_cases d0 : dg = 0
        · rw [if_pos (show nI dg = (0 : Int32) by rw [d0]; rfl), o_i4, Option.bind_some, r4]
          by_cases dw : 0 < w
          · rw [if_pos (show (0 : Int32) < pwant (D, some (l, ns, w), dg) from nI_lt (a := 0) (b := w) dw (by omega)), o_i3, Option.bind_some, r3, if_pos (show nI _ < (120 : Int32) from nI_lt (b := 120) (by omega) (by decide)), if_pos ⟨d0, dw⟩]
            refine Or.inl ⟨sJ (sJ (sJ (sB O 1 (upd (O.1 1) (D.flatMap (fun q => q.2) ++ ns).length (c - 48))) 3 (nI ((D.flatMap (fun q => q.2) ++ ns).length + 1))) 4 (nI (w - 1))) 5 (nI 1), _, ?_, rfl, ?_⟩
            · rw [o_f1, Option.bind_some, Option.bind_some, o_w1 h q O (by omega), Option.bind_some, o_i3, Option.bind_some, sB_2, r3, nI_1, o_p3, Option.bind_some, o_i4, Option.bind_some, sJ_n _ _ (by decide), sB_2, r4, show pwant (D, some (l, ns, w), dg) - 1 = nI (w - 1) by
                show nI w - 1 = nI (w - 1)
                rw [show nI w = nI (w - 1 + 1) by congr 1; omega, nI_pred], o_p4, Option.bind_some, o_i5, Option.bind_some, sJ_n _ _ (by decide), sJ_n _ _ (by decide), sB_2, r5, d0, nI_1, o_p5, Option.bind_some, xcI_some, hx1]
            · refine ⟨by rw [sJ_n _ _ (by decide), sJ_n _ _ (by decide), sJ_n _ _ (by decide)]; exact r2, ?_, by rw [sJ_n _ _ (by decide), sJ_s]; rfl, sJ_s _ _ _, by rw [sJ_1, sJ_1, sJ_1, sB_n _ _ (by decide)]; exact r6, ?_⟩
              · rw [sJ_n _ _ (by decide), sJ_n _ _ (by decide), sJ_s]
                show _ = nI (D.flatMap (fun q => q.2) ++ (ns ++ [c - 48])).length
                rw [← List.append_assoc, List.length_append (bs := [c - 48])]; rfl
              · rw [sJ_1, sJ_1, sJ_1, sB_s]
                show DL _ (D.flatMap (fun q => q.2) ++ (ns ++ [c - 48]))
                rw [← List.append_assoc]
                exact DL_snoc r7 _
          · rw [if_neg (show ¬ (0 : Int32) < pwant (D, some (l, ns, w), dg) from nI_nlt (a := 0) (b := w) (by omega) (by decide)), if_neg (fun z => dw z.2)]
            refine Or.inr ⟨O, ?_, rfl⟩
            rw [xcI_some, hx0]
        · rw [if_neg (show ¬ nI dg = (0 : Int32) from nI_nel (n := 0) (by omega) (by decide) d0), if_neg (fun z => d0 z.1)]
          refine Or.inr ⟨O, ?_, rfl⟩
          rw [xcI_some, hx0]
  · have hgo : xM 26 [.ref q, .int c] (pO h q O) = xE 26 21 [some (.ref q), some (.int c)] [] (pO h q O) := by
      rw [xb26]
      by_cases z : c < 48
      · rw [if_pos z]
      · rw [if_neg z, if_pos (Classical.byContradiction fun y => c1 ⟨Int32.not_lt.mp z, Int32.not_lt.mp y⟩)]
    have R5 : ∀ k, k ≠ 5 → (sJ O 5 0).2 k = O.2 k := fun k hk => sJ_n _ _ hk
    rw [if_neg c1, hgo, xb26_21, o_p5, Option.bind_some]
    by_cases c2 : c = 32
    · rw [if_pos c2, if_pos c2]
      exact Or.inl ⟨sJ O 5 0, _, rfl, rfl, by rw [R5 2 (by decide)]; exact r2, by rw [R5 3 (by decide)]; exact r3, by rw [R5 4 (by decide)]; exact r4, sJ_s _ _ _, r6, r7⟩
    · rw [if_neg c2, if_neg c2]
      by_cases c3 : c = 59
      · rw [if_pos c3, if_pos c3, o_gu, xb28, o_i4, Option.bind_some, R5 4 (by decide), r4]
        unfold pend
        cases cur with
        | none =>
          refine Or.inr ⟨sJ O 5 0, ?_, rfl⟩
          rw [if_neg (show ¬ pwant (D, none, dg) = 0 by show ¬ (-1 : Int32) = 0; decide), xcI_some, hx0]
        | some qq =>
          obtain ⟨l, ns, w⟩ := qq
          obtain ⟨g1, m, g2, g3⟩ := h5 _ rfl
          dsimp only at g1 g2 g3 h1 ⊢
          by_cases dw : w = 0
          · rw [if_pos (show pwant (D, some (l, ns, w), dg) = 0 by show nI w = 0; rw [dw]; rfl), if_pos dw]
            refine Or.inl ⟨sJ (sJ (sJ O 5 0) 2 (nI (D.length + 1))) 4 (-1), _, ?_, rfl, ?_⟩
            · rw [o_i2, Option.bind_some, R5 2 (by decide), r2, nI_1, o_p2, Option.bind_some, o_p4, Option.bind_some, xcI_some, hx1]
            · have e1 : plets (D ++ [(l, ns)], none, 0) = plets (D, some (l, ns, w), dg) := by
                unfold plets
                dsimp only
                rw [List.map_append, List.append_nil]
                rfl
              have e2 : pnums (D ++ [(l, ns)], none, 0) = pnums (D, some (l, ns, w), dg) := by
                unfold pnums
                dsimp only
                rw [fm_app, List.append_nil, List.flatMap_cons, List.flatMap_nil, List.append_nil]
              refine ⟨?_, ?_, sJ_s _ _ _, ?_, by rw [e1]; exact r6, by rw [e2]; exact r7⟩
              · rw [sJ_n _ _ (by decide), sJ_s]
                show _ = nI (D ++ [(l, ns)]).length
                rw [List.length_append]; rfl
              · rw [sJ_n _ _ (by decide), sJ_n _ _ (by decide), R5 3 (by decide), e2]; exact r3
              · rw [sJ_n _ _ (by decide), sJ_n _ _ (by decide), sJ_s]; rfl
          · rw [if_neg (show ¬ pwant (D, some (l, ns, w), dg) = 0 from nI_nel (w := w) (n := 0) (by omega) (by decide) dw), if_neg dw]
            refine Or.inr ⟨sJ O 5 0, ?_, rfl⟩
            rw [xcI_some, hx0]
      · rw [if_neg c3, if_neg c3, o_gu, xb29, o_i4, Option.bind_some, R5 4 (by decide), r4]
        unfold plet
        cases cur with
        | some qq =>
          obtain ⟨l, ns, w⟩ := qq
          obtain ⟨g1, -⟩ := h5 _ rfl
          dsimp only at g1
          refine Or.inr ⟨sJ O 5 0, ?_, rfl⟩
          rw [if_neg (show ¬ pwant (D, some (l, ns, w), dg) = -1 from nI_m1 w (by omega)), xcI_some, hx0]
        | none =>
          have hD : D.length < 120 := by dsimp only at h1; omega
          rw [if_pos (show pwant (D, none, dg) = -1 from rfl), o_i2, Option.bind_some, R5 2 (by decide), r2, if_pos (show nI D.length < (120 : Int32) from nI_lt (b := 120) hD (by decide)), o_f0, Option.bind_some, Option.bind_some, o_w0 h q _ hD, Option.bind_some, c_numbersOf, xcI_some, o_p4, Option.bind_some, o_i4, Option.bind_some, sJ_s]
          have e0 : plets (D, none, dg) = D.map (fun q => q.1) := by unfold plets; dsimp only; rw [List.append_nil]
          rw [e0] at r6
          cases hm : manyN c with
          | none =>
            dsimp only
            rw [if_pos rfl]
            exact Or.inr ⟨_, by rw [xcI_some, hx0], rfl⟩
          | some m =>
            have hm5 := manyN_le hm
            dsimp only
            rw [if_neg (nI_m1 m (by omega))]
            refine Or.inl ⟨_, _, by rw [xcI_some, hx1], rfl, ?_⟩
            refine ⟨?_, ?_, sJ_s _ _ _, ?_, ?_, ?_⟩
            · rw [sJ_n _ _ (by decide), sB_2, R5 2 (by decide)]; exact r2
            · rw [sJ_n _ _ (by decide), sB_2, R5 3 (by decide)]; exact r3
            · rw [sJ_n _ _ (by decide), sB_2, sJ_s]; rfl
            · rw [sJ_1, sB_s]
              have := DL_snoc r6 c
              rw [List.length_map] at this
              exact this
            · rw [sJ_1, sB_n _ _ (by decide)]; exact r7
/-- reading a text -/
theorem c_readL {t n : Nat} {tx : Nat → Int32} (hn : n ≤ 120) (ht : ∀ (O : sS) (i : Nat), i < n → xri (pO h q O) 0 t (nI i) = some (tx i)) : ∀ (d i : Nat) (P : pP) (O : sS), i + d = n → PI P i → RO P O → ∃ O', (∃ p, rn tx n d i P = .inl p ∧ p ≤ n ∧ xE 25 22 [some (.ref q), some (.ref t), some (.int (nI n)), some (.int (nI i))] [] (pO h q O) = some (some (.int (nI p)), pO h q O')) ∨ (∃ os, rn tx n d i P = .inr os ∧ xE 25 22 [some (.ref q), some (.ref t), some (.int (nI n)), some (.int (nI i))] [] (pO h q O) = some (some (.int (-1)), pO h q O') ∧ os ≠ [] ∧ RO (os, none, 0) (sJ O' 5 0) ∧ PI (os, none, 0) n) := by
  intro d
  induction d with
  | zero =>
    intro i P O hi hP hR
    have hi : i = n := by omega
    subst hi
    obtain ⟨D, cur, dg⟩ := P
    obtain ⟨r2, r3, r4, r5, r6, r7⟩ := hR
    have e51 : xE 25 22 [some (.ref q), some (.ref t), some (.int (nI i)), some (.int (nI i))] [] (pO h q O) = xE 25 51 [some (.ref q), some (.ref t), some (.int (nI i)), some (.int (nI i))] [] (pO h q O) := by
      rw [xb25_22, if_neg (nI_nlt (Nat.le_refl _) (by omega))]
    refine ⟨O, ?_⟩
    rw [e51, xb25_51, o_i4, Option.bind_some, r4]
    unfold rn
    cases cur with
    | some qq =>
      obtain ⟨g1, -⟩ := hP.2.2.2.2.1 _ rfl
      refine Or.inl ⟨i, rfl, Nat.le_refl _, ?_⟩
      rw [if_neg (show ¬ pwant (D, some qq, dg) = -1 from nI_m1 qq.2.2 (by omega))]
    | none =>
      have hD : 2 * D.length + 0 ≤ i := hP.1
      rw [if_pos (show pwant (D, none, dg) = -1 from rfl), o_i2, Option.bind_some, r2]
      dsimp only
      by_cases c : D = []
      · refine Or.inl ⟨i, by rw [if_pos c], Nat.le_refl _, ?_⟩
        rw [if_pos (show nI D.length = (0 : Int32) by rw [c]; rfl)]
      · refine Or.inr ⟨D, by rw [if_neg c], ?_, c, ⟨by rw [sJ_n _ _ (by decide)]; exact r2, by rw [sJ_n _ _ (by decide)]; exact r3, by rw [sJ_n _ _ (by decide)]; exact r4, sJ_s _ _ _, r6, r7⟩, ⟨hP.1, hP.2.1, Nat.zero_le 2, fun z => (by cases z), hP.2.2.2.2.1, hP.2.2.2.2.2⟩⟩
        have : 0 < D.length := List.length_pos_iff.mpr c
        rw [if_neg (show ¬ nI D.length = (0 : Int32) from nI_nel (n := 0) (by omega) (by decide) (by omega))]
  | succ d ih =>
    intro i P O hi hP hR
    have hlt : i < n := by omega
    have hst : xE 25 22 [some (.ref q), some (.ref t), some (.int (nI n)), some (.int (nI i))] [] (pO h q O) = xcI (xM 26 [.ref q, .int (tx i)] (pO h q O)) fun v3 h2 => if v3 = 0 then some (some (.int (nI i)), h2) else xE 25 22 [some (.ref q), some (.ref t), some (.int (nI n)), some (.int (nI (i + 1)))] [] h2 := by
      rw [xb25_22, if_pos (nI_lt hlt (by omega)), if_pos (show nI i < (120 : Int32) from nI_lt (b := 120) (by omega) (by decide)), ht O i hlt, Option.bind_some, o_gu, nI_1]
    rw [hst]
    unfold rn
    rcases c_takes (h := h) (q := q) (c := tx i) (i := i) (by omega) hP hR with ⟨O1, P1, z1, z2, z3⟩ | ⟨O1, z1, z2⟩
    · rw [z1, xcI_some, if_neg one_ne, z2]
      exact ih (i + 1) P1 O1 (by omega) (pstep_PI hP z2) z3
    · rw [z1, xcI_some, if_pos rfl, z2]
      exact ⟨O1, Or.inl ⟨i, rfl, by omega, rfl⟩⟩
theorem c_read {t n : Nat} {tx : Nat → Int32} (O : sS) (hn : n ≤ 120) (ht : ∀ (O : sS) (i : Nat), i < n → xri (pO h q O) 0 t (nI i) = some (tx i)) : ∃ O', (∃ p, rn tx n n 0 ([], none, 0) = .inl p ∧ p ≤ n ∧ xM 25 [.ref q, .ref t, .int (nI n)] (pO h q O) = some (some (.int (nI p)), pO h q O')) ∨ (∃ os, rn tx n n 0 ([], none, 0) = .inr os ∧ xM 25 [.ref q, .ref t, .int (nI n)] (pO h q O) = some (some (.int (-1)), pO h q O') ∧ os ≠ [] ∧ RO (os, none, 0) (sJ O' 5 0) ∧ PI (os, none, 0) n) := by
  have h0 := c_readL (h := h) (q := q) hn ht n 0 ([], none, 0) (sJ (sJ (sJ (sJ O 2 0) 3 0) 4 (-1)) 5 0) (by omega) ⟨Nat.le_refl _, Nat.le_refl _, Nat.zero_le 2, fun z => (by cases z), fun z hz => (by cases hz), fun o ho => absurd ho List.not_mem_nil⟩ ⟨by rw [sJ_n _ _ (by decide), sJ_n _ _ (by decide), sJ_n _ _ (by decide), sJ_s]; rfl, by rw [sJ_n _ _ (by decide), sJ_n _ _ (by decide), sJ_s]; rfl, by rw [sJ_n _ _ (by decide), sJ_s]; rfl, by rw [sJ_s]; rfl, fun k b z => (by cases z), fun k b z => (by cases z)⟩
  have e : xM 25 [.ref q, .ref t, .int (nI n)] (pO h q O) = xE 25 22 [some (.ref q), some (.ref t), some (.int (nI n)), some (.int (nI 0))] [] (pO h q (sJ (sJ (sJ (sJ O 2 0) 3 0) 4 (-1)) 5 0)) := by
    rw [xb25, o_p2, Option.bind_some, o_p3, Option.bind_some, o_p4, Option.bind_some, o_p5, Option.bind_some]
    rfl
  rw [e]
  exact h0
end OT
