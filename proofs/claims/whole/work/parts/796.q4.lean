/-! Questions: the tree, its nodes, its shapes in order -/
def bB0 (T : tS) (sb : Nat → Int32) : Nat → Int32 := bxT T.2.1 T.2.2.1 sb
theorem bxf_ok {rk : Nat → Option Nat} {en : Nat → List Nat} {sb : Nat → Int32} (hb : ∀ s, sb s ≠ 0 → bok (sb s)) : ∀ (k n : Nat), bok0 (bxf rk en sb k n)
  | 0, _ => Or.inl rfl
  | k + 1, n => by
    show bok0 (fbx (if rk n = some 0 then sb else bxf rk en sb k) (en n))
    refine fbx_ok _ _ (Or.inl rfl) fun e _ => ?_
    by_cases h0 : rk n = some 0
    · rw [if_pos h0]
      by_cases c : sb e = 0
      · exact Or.inl c
      · exact Or.inr (hb e c)
    · rw [if_neg h0]; exact bxf_ok hb k e
section TQ
variable {T : tS} {sb : Nat → Int32} {I : Nat → Prop}
theorem bB0_ok (hb : ∀ s, sb s ≠ 0 → bok (sb s)) (n : Nat) : bok0 (bB0 T sb n) := bxf_ok hb 17 n
theorem bB0_eq (hI : INVt T I) {bx : Nat → Int32} (hC : ∀ n j, T.2.1 n = some j → Con T.2.1 T.2.2.1 sb bx n) {n k : Nat} (hn : T.2.1 n = some k) : bB0 T sb n = bx n := bxT_eq hI (K := k + 1) (fun m j hm _ => hC m j hm) hn (by omega)
theorem CTr_B {S : sS} (hI : INVt T I) (hR : CTr T sb S) : RC T sb (bB0 T sb) S := by
  obtain ⟨bx, h1, h2⟩ := hR
  exact RC_congr h1 rfl (fun _ => rfl) (fun n k hn => ⟨rfl, rfl, bB0_eq hI h2 hn⟩)
theorem MTr_B {f : Nat → Int32} (hI : INVt T I) (hR : MTr T sb f) : RM T sb (bB0 T sb) f := by
  obtain ⟨bx, h1, h2, h3⟩ := hR
  exact RM_congr h1 rfl (fun _ => rfl) (fun n k hn => ⟨rfl, rfl, bB0_eq hI h3 hn⟩)
/-- all nodes, all shapes in the order of walking -/
def wN (T : tS) : List Nat := preR T.2.2.1 (rkv T T.1) T.1
def wS (T : tS) : List Nat := shR T.2.2.1 (rkv T T.1) T.1
theorem wN_mem (hI : INVt T I) {m : Nat} : m ∈ wN T ↔ ∃ k, T.2.1 m = some k := by
  obtain ⟨⟨r, hr, -⟩, -⟩ := id hI
  unfold wN
  rw [rkv_eq hr]
  constructor
  · intro q
    obtain ⟨j, hj, -⟩ := pre_rk hI hr q
    exact ⟨j, hj⟩
  · rintro ⟨k, hk⟩
    exact pre_all' hI hr hk
theorem wN_nd (hI : INVt T I) : (wN T).Nodup := by
  obtain ⟨⟨r, hr, -⟩, -⟩ := id hI
  unfold wN
  rw [rkv_eq hr]
  exact pre_nd hI hr
theorem wN_len (hI : INVt T I) : (wN T).length ≤ 16 ∧ 1 ≤ (wN T).length := by
  have := nd_len (wN_nd hI) (l2 := List.range 16) (fun m hm => by
    obtain ⟨k, hk⟩ := (wN_mem hI).mp hm
    exact List.mem_range.mpr (hI.2.2.1 m k hk).1)
  rw [List.length_range] at this
  obtain ⟨⟨r, hr, -⟩, -⟩ := id hI
  exact ⟨this, List.length_pos_of_mem ((wN_mem hI).mpr ⟨r, hr⟩)⟩
theorem wS_len (hI : INVt T I) : (wS T).length ≤ 16 ∧ ∀ s, s ∈ wS T → I s ∧ s < 16 := by
  obtain ⟨⟨r, hr, -⟩, -⟩ := id hI
  unfold wS
  rw [rkv_eq hr]
  refine ⟨sh_len hI hr, fun s hs => ?_⟩
  have h1 := (sh_sp hI hr).mp hs
  have h2 := hI.2.2.2.2.2.2 s h1.1
  exact ⟨h1.1, (hI.2.2.2.2.1 _ s h2.1 h2.2).1⟩
theorem perm_sum {l l' : List Nat} (h : l.Perm l') : l.sum = l'.sum := by
  induction h with
  | nil => rfl
  | cons x _ ih => rw [List.sum_cons, List.sum_cons, ih]
  | swap x y l => rw [List.sum_cons, List.sum_cons, List.sum_cons, List.sum_cons]; omega
  | trans _ _ a b => exact a.trans b
theorem cnt_len (p : Nat → Bool) : ∀ n, cnt p n = ((List.range n).filter p).length
  | 0 => rfl
  | n + 1 => by
    show cnt p n + (if p n = true then 1 else 0) = _
    rw [List.range_succ, List.filter_append, List.length_append, cnt_len p n]
    by_cases c : p n = true
    · rw [if_pos c, List.filter_cons, if_pos c]; rfl
    · rw [if_neg c, List.filter_cons, if_neg c]; rfl
def wsum (p : Nat → Bool) (g : Nat → Nat) : Nat → Nat
  | 0 => 0
  | n + 1 => wsum p g n + (if p n = true then g n else 0)
theorem wsum_len (p : Nat → Bool) (g : Nat → Nat) : ∀ n, wsum p g n = (((List.range n).filter p).map g).sum
  | 0 => rfl
  | n + 1 => by
    show wsum p g n + (if p n = true then g n else 0) = _
    rw [List.range_succ, List.filter_append, List.map_append, List.sum_append, wsum_len p g n]
    by_cases c : p n = true
    · rw [if_pos c, List.filter_cons, if_pos c]; rfl
    · rw [if_neg c, List.filter_cons, if_neg c]; rfl
def lf (T : tS) (m : Nat) : Bool := decide (T.2.1 m = some 0)
theorem wN_perm (hI : INVt T I) {p : Nat → Bool} (hp : ∀ m, p m = true → ∃ k, T.2.1 m = some k) : ((wN T).filter p).Perm ((List.range 16).filter p) := by
  rw [List.perm_ext_iff_of_nodup (List.Pairwise.filter _ (wN_nd hI)) (List.Pairwise.filter _ List.nodup_range)]
  intro m
  rw [List.mem_filter, List.mem_filter, List.mem_range]
  constructor
  · rintro ⟨q1, q2⟩
    obtain ⟨k, hk⟩ := hp m q2
    exact ⟨(hI.2.2.1 m k hk).1, q2⟩
  · rintro ⟨q1, q2⟩
    exact ⟨(wN_mem hI).mpr (hp m q2), q2⟩
theorem wN_cnt (hI : INVt T I) : cnt (fun n => (T.2.1 n).isSome) 16 = (wN T).length := by
  rw [cnt_len, ← (wN_perm hI (p := fun n => (T.2.1 n).isSome) (fun m q => Option.isSome_iff_exists.mp q)).length_eq, List.filter_eq_self.mpr]
  intro m hm
  obtain ⟨k, hk⟩ := (wN_mem hI).mp hm
  rw [hk]; rfl
/-- the last one walked over is a leaf -/
theorem pre_last (hI : INVt T I) (hL : LBt T) : ∀ (k n : Nat), T.2.1 n = some k → ∃ m, (preR T.2.2.1 k n).getLast? = some m ∧ T.2.1 m = some 0
  | 0, n, hn => ⟨n, rfl, hn⟩
  | k + 1, n, hn => by
    have hne := LB_ne hL hn
    obtain ⟨l, c, hlc⟩ : ∃ l c, T.2.2.1 n = l ++ [c] := ⟨_, _, (List.dropLast_concat_getLast hne).symm⟩
    obtain ⟨m, h1, h2⟩ := pre_last hI hL k c (hI.2.2.2.1 n k c hn (by rw [hlc]; exact List.mem_append_right _ (List.mem_singleton.mpr rfl))).1
    refine ⟨m, ?_, h2⟩
    show (n :: (T.2.2.1 n).flatMap (preR T.2.2.1 k)).getLast? = some m
    rw [hlc, fm_app, List.flatMap_cons, List.flatMap_nil, List.append_nil, ← List.cons_append, List.getLast?_append, h1]
    rfl
def arN (T : tS) (sb : Nat → Int32) (m : Nat) : Nat := (bar (bB0 T sb m)).toNatClampNeg
theorem arN_eq (hb : ∀ s, sb s ≠ 0 → bok (sb s)) (m : Nat) : bar (bB0 T sb m) = nI (arN T sb m) := by
  obtain ⟨k, h1, h2⟩ := bar_nI (bB0_ok (T := T) hb m)
  unfold arN
  rw [h2, nI_clamp (by omega)]
/-- the four values of a tree -/
def tval (T : tS) (sb : Nat → Int32) (w : Nat) : Int32 := if w = 0 then nI (wN T).length else if w = 1 then nI ((wN T).filter (lf T)).length else if w = 2 then nI (rkv T T.1) else nI (((wN T).filter (lf T)).map (arN T sb)).sum
theorem c_summary {h : xH} {a : Nat} {S : sS} (hI : INVt T I) (hb : ∀ s, sb s ≠ 0 → bok (sb s)) (hR : RC T sb (bB0 T sb) S) {w : Nat} (hw : w < 4) : xM 57 [.ref (a + 1), .int (nI w)] (pS h a S) = some (some (.int (tval T sb w)), pS h a S) := by
  have lfp : ∀ m, lf T m = true → ∃ k, T.2.1 m = some k := fun m q => ⟨0, of_decide_eq_true q⟩
  have loop : ∀ (d n : Nat), n + d = 16 → xE 57 11 [some (.ref (a + 1)), some (.int (nI w)), some (.int (nI (cnt (fun n => (T.2.1 n).isSome) n))), some (.int (nI (cnt (lf T) n))), some (.int (nI (wsum (lf T) (arN T sb) n))), some (.int (nI (16 + n)))] [] (pS h a S) = some (some (.int (tval T sb w)), pS h a S) := by
    intro d
    induction d with
    | zero =>
      intro n hn
      have hn : n = 16 := by omega
      subst hn
      unfold tval
      rw [xb57_11, if_neg (show ¬ nI (16 + 16) < (32 : Int32) by decide), wN_cnt hI, cnt_len (lf T), wsum_len, ← (wN_perm hI lfp).length_eq, ← perm_sum ((wN_perm hI lfp).map _)]
      by_cases c0 : w = 0
      · rw [if_pos (show nI w = (0 : Int32) by rw [c0]; rfl), if_pos c0]
      · rw [if_neg (show ¬ nI w = (0 : Int32) from nI_nel (n := 0) (by omega) (by decide) c0), if_neg c0]
        by_cases c1 : w = 1
        · rw [if_pos (show nI w = (1 : Int32) by rw [c1]; rfl), if_pos c1]
        · rw [if_neg (show ¬ nI w = (1 : Int32) from nI_nel (n := 1) (by omega) (by decide) c1), if_neg c1]
          by_cases c2 : w = 2
          · obtain ⟨⟨r, hr, -⟩, -⟩ := id hI
            have t16 := RC_lt hR hr
            rw [if_pos (show nI w = (2 : Int32) by rw [c2]; rfl), if_pos c2, sl_t3, Option.bind_some, sl_t0, Option.bind_some, hR.1, c_r2 h a S (by omega), Option.bind_some, hR.2.1 _ t16, hr, rkv_eq hr]
            rfl
          · rw [if_neg (show ¬ nI w = (2 : Int32) from nI_nel (n := 2) (by omega) (by decide) c2), if_neg c2]
    | succ d ih =>
      intro n hn
      have n16 : n < 16 := by omega
      have hi := ih (n + 1) (by omega)
      have hrk : xri (pS h a S) 0 (a + 4) (nI (16 + n)) = some (rkC (T.2.1 n)) := by rw [c_r2 h a S (by omega), hR.2.1 n n16]
      have e1 : cnt (fun n => (T.2.1 n).isSome) (n + 1) = cnt (fun n => (T.2.1 n).isSome) n + (if (T.2.1 n).isSome = true then 1 else 0) := rfl
      have e2 : cnt (lf T) (n + 1) = cnt (lf T) n + (if lf T n = true then 1 else 0) := rfl
      have e3 : wsum (lf T) (arN T sb) (n + 1) = wsum (lf T) (arN T sb) n + (if lf T n = true then arN T sb n else 0) := rfl
      rw [e1, e2, e3] at hi
      rw [xb57_11, if_pos (show nI (16 + n) < (32 : Int32) from nI_lt (b := 32) (by omega) (by decide)), sl_t3, Option.bind_some, hrk, Option.bind_some]
      cases hk : T.2.1 n with
      | none =>
        rw [hk, if_neg (by decide), if_neg (fun q => by have := of_decide_eq_true q; rw [hk] at this; cases this), if_neg (fun q => by have := of_decide_eq_true q; rw [hk] at this; cases this), Nat.add_zero, Nat.add_zero, Nat.add_zero] at hi
        rw [if_pos (show rkC none = -1 from rfl), xb57_32, sl_t3, Option.bind_some, hrk, Option.bind_some, hk, if_neg (show ¬ rkC none = 0 by decide), nI_1]
        exact hi
      | some k =>
        have k16 := (hR.2.2.1 n k hk).2.1
        rw [hk, if_pos (show (some k).isSome = true from rfl)] at hi
        rw [if_neg (rkC_m1 k16), nI_1, xb57_32, sl_t3, Option.bind_some, hrk, Option.bind_some, hk, nI_1]
        cases k with
        | zero =>
          have hl : lf T n = true := decide_eq_true hk
          rw [if_pos hl, if_pos hl] at hi
          rw [if_pos (show rkC (some 0) = 0 from rfl), sl_t1, Option.bind_some, c_r0 h a S (by omega), Option.bind_some, RC_b hR hk, c_area, xcI_some, arN_eq hb, nI_add, nI_1]
          exact hi
        | succ k =>
          have hl : ¬ lf T n = true := fun q => by have := of_decide_eq_true q; rw [hk] at this; cases this
          rw [if_neg hl, if_neg hl, Nat.add_zero, Nat.add_zero] at hi
          rw [if_neg (show ¬ rkC (some (k + 1)) = 0 from nI_ne0 (by omega) (by omega)), nI_1]
          exact hi
  rw [xb57]
  exact loop 16 0 (by decide)
theorem m_treeOf {h : xH} {a : Nat} {S : mS} {f : Nat → Int32} (hI : INVt T I) (hL : LBt T) (hb : ∀ s, sb s ≠ 0 → bok (sb s)) (hR : RM T sb (bB0 T sb) f) {w : Nat} (hw : w < 4) : ∃ S', xM 177 [.ref a, .int (nI w)] (pM h a (m0 S f)) = some (some (.int (tval T sb w)), pM h a (m0 S' f)) ∧ SV S S' := by
  obtain ⟨⟨r, hr, -⟩, -⟩ := id hI
  obtain ⟨S', w1, w2, w3, w4, w5, w6, w7⟩ := m_walks (h := h) (a := a) (S := S) hI hR hr
  obtain ⟨l16, l1⟩ := wN_len hI
  have hW : preR T.2.2.1 r T.1 = wN T := by unfold wN; rw [rkv_eq hr]
  rw [hW] at w3 w4 w5
  refine ⟨S', ?_, w2⟩
  have hz : ∀ n : Nat, nI n + 0 = nI n := fun n => nI_add n 0
  have loop : ∀ (d i : Nat) (l5 : Option Value), i + d = (wN T).length → xE 177 19 [some (.ref a), some (.int (nI w)), some (.int (nI (((wN T).take i).filter (lf T)).length)), some (.int (nI ((((wN T).take i).filter (lf T)).map (arN T sb)).sum)), some (.int (nI i)), l5] [] (pM h a (m0 S' f)) = some (some (.int (tval T sb w)), pM h a (m0 S' f)) := by
    intro d
    induction d with
    | zero =>
      intro i l5 hi
      have hi : i = (wN T).length := by omega
      subst hi
      unfold tval
      rw [List.take_length, xb177_19, a_i12, Option.bind_some, w5, if_neg (nI_nlt (Nat.le_refl _) (by omega))]
      by_cases c0 : w = 0
      · rw [if_pos (show nI w = (0 : Int32) by rw [c0]; rfl), if_pos c0, Option.bind_some]
      · rw [if_neg (show ¬ nI w = (0 : Int32) from nI_nel (n := 0) (by omega) (by decide) c0), if_neg c0]
        by_cases c1 : w = 1
        · rw [if_pos (show nI w = (1 : Int32) by rw [c1]; rfl), if_pos c1]
        · rw [if_neg (show ¬ nI w = (1 : Int32) from nI_nel (n := 1) (by omega) (by decide) c1), if_neg c1]
          by_cases c2 : w = 2
          · obtain ⟨m, m1, m2⟩ := pre_last hI hL r T.1 hr
            rw [hW, List.getLast?_eq_getElem?] at m1
            have hd : S'.1 11 ((wN T).length - 1) = nI (dep T r m) := w4 ((wN T).length - 1) (dep T r m) (by rw [List.getElem?_map, m1]; rfl)
            have hdep : dep T r m = r := by unfold dep; rw [rkv_eq m2]; rfl
            rw [if_pos (show nI w = (2 : Int32) by rw [c2]; rfl), if_pos c2, ml_f11, Option.bind_some, Option.bind_some, show nI (wN T).length - 1 = nI ((wN T).length - 1) by rw [show nI (wN T).length = nI ((wN T).length - 1 + 1) by congr 1; omega, nI_pred], a_r11 h a S' f (by omega), Option.bind_some, hd, hdep, rkv_eq hr]
          · rw [if_neg (show ¬ nI w = (2 : Int32) from nI_nel (n := 2) (by omega) (by decide) c2), if_neg c2]
    | succ d ih =>
      intro i l5 hi
      have hlt : i < (wN T).length := by omega
      have hwi : S'.1 10 i = nI (wN T)[i] := w3 i _ (List.getElem?_eq_getElem hlt)
      obtain ⟨k, hk⟩ := (wN_mem hI).mp (List.getElem_mem hlt)
      obtain ⟨n16, r1, -, -, r4, -⟩ := hR.2.2.1 _ k hk
      have hi' := ih (i + 1)
      rw [List.take_succ_eq_append_getElem hlt, List.filter_append, List.length_append, List.map_append, List.sum_append] at hi'
      generalize (wN T)[i] = m at hwi hk n16 r1 r4 hi'
      rw [xb177_19, a_i12, Option.bind_some, w5, if_pos (nI_lt hlt (by omega)), ml_f10, Option.bind_some, a_r10 h a S' f (by omega), Option.bind_some, hwi, ml_gu, m_n1 h a S' f (by omega), xcI_some, r1, nI_1]
      cases k with
      | zero =>
        have hl : lf T m = true := decide_eq_true hk
        rw [List.filter_cons, if_pos hl, List.filter_nil, List.length_singleton, List.map_cons, List.map_nil, List.sum_cons, List.sum_nil, Nat.add_zero] at hi'
        rw [if_pos rfl, if_pos rfl, if_neg (show ¬ (1 : Nat) = 0 by decide), if_neg (show ¬ (1 : Nat) = 0 by decide), ml_f10, Option.bind_some, a_r10 h a S' f (by omega), Option.bind_some, hwi, ml_gu, m_n4 h a S' f (by omega), xcI_some, r4, m_area (bB0_ok hb m), xcI_some, arN_eq hb, nI_add, nI_1]
        exact hi' _ (by omega)
      | succ k =>
        have hl : ¬ lf T m = true := fun q => by have := of_decide_eq_true q; rw [hk] at this; cases this
        rw [List.filter_cons, if_neg hl, List.filter_nil, List.length_nil, List.map_nil, List.sum_nil, Nat.add_zero, Nat.add_zero] at hi'
        rw [if_neg (show ¬ k + 1 = 0 by omega), if_neg (show ¬ (0 : Int32) = 1 by decide), if_pos rfl, if_pos rfl, hz, hz]
        exact hi' _ (by omega)
  have hroot : xri (pM h a (m0 S f)) 0 (a + 1) 304 = some (f 304) := m_r0 h a S f (i := 304) (by decide)
  rw [xb177, ml_f0, Option.bind_some, hroot, Option.bind_some, hR.1, ml_gu, w1, xcV_some]
  exact loop (wN T).length 0 none (by omega)
/-- the six values of a node -/
def nval (T : tS) (sb : Nat → Int32) (m w : Nat) : Int32 := if w = 0 then nI (rkv T T.1 - rkv T m) else if w = 1 then nI (T.2.2.1 m).length else bval (bB0 T sb m) (nI (w - 2))
theorem bval0 {w : Nat} (hw : w < 4) : bval 0 (nI w) = 0 := by
  match w, hw with
  | 0, _ => decide
  | 1, _ => decide
  | 2, _ => decide
  | 3, _ => decide
theorem c_lineRoot {h : xH} {a : Nat} {S : sS} (hI : INVt T I) (hR : RC T sb (bB0 T sb) S) : ∃ g', xM 55 [.ref (a + 1), .int (nI (16 + T.1))] (pS h a S) = some (some (.int (nI (wN T).length)), pS h a (sB S 6 g')) ∧ HL g' ((wN T).map (fun m => 16 + m)) := by
  obtain ⟨⟨r, hr, -⟩, -⟩ := id hI
  have hW : preR T.2.2.1 r T.1 = wN T := by unfold wN; rw [rkv_eq hr]
  obtain ⟨g', h1, h2⟩ := c_lineUp (h := h) (a := a) hR (fun n k c hn hc => (hI.2.2.2.1 n k c hn hc).1) hr (by rw [hW]; exact (wN_len hI).1)
  rw [hW] at h1 h2
  exact ⟨g', h1, h2⟩
theorem c_lineValue {h : xH} {a : Nat} {S : sS} (hI : INVt T I) (hR : RC T sb (bB0 T sb) S) (h6 : HL (S.1 6) ((wN T).map (fun m => 16 + m))) {i w : Nat} (hi : i < (wN T).length) (hw : w < 6) : xM 58 [.ref (a + 1), .int (nI i), .int (nI w)] (pS h a S) = some (some (.int (nval T sb ((wN T).getD i 0) w)), pS h a S) := by
  obtain ⟨l16, -⟩ := wN_len hI
  have hg : (wN T).getD i 0 = (wN T)[i] := by rw [List.getD_eq_getElem?_getD, List.getElem?_eq_getElem hi]; rfl
  have h6i : S.1 6 i = nI (16 + (wN T)[i]) := h6 i _ (by rw [List.getElem?_map, List.getElem?_eq_getElem hi]; rfl)
  obtain ⟨k, hk⟩ := (wN_mem hI).mp (List.getElem_mem hi)
  rw [hg]
  generalize (wN T)[i] = m at h6i hk ⊢
  obtain ⟨⟨r, hr, -, hrk⟩, -⟩ := id hI
  have hkr := (hrk m k hk).1
  obtain ⟨m16, k16, r2, -, r4, -⟩ := hR.2.2.1 m k hk
  have t16 := RC_lt hR hr
  unfold nval
  rw [xb58, sl_t7, Option.bind_some, c_r6 h a S (by omega), Option.bind_some, h6i]
  by_cases c0 : w = 0
  · rw [if_pos (show nI w = (0 : Int32) by rw [c0]; rfl), if_pos c0, sl_t3, Option.bind_some, sl_t0, Option.bind_some, hR.1, c_r2 h a S (by omega), Option.bind_some, hR.2.1 _ t16, hr, Option.bind_some, c_r2 h a S (by omega), Option.bind_some, hR.2.1 m m16, hk, rkv_eq hr, rkv_eq hk, show rkC (some r) - rkC (some k) = nI (r - k) from pk_sub hkr]
  · rw [if_neg (show ¬ nI w = (0 : Int32) from nI_nel (n := 0) (by omega) (by decide) c0), if_neg c0]
    by_cases c1 : w = 1
    · rw [if_pos (show nI w = (1 : Int32) by rw [c1]; rfl), if_pos c1, sl_t4, Option.bind_some, c_r3 h a S (by omega), Option.bind_some, r2]
    · rw [if_neg (show ¬ nI w = (1 : Int32) from nI_nel (n := 1) (by omega) (by decide) c1), if_neg c1, sl_t1, Option.bind_some, c_r0 h a S (by omega), Option.bind_some, r4, show nI w - 2 = nI (w - 2) from pk_sub (b := 2) (by omega), c_value, xcI_some]
theorem m_walkedOf {h : xH} {a : Nat} {S : mS} {f : Nat → Int32} (hI : INVt T I) (hb : ∀ s, sb s ≠ 0 → bok (sb s)) (hR : RM T sb (bB0 T sb) f) (h10 : HL (S.1 10) (wN T)) (h11 : HL (S.1 11) ((wN T).map (dep T (rkv T T.1)))) {i w : Nat} (hi : i < (wN T).length) (hw : w < 6) : xM 179 [.ref a, .int (nI i), .int (nI w)] (pM h a (m0 S f)) = some (some (.int (nval T sb ((wN T).getD i 0) w)), pM h a (m0 S f)) := by
  obtain ⟨l16, -⟩ := wN_len hI
  have hg : (wN T).getD i 0 = (wN T)[i] := by rw [List.getD_eq_getElem?_getD, List.getElem?_eq_getElem hi]; rfl
  have h10i : S.1 10 i = nI (wN T)[i] := h10 i _ (List.getElem?_eq_getElem hi)
  have h11i : S.1 11 i = nI (dep T (rkv T T.1) (wN T)[i]) := h11 i _ (by rw [List.getElem?_map, List.getElem?_eq_getElem hi]; rfl)
  obtain ⟨k, hk⟩ := (wN_mem hI).mp (List.getElem_mem hi)
  rw [hg]
  generalize (wN T)[i] = m at h10i h11i hk ⊢
  obtain ⟨m16, r1, r2, -, r4, -⟩ := hR.2.2.1 m k hk
  unfold nval
  rw [xb179, ml_f10, Option.bind_some, a_r10 h a S f (by omega), Option.bind_some, h10i]
  by_cases c0 : w = 0
  · rw [if_pos (show nI w = (0 : Int32) by rw [c0]; rfl), if_pos c0, ml_f11, Option.bind_some, a_r11 h a S f (by omega), Option.bind_some, h11i]
    rfl
  · rw [if_neg (show ¬ nI w = (0 : Int32) from nI_nel (n := 0) (by omega) (by decide) c0), if_neg c0]
    by_cases c1 : w = 1
    · rw [if_pos (show nI w = (1 : Int32) by rw [c1]; rfl), if_pos c1, ml_gu, m_n2 h a S f (by omega), xcI_some, r2]
    · rw [if_neg (show ¬ nI w = (1 : Int32) from nI_nel (n := 1) (by omega) (by decide) c1), if_neg c1, ml_gu, m_n4 h a S f (by omega), xcI_some, r4, show nI w - 2 = nI (w - 2) from pk_sub (b := 2) (by omega)]
      rcases bB0_ok (T := T) hb m with q | q
      · rw [q, e2m_0, m_part0, xcI_some, bval0 (by omega)]
      · rw [e2m_ok q, m_part q (by omega), xcI_some]
/-- the line, what is noted: alone changed -/
def KW (S S' : sS) : Prop := (∀ j, j ≠ 6 → j ≠ 7 → S'.1 j = S.1 j) ∧ ∀ j, j ≠ 1 → S'.2 j = S.2 j
theorem KW_rf (S : sS) : KW S S := ⟨fun _ _ _ => rfl, fun _ _ => rfl⟩
theorem KW_tr {S S' S'' : sS} (h1 : KW S S') (h2 : KW S' S'') : KW S S'' := ⟨fun k a b => (h2.1 k a b).trans (h1.1 k a b), fun k a => (h2.2 k a).trans (h1.2 k a)⟩
theorem KW_6 (S : sS) (g : Nat → Int32) : KW S (sB S 6 g) := ⟨fun j h6 _ => sB_n _ _ h6, fun _ _ => rfl⟩
theorem CSc_KW {σ : gT} {S S' : sS} (hS : CSc σ S) (hk : KW S S') : CSc σ S' := by
  obtain ⟨⟨bx, h1, h2⟩, h3, h4⟩ := hS
  refine ⟨⟨bx, RC_rows h1 (fun j hj => hk.1 j (by omega) (by omega)) (hk.2 0 (by decide)), h2⟩, ?_, ?_⟩
  · unfold CSh
    rw [hk.1 0 (by decide) (by decide), hk.1 9 (by decide) (by decide), hk.1 10 (by decide) (by decide)]
    exact h3
  · unfold CDm
    rw [hk.1 8 (by decide) (by decide), hk.2 2 (by decide)]
    exact h4
theorem c_noteAll {h : xH} {a : Nat} {S : sS} (hI : INVt T I) (hR : RC T sb (bB0 T sb) S) : ∃ S', xM 56 [.ref (a + 1)] (pS h a S) = some (some (.int (nI (wS T).length)), pS h a S') ∧ HL (S'.1 7) (wS T) ∧ KW S S' := by
  obtain ⟨⟨r, hr, -⟩, -⟩ := id hI
  have hch : ∀ n k c, T.2.1 n = some (k + 1) → c ∈ T.2.2.1 n → T.2.1 c = some k := fun n k c hn hc => (hI.2.2.2.1 n k c hn hc).1
  have hSH : (wN T).flatMap (lv T) = wS T := by unfold wN wS; rw [rkv_eq hr, sh_pre hch r T.1 hr]
  have R1 : RC T sb (bB0 T sb) (sJ S 1 0) := RC_rows hR (fun _ _ => rfl) (sJ_n _ _ (by decide))
  obtain ⟨g', h1, h2⟩ := c_lineRoot (h := h) (a := a) hI R1
  obtain ⟨S2, q1, q2, q3, q4, q5⟩ := c_noteL (h := h) (a := a) (T := T) (sb := sb) (bx := bB0 T sb) (pl := wN T) (fun m hm => (wN_mem hI).mp hm) (wN_len hI).1 (wN T) 0 [] (sB (sJ S 1 0) 6 g') none (RC_rows R1 (fun j hj => sB_n _ _ (by omega)) rfl) (by rw [sB_s]; exact h2) List.drop_zero (Nat.zero_le _) (show (sJ S 1 0).2 1 = _ from sJ_s _ _ _) (HL_nil _) (by rw [hSH]; show 0 + _ ≤ 16; have := (wS_len hI).1; omega)
  rw [hSH, List.nil_append] at q2 q3
  refine ⟨S2, ?_, q2, ⟨fun j a6 a7 => by rw [q4 j a7, sB_n _ _ a6]; rfl, fun j a1 => by rw [q5 j a1]; exact sJ_n _ _ a1⟩⟩
  have hsJ : ∀ v : Int32, xpf (pS h a S) (a + 1) 3 9 (.int v) = some (pS h a (sJ S 1 v)) := fun v => sl_pt9 ..
  have q1' : xE 70 2 [some (.ref (a + 1)), some (.int (nI (wN T).length)), some (.int 0), none] [] (pS h a (sB (sJ S 1 0) 6 g')) = some (none, pS h a S2) := q1
  rw [xb56, hsJ, Option.bind_some, sl_t0, Option.bind_some, R1.1, sl_gt, h1, xcI_some, sl_gt, xb70, q1', xcV_some, sl_t9, Option.bind_some, q3]
end TQ
