/-! The class's tree: the entry that grows least, the leaf for a box, the pair that fits worst -/
theorem off_s (k e : Nat) : off (k + 1) e = 16 + e := if_neg (Nat.succ_ne_zero k)
theorem off_0 (e : Nat) : off 0 e = e := if_pos rfl
section CB
variable {h : xH} {a : Nat} {S : sS} {T : tS} {sb bx : Nat → Int32}
theorem RC_b (hR : RC T sb bx S) {n k : Nat} (hn : T.2.1 n = some k) : S.1 0 (16 + n) = bx n := (hR.2.2.1 n k hn).2.2.2.2.1
theorem RC_congr {T' : tS} {bx' : Nat → Int32} (hR : RC T sb bx S) (h1 : T'.1 = T.1) (h2 : ∀ n, T'.2.1 n = T.2.1 n) (h3 : ∀ n k, T.2.1 n = some k → T'.2.2.1 n = T.2.2.1 n ∧ T'.2.2.2.1 n = T.2.2.2.1 n ∧ bx' n = bx n) : RC T' sb bx' S := by
  obtain ⟨r1, r2, r3, r4⟩ := hR
  refine ⟨by rw [h1]; exact r1, fun n hn => by rw [h2]; exact r2 n hn, fun n k hn => ?_, r4⟩
  rw [h2] at hn
  obtain ⟨e1, e2, e3⟩ := h3 n k hn
  rw [e1, e2, e3]
  exact r3 n k hn
theorem c_bestL (hR : RC T sb bx S) {n k : Nat} (hn : T.2.1 n = some (k + 1)) (hc : ∀ c, c ∈ T.2.2.1 n → ∃ j, T.2.1 c = some j) (b : Int32) : ∀ (d i c : Nat) (l6 l7 l8 : Option Value), i + d = (T.2.2.1 n).length → (∃ j, T.2.1 c = some j) → xE 60 26 [some (.ref (a + 1)), some (.int (nI (16 + n))), some (.int b), some (.int (nI (16 + c))), some (.int (cgr (bx c) b)), some (.int (nI i)), l6, l7, l8] [] (pS h a S) = some (some (.int (nI (16 + ((T.2.2.1 n).drop i).foldl (fun x y => if bet b (bx y) (bx x) = true then y else x) c))), pS h a S) := by
  obtain ⟨n16, k16, r2, r3, r4, r5, r6⟩ := hR.2.2.1 n _ hn
  intro d
  induction d with
  | zero =>
    intro i c l6 l7 l8 hi hcj
    rw [xb60_26, sl_t4, Option.bind_some, c_r3 h a S (by omega), Option.bind_some, r2, if_neg (nI_nlt (by omega) (by omega)), List.drop_eq_nil_of_le (by omega), List.foldl_nil]
  | succ d ih =>
    intro i c l6 l7 l8 hi hcj
    have hlt : i < (T.2.2.1 n).length := by omega
    obtain ⟨y1, y2, -⟩ := r6 i _ (List.getElem?_eq_getElem hlt)
    obtain ⟨jy, hy⟩ := hc _ (List.getElem_mem hlt)
    obtain ⟨jc, hcj'⟩ := hcj
    have c16 := RC_lt hR hcj'
    have my := RC_b hR hy
    have mc := RC_b hR hcj'
    rw [off_s] at y2
    rw [List.drop_eq_getElem_cons hlt, List.foldl_cons]
    generalize (T.2.2.1 n)[i] = y at y1 y2 hy my ⊢
    have ihy := ih (i + 1) y (some (.int (nI (16 + y)))) (some (.int (cgr (bx y) b)))
    have ihc := ih (i + 1) c (some (.int (nI (16 + y)))) (some (.int (cgr (bx y) b)))
    have rA : ∀ m, m < 16 → xri (pS h a S) 0 (a + 2) (nI (16 + m)) = some (S.1 0 (16 + m)) := fun m hm => c_r0 h a S (by omega)
    rw [xb60_26, sl_t4, Option.bind_some, c_r3 h a S (by omega), Option.bind_some, r2, if_pos (nI_lt hlt (by omega)), sl_t5, Option.bind_some, c_place, xcI_some, c_r4 h a S (by omega), Option.bind_some, y2, nI_1]
    simp only [sl_t1, Option.bind_some, rA y y1, rA c c16, my, mc, c_growth, c_area, xcI_some]
    by_cases c2 : cgr (bx y) b = cgr (bx c) b
    · rw [if_pos c2]
      by_cases c3 : bar (bx y) < bar (bx c)
      · rw [if_pos c3, if_neg (show ¬ (1 : Nat) = 0 by decide), if_pos (show bet b (bx y) (bx c) = true by unfold bet; simp [c2, c3])]
        exact ihy _ (by omega) ⟨jy, hy⟩
      · rw [if_neg c3, if_pos trivial, if_neg (show ¬ bet b (bx y) (bx c) = true by unfold bet; simp [c2, c3])]
        exact ihc _ (by omega) ⟨jc, hcj'⟩
    · rw [if_neg c2]
      by_cases c1 : cgr (bx y) b < cgr (bx c) b
      · rw [if_pos c1, if_neg (show ¬ (1 : Nat) = 0 by decide), if_pos (show bet b (bx y) (bx c) = true by unfold bet; simp [c1])]
        exact ihy _ (by omega) ⟨jy, hy⟩
      · rw [if_neg c1, if_pos trivial, if_neg (show ¬ bet b (bx y) (bx c) = true by unfold bet; simp [c1, c2])]
        exact ihc _ (by omega) ⟨jc, hcj'⟩
theorem c_best (hR : RC T sb bx S) {n k : Nat} (hn : T.2.1 n = some (k + 1)) (hne : T.2.2.1 n ≠ []) (hc : ∀ c, c ∈ T.2.2.1 n → ∃ j, T.2.1 c = some j) (b : Int32) : xM 60 [.ref (a + 1), .int (nI (16 + n)), .int b] (pS h a S) = some (some (.int (nI (16 + bestc bx b (T.2.2.1 n)))), pS h a S) := by
  obtain ⟨n16, k16, r2, r3, r4, r5, r6⟩ := hR.2.2.1 n _ hn
  obtain ⟨e, r, her⟩ : ∃ e r, T.2.2.1 n = e :: r := by
    cases hq : T.2.2.1 n with
    | nil => exact absurd hq hne
    | cons e r => exact ⟨e, r, rfl⟩
  obtain ⟨y1, y2, -⟩ := r6 0 e (by rw [her]; rfl)
  rw [off_s] at y2
  obtain ⟨je, hje⟩ := hc e (by rw [her]; exact List.mem_cons_self)
  have me := RC_b hR hje
  have hl := c_bestL (h := h) (a := a) hR hn hc b ((T.2.2.1 n).length - 1) 1 e none none none (by rw [her, List.length_cons]; omega) ⟨je, hje⟩
  have hb' : ((T.2.2.1 n).drop 1).foldl (fun x y => if bet b (bx y) (bx x) = true then y else x) e = bestc bx b (T.2.2.1 n) := by rw [her]; rfl
  rw [hb'] at hl
  rw [xb60, sl_t5, Option.bind_some, show (0 : Int32) = nI 0 from rfl, c_place, xcI_some, c_r4 h a S (by omega), Option.bind_some, y2, sl_t1, Option.bind_some, c_r0 h a S (by omega), Option.bind_some, me, c_growth, xcI_some]
  exact hl
theorem c_desc {I : Nat → Prop} (hI : INVt T I) (hL : LBt T) (hR : RC T sb bx S) {s : Nat} (hs : s < 16) : ∀ (k n i : Nat), T.2.1 n = some k → i + k < 16 → xE 53 7 [some (.ref (a + 1)), some (.int (nI s)), some (.int (nI (16 + n))), some (.int (nI i)), none, none] [] (pS h a S) = xcV (xM 61 [.ref (a + 1), .int (nI (16 + dsc T.2.2.1 bx (sb s) k n)), .int (nI s)] (pS h a S)) fun h7 => xE 53 48 [some (.ref (a + 1)), some (.int (nI s)), some (.int (nI (16 + dsc T.2.2.1 bx (sb s) k n))), some (.int 0), none, none] [] h7 := by
  intro k
  induction k with
  | zero =>
    intro n i hn hi
    have n16 := RC_lt hR hn
    rw [xb53_7, if_pos (show nI i < (16 : Int32) from nI_lt (b := 16) (by omega) (by decide)), sl_t3, Option.bind_some, c_r2 h a S (by omega), Option.bind_some, hR.2.1 n n16, hn, if_neg (show ¬ (0 : Int32) < rkC (some 0) by decide), sl_gt]
    rfl
  | succ k ih =>
    intro n i hn hi
    have n16 := RC_lt hR hn
    have hne := LB_ne hL hn
    rw [xb53_7, if_pos (show nI i < (16 : Int32) from nI_lt (b := 16) (by omega) (by decide)), sl_t3, Option.bind_some, c_r2 h a S (by omega), Option.bind_some, hR.2.1 n n16, hn, if_pos (show (0 : Int32) < rkC (some (k + 1)) from nI_lt (a := 0) (by omega) (by omega)), sl_t1, Option.bind_some, c_r0 h a S (by omega), Option.bind_some, hR.2.2.2 s hs, sl_gt, c_best hR hn hne (fun c hc => ⟨k, (hI.2.2.2.1 n k c hn hc).1⟩), xcI_some, nI_1]
    exact ih _ (i + 1) (hI.2.2.2.1 n k _ hn (bestc_mem bx (sb s) hne)).1 (by omega)
def wPB (p : Nat × Nat) : Prop := 0 < 5 * p.1 + p.2 ∧ 5 * p.1 + p.2 < 100
theorem wPB_if {c : Prop} [Decidable c] {p : Nat × Nat} {i j : Nat} (hp : wPB p) (hi : i < 5) (hj : 0 < j) (hj' : j < 5) : wPB (if c then (i, j) else p) := by
  by_cases q : c
  · rw [if_pos q]; exact ⟨by show 0 < 5 * i + j; omega, by show 5 * i + j < 100; omega⟩
  · rw [if_neg q]; exact hp
/-- the pair that fits worst -/
theorem c_worst (hR : RC T sb bx S) {n k : Nat} (hn : T.2.1 n = some k) {l : List Nat} (hl : T.2.2.1 n = l) (h5 : l.length = 5) {g : Nat → Int32} (hg : ∀ e, e ∈ l → S.1 0 (off k e) = g e) {w : Nat → Nat → Int32} (hw : w = fun i j => cwa (g (l.getD i 0)) (g (l.getD j 0))) : xM 66 [.ref (a + 1), .int (nI (16 + n))] (pS h a S) = some (some (.int (nI (5 * (wpf w).1 + (wpf w).2))), pS h a S) := by
  obtain ⟨n16, k16, r2, r3, r4, r5, r6⟩ := hR.2.2.1 n _ hn
  have hgd : ∀ i, i < 5 → S.1 4 (5 * n + i) = nI (off k (l.getD i 0)) ∧ off k (l.getD i 0) < 32 ∧ S.1 0 (off k (l.getD i 0)) = g (l.getD i 0) := fun i hi => by
    have h1 : l[i]? = some (l.getD i 0) := by
      rw [List.getD_eq_getElem?_getD, List.getElem?_eq_getElem (by omega)]; rfl
    obtain ⟨z1, z2, -⟩ := r6 i _ (by rw [hl]; exact h1)
    exact ⟨z2, off_lt z1, hg _ (List.mem_of_getElem? h1)⟩
  have com : ∀ (l2 l3 : Int32) (i j : Nat) (l6 : Option Value), i < 5 → j < 5 → xE 66 19 [some (.ref (a + 1)), some (.int (nI (16 + n))), some (.int l2), some (.int l3), some (.int (nI i)), some (.int (nI j)), l6] [] (pS h a S) = if l2 = 0 then xE 66 19 [some (.ref (a + 1)), some (.int (nI (16 + n))), some (.int (nI (5 * i + j))), some (.int (w i j)), some (.int (nI i)), some (.int (nI (j + 1))), some (.int (w i j))] [] (pS h a S) else if l3 < w i j then xE 66 19 [some (.ref (a + 1)), some (.int (nI (16 + n))), some (.int (nI (5 * i + j))), some (.int (w i j)), some (.int (nI i)), some (.int (nI (j + 1))), some (.int (w i j))] [] (pS h a S) else xE 66 19 [some (.ref (a + 1)), some (.int (nI (16 + n))), some (.int l2), some (.int l3), some (.int (nI i)), some (.int (nI (j + 1))), some (.int (w i j))] [] (pS h a S) := by
    intro l2 l3 i j l6 hi hj
    obtain ⟨i1, i2, i3⟩ := hgd i hi
    obtain ⟨j1, j2, j3⟩ := hgd j hj
    rw [xb66_19, if_pos (show nI j < (5 : Int32) from nI_lt (b := 5) hj (by decide))]
    simp only [sl_t1, sl_t5, Option.bind_some, c_place, xcI_some, c_r4 h a S (show 5 * n + i < 80 by omega), c_r4 h a S (show 5 * n + j < 80 by omega), i1, j1, c_r0 h a S i2, c_r0 h a S j2, i3, j3, c_waste]
    rw [show cwa (g (l.getD i 0)) (g (l.getD j 0)) = w i j by rw [hw], xb66_72, nI_1, show (5 : Int32) = nI 5 from rfl, pk_mul, nI_add]
  have stp : ∀ (p : Nat × Nat) (i j : Nat) (l6 : Option Value), wPB p → i < 5 → j < 5 → xE 66 19 [some (.ref (a + 1)), some (.int (nI (16 + n))), some (.int (nI (5 * p.1 + p.2))), some (.int (w p.1 p.2)), some (.int (nI i)), some (.int (nI j)), l6] [] (pS h a S) = xE 66 19 [some (.ref (a + 1)), some (.int (nI (16 + n))), some (.int (nI (5 * (if w p.1 p.2 < w i j then (i, j) else p).1 + (if w p.1 p.2 < w i j then (i, j) else p).2))), some (.int (w (if w p.1 p.2 < w i j then (i, j) else p).1 (if w p.1 p.2 < w i j then (i, j) else p).2)), some (.int (nI i)), some (.int (nI (j + 1))), some (.int (w i j))] [] (pS h a S) := by
    intro p i j l6 hp hi hj
    rw [com _ _ i j l6 hi hj, if_neg (show ¬ nI (5 * p.1 + p.2) = (0 : Int32) from fun q => by
      have := nI_inj (b := 0) (by have := hp.2; omega) (by decide) q
      have := hp.1
      omega)]
    by_cases c : w p.1 p.2 < w i j
    · rw [if_pos c, if_pos c]
    · rw [if_neg c, if_neg c]
  have rowe : ∀ (l2 l3 : Int32) (i : Nat) (l6 : Option Value), i < 4 → xE 66 19 [some (.ref (a + 1)), some (.int (nI (16 + n))), some (.int l2), some (.int l3), some (.int (nI i)), some (.int (nI 5)), l6] [] (pS h a S) = xE 66 19 [some (.ref (a + 1)), some (.int (nI (16 + n))), some (.int l2), some (.int l3), some (.int (nI (i + 1))), some (.int (nI (i + 2))), l6] [] (pS h a S) := by
    intro l2 l3 i l6 hi
    rw [xb66_19, if_neg (show ¬ nI 5 < (5 : Int32) by decide), nI_1, xb66_7, if_pos (show nI (i + 1) < (5 : Int32) from nI_lt (b := 5) (by omega) (by decide)), nI_1]
  have fin : ∀ (l2 l3 : Int32) (l6 : Option Value), xE 66 19 [some (.ref (a + 1)), some (.int (nI (16 + n))), some (.int l2), some (.int l3), some (.int (nI 4)), some (.int (nI 5)), l6] [] (pS h a S) = some (some (.int l2), pS h a S) := by
    intro l2 l3 l6
    rw [xb66_19, if_neg (show ¬ nI 5 < (5 : Int32) by decide), nI_1, xb66_7, if_neg (show ¬ nI (4 + 1) < (5 : Int32) by decide)]
  have h01 : xE 66 19 [some (.ref (a + 1)), some (.int (nI (16 + n))), some (.int 0), some (.int 0), some (.int (nI 0)), some (.int (nI 1)), none] [] (pS h a S) = xE 66 19 [some (.ref (a + 1)), some (.int (nI (16 + n))), some (.int (nI (5 * 0 + 1))), some (.int (w 0 1)), some (.int (nI 0)), some (.int (nI 2)), some (.int (w 0 1))] [] (pS h a S) := by
    rw [com 0 0 0 1 none (by decide) (by decide), if_pos rfl]
  rw [xb66, xb66_7, if_pos (show (0 : Int32) < 5 by decide)]
  refine Eq.trans (show _ = _ from h01) ?_
  have b0 : wPB (0, 1) := ⟨by decide, by decide⟩
  refine Eq.trans (show _ = _ from stp (0, 1) 0 2 _ b0 (by decide) (by decide)) ?_
  generalize hp1 : (if w (0, 1).1 (0, 1).2 < w 0 2 then (0, 2) else ((0, 1) : Nat × Nat)) = p1
  have b1 : wPB p1 := hp1 ▸ wPB_if b0 (by decide) (by decide) (by decide)
  rw [stp p1 0 3 _ b1 (by decide) (by decide)]
  generalize hp2 : (if w p1.1 p1.2 < w 0 3 then (0, 3) else p1) = p2
  have b2 : wPB p2 := hp2 ▸ wPB_if b1 (by decide) (by decide) (by decide)
  rw [stp p2 0 4 _ b2 (by decide) (by decide)]
  generalize hp3 : (if w p2.1 p2.2 < w 0 4 then (0, 4) else p2) = p3
  have b3 : wPB p3 := hp3 ▸ wPB_if b2 (by decide) (by decide) (by decide)
  rw [rowe _ _ 0 _ (by decide), stp p3 1 2 _ b3 (by decide) (by decide)]
  generalize hp4 : (if w p3.1 p3.2 < w 1 2 then (1, 2) else p3) = p4
  have b4 : wPB p4 := hp4 ▸ wPB_if b3 (by decide) (by decide) (by decide)
  rw [stp p4 1 3 _ b4 (by decide) (by decide)]
  generalize hp5 : (if w p4.1 p4.2 < w 1 3 then (1, 3) else p4) = p5
  have b5 : wPB p5 := hp5 ▸ wPB_if b4 (by decide) (by decide) (by decide)
  rw [stp p5 1 4 _ b5 (by decide) (by decide)]
  generalize hp6 : (if w p5.1 p5.2 < w 1 4 then (1, 4) else p5) = p6
  have b6 : wPB p6 := hp6 ▸ wPB_if b5 (by decide) (by decide) (by decide)
  rw [rowe _ _ 1 _ (by decide), stp p6 2 3 _ b6 (by decide) (by decide)]
  generalize hp7 : (if w p6.1 p6.2 < w 2 3 then (2, 3) else p6) = p7
  have b7 : wPB p7 := hp7 ▸ wPB_if b6 (by decide) (by decide) (by decide)
  rw [stp p7 2 4 _ b7 (by decide) (by decide)]
  generalize hp8 : (if w p7.1 p7.2 < w 2 4 then (2, 4) else p7) = p8
  have b8 : wPB p8 := hp8 ▸ wPB_if b7 (by decide) (by decide) (by decide)
  rw [rowe _ _ 2 _ (by decide), stp p8 3 4 _ b8 (by decide) (by decide)]
  generalize hp9 : (if w p8.1 p8.2 < w 3 4 then (3, 4) else p8) = p9
  have b9 : wPB p9 := hp9 ▸ wPB_if b8 (by decide) (by decide) (by decide)
  rw [rowe _ _ 3 _ (by decide), fin]
  have : wpf w = p9 := by
    unfold wpf wps
    simp only [List.foldl_cons, List.foldl_nil]
    rw [hp1, hp2, hp3, hp4, hp5, hp6, hp7, hp8, hp9]
  rw [this]
end CB
