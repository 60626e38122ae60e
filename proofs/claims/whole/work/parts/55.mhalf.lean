/-! The reference's tree: a full node is halved -/
def m7 (S : mS) (g : Nat → Int32) : mS := (va_up S.1 7 g, S.2)
/-- the fields that hold no state from one call to the next -/
def scrA (k : Nat) : Bool := k == 7 || k == 8 || k == 9 || k == 10 || k == 11 || k == 13 || k == 15
def scrI (k : Nat) : Bool := k == 12 || k == 14 || k == 16
def SC (S S' : mS) : Prop := (∀ k, scrA k = false → k ≠ 0 → S'.1 k = S.1 k) ∧ (∀ k, scrI k = false → S'.2.1 k = S.2.1 k) ∧ S'.2.2 = S.2.2
theorem SC_rf (S : mS) : SC S S := ⟨fun _ _ _ => rfl, fun _ _ => rfl, rfl⟩
theorem SC_tr {S S' S'' : mS} (h1 : SC S S') (h2 : SC S' S'') : SC S S'' := ⟨fun k a b => (h2.1 k a b).trans (h1.1 k a b), fun k a => (h2.2.1 k a).trans (h1.2.1 k a), h2.2.2.trans h1.2.2⟩
theorem SC_m7 (S : mS) (g : Nat → Int32) : SC S (m7 S g) := ⟨fun k a _ => up_n _ _ (fun q : k = 7 => by subst q; cases a), fun _ _ => rfl, rfl⟩
/-- the scratch row 7 alone -/
def SC7 (S S' : mS) : Prop := (∀ k, k ≠ 7 → k ≠ 0 → S'.1 k = S.1 k) ∧ S'.2 = S.2
theorem SC7_rf (S : mS) : SC7 S S := ⟨fun _ _ _ => rfl, rfl⟩
theorem SC7_tr {S S' S'' : mS} (h1 : SC7 S S') (h2 : SC7 S' S'') : SC7 S S'' := ⟨fun k a b => (h2.1 k a b).trans (h1.1 k a b), h2.2.trans h1.2⟩
theorem SC7_m7 (S : mS) (g : Nat → Int32) : SC7 S (m7 S g) := ⟨fun k a _ => up_n _ _ a, rfl⟩
theorem SC7_SC {S S' : mS} (h7 : SC7 S S') : SC S S' := ⟨fun k a b => h7.1 k (fun q => by subst q; cases a) b, fun k _ => by rw [h7.2], by rw [h7.2]⟩
theorem m07_7 (S : mS) (f g : Nat → Int32) : (m0 (m7 S g) f).1 7 = g := by
  rw [m0_n _ _ (by decide)]
  show va_up S.1 7 g 7 = g
  exact up_s _ _ _
theorem m7_m7 (S : mS) (g g' : Nat → Int32) : m7 (m7 S g) g' = m7 S g' := by
  unfold m7
  rw [bx_uu]
theorem m7_id (S : mS) : m7 S (S.1 7) = S := by
  refine Prod.ext ?_ rfl
  funext j
  show va_up S.1 7 (S.1 7) j = S.1 j
  by_cases h : j = 7
  · subst h; exact up_s _ _ _
  · exact up_n _ _ h
theorem m07_w (S : mS) (f g : Nat → Int32) (g' : Nat → Int32) : (va_up (m0 (m7 S g) f).1 7 g', (m0 (m7 S g) f).2) = m0 (m7 S g') f := by
  refine Prod.ext ?_ rfl
  funext j
  show va_up (va_up (va_up S.1 7 g) 0 f) 7 g' j = va_up (va_up S.1 7 g') 0 f j
  by_cases h : j = 7
  · subst h; rw [up_s, up_n _ _ (by decide), up_s]
  · by_cases h0 : j = 0
    · subst h0; rw [up_n _ _ h, up_s, up_s]
    · rw [up_n _ _ h, up_n _ _ h0, up_n _ _ h, up_n _ _ h0, up_n _ _ h]
theorem m_r7 (h : xH) (a : Nat) (S : mS) (f g : Nat → Int32) {i : Nat} (hi : i < 5) : xri (pM h a (m0 (m7 S g) f)) 0 (a + 6) (nI i) = some (g i) := by
  rw [ml_r7, xin_nI hi (by decide), cond_true, nI_clamp (by omega), m07_7]
theorem m_w7 (h : xH) (a : Nat) (S : mS) (f g : Nat → Int32) {i : Nat} (hi : i < 5) (v : Int32) : xwi (pM h a (m0 (m7 S g) f)) 0 (a + 6) (nI i) v = some (pM h a (m0 (m7 S (upd g i v)) f)) := by
  rw [ml_w7, xin_nI hi (by decide), cond_true, nI_clamp (by omega), m07_7, m07_w]
def EE (T : tS) (sb : Nat → Int32) (n e : Nat) : Prop := (T.2.1 n = some 0 → e < 16 ∧ sb e ≠ 0) ∧ (T.2.1 n ≠ some 0 → ∃ j, T.2.1 e = some j)
theorem EE_of {T : tS} {sb : Nat → Int32} (hE : EN T sb) {n k e : Nat} (hn : T.2.1 n = some k) (he : e ∈ T.2.2.1 n) : EE T sb n e := ⟨fun h0 => hE.1 n e h0 he, fun h0 => by
  cases k with
  | zero => exact absurd hn h0
  | succ k => exact hE.2 n k e hn he⟩
section MH
variable {h : xH} {a : Nat} {S : mS} {f : Nat → Int32} {T : tS} {sb bx : Nat → Int32}
theorem ebx_ok' (hB : BK T.2.1 sb bx) {n e : Nat} (he : EE T sb n e) : bok0 (ebx T.2.1 sb bx n e) := by
  unfold ebx
  by_cases h0 : T.2.1 n = some 0
  · rw [if_pos h0]; exact Or.inr (hB.1 e (he.1 h0).2)
  · rw [if_neg h0]
    obtain ⟨j, hj⟩ := he.2 h0
    exact hB.2 e j hj
theorem m_entryBox' (hR : RM T sb bx f) (hB : BK T.2.1 sb bx) {n k e : Nat} (hn : T.2.1 n = some k) (he : EE T sb n e) : xM 129 [.ref a, .int (nI n), .int (nI e)] (pM h a (m0 S f)) = some (some (.int (e2m (ebx T.2.1 sb bx n e))), pM h a (m0 S f)) := by
  obtain ⟨n16, r1, r2, r3, r4, r5, r6⟩ := hR.2.2.1 n k hn
  rw [xb129, ml_gu, m_n1 h a S f (by omega), xcI_some, r1]
  unfold ebx
  cases k with
  | zero =>
    obtain ⟨s1, s2⟩ := he.1 hn
    rw [if_pos rfl, if_pos rfl, ml_gu, m_s1 h a S f s1, xcI_some, if_pos hn, hR.2.2.2 e s1 s2, e2m_ok (hB.1 e s2)]
  | succ k =>
    have h0 : T.2.1 n ≠ some 0 := by rw [hn]; intro z; cases z
    obtain ⟨j, hj⟩ := he.2 h0
    obtain ⟨e16, q1, q2, q3, q4, -⟩ := hR.2.2.1 e j hj
    rw [if_neg (show ¬ k + 1 = 0 by omega), if_neg (show ¬ (0 : Int32) = 1 by decide), if_neg h0, ml_gu, m_n4 h a S f (by omega), xcI_some, q4]
-- the two that fit worst
theorem m_seeds (hR : RM T sb bx f) (hB : BK T.2.1 sb bx) {n k : Nat} (hn : T.2.1 n = some k) {l : List Nat} (hl : ∀ i, i < 5 → EE T sb n (l.getD i 0)) {g : Nat → Int32} (hg : ∀ i, i < 5 → g i = nI (l.getD i 0)) {w : Nat → Nat → Int32} (hw : w = fun i j => cwa (ebx T.2.1 sb bx n (l.getD i 0)) (ebx T.2.1 sb bx n (l.getD j 0))) : xM 138 [.ref a, .int (nI n)] (pM h a (m0 (m7 S g) f)) = some (some (.int (nI (5 * (wpf w).1 + (wpf w).2))), pM h a (m0 (m7 S g) f)) := by
  have com : ∀ (l2 l3 : Int32) (i j : Nat) (l6 : Option Value), i < 5 → j < 5 → xE 138 19 [some (.ref a), some (.int (nI n)), some (.int l2), some (.int l3), some (.int (nI i)), some (.int (nI j)), l6] [] (pM h a (m0 (m7 S g) f)) = if (i = 0 ∧ j = 1) ∨ l3 < w i j then xE 138 71 [some (.ref a), some (.int (nI n)), some (.int l2), some (.int l3), some (.int (nI i)), some (.int (nI j)), some (.int (w i j))] [] (pM h a (m0 (m7 S g) f)) else xE 138 19 [some (.ref a), some (.int (nI n)), some (.int l2), some (.int l3), some (.int (nI i)), some (.int (nI j + 1)), some (.int (w i j))] [] (pM h a (m0 (m7 S g) f)) := by
    intro l2 l3 i j l6 hi hj
    have hwa := m_waste (ebx_ok' hB (hl i hi)) (ebx_ok' hB (hl j hj)) (pM h a (m0 (m7 S g) f))
    rw [xb138_19, if_pos (show nI j < (5 : Int32) from nI_lt (b := 5) hj (by decide)), ml_f7, Option.bind_some, m_r7 h a S f g hi, Option.bind_some, hg i hi, ml_gu, m_entryBox' hR hB hn (hl i hi), xcI_some, ml_f7, Option.bind_some, m_r7 h a S f g hj, Option.bind_some, hg j hj, ml_gu, m_entryBox' hR hB hn (hl j hj), xcI_some, hwa, xcI_some, show cwa (ebx T.2.1 sb bx n (l.getD i 0)) (ebx T.2.1 sb bx n (l.getD j 0)) = w i j by rw [hw]]
    by_cases i0 : i = 0
    · subst i0
      rw [if_pos (show nI 0 = (0 : Int32) from rfl)]
      by_cases j1 : j = 1
      · subst j1
        rw [if_pos (show nI 1 = (1 : Int32) from rfl), if_pos (Or.inl ⟨rfl, rfl⟩)]
      · rw [if_neg (show ¬ nI j = (1 : Int32) from fun q => j1 (nI_inj (b := 1) (by omega) (by decide) q))]
        by_cases c : l3 < w 0 j
        · rw [if_pos c, if_pos (Or.inr c)]
        · rw [if_neg c, if_neg (fun q => q.elim (fun q => j1 q.2) c)]
    · rw [if_neg (show ¬ nI i = (0 : Int32) from fun q => i0 (nI_inj (b := 0) (by omega) (by decide) q))]
      by_cases c : l3 < w i j
      · rw [if_pos c, if_pos (Or.inr c)]
      · rw [if_neg c, if_neg (fun q => q.elim (fun q => i0 q.1) c)]
  have stp : ∀ (p : Nat × Nat) (i j : Nat) (l6 : Option Value), i < 5 → j < 5 → ¬ (i = 0 ∧ j = 1) → xE 138 19 [some (.ref a), some (.int (nI n)), some (.int (nI (5 * p.1 + p.2))), some (.int (w p.1 p.2)), some (.int (nI i)), some (.int (nI j)), l6] [] (pM h a (m0 (m7 S g) f)) = xE 138 19 [some (.ref a), some (.int (nI n)), some (.int (nI (5 * (if w p.1 p.2 < w i j then (i, j) else p).1 + (if w p.1 p.2 < w i j then (i, j) else p).2))), some (.int (w (if w p.1 p.2 < w i j then (i, j) else p).1 (if w p.1 p.2 < w i j then (i, j) else p).2)), some (.int (nI i)), some (.int (nI (j + 1))), some (.int (w i j))] [] (pM h a (m0 (m7 S g) f)) := by
    intro p i j l6 hi hj hne
    rw [com _ _ i j l6 hi hj]
    by_cases c : w p.1 p.2 < w i j
    · rw [if_pos (Or.inr c), if_pos c, xb138_71, nI_1, show (5 : Int32) = nI 5 from rfl, pk_mul, nI_add]
    · rw [if_neg (fun q => q.elim hne c), if_neg c, nI_1]
  have rowe : ∀ (l2 l3 : Int32) (i : Nat) (l6 : Option Value), i < 4 → xE 138 19 [some (.ref a), some (.int (nI n)), some (.int l2), some (.int l3), some (.int (nI i)), some (.int (nI 5)), l6] [] (pM h a (m0 (m7 S g) f)) = xE 138 19 [some (.ref a), some (.int (nI n)), some (.int l2), some (.int l3), some (.int (nI (i + 1))), some (.int (nI (i + 2))), l6] [] (pM h a (m0 (m7 S g) f)) := by
    intro l2 l3 i l6 hi
    rw [xb138_19, if_neg (show ¬ nI 5 < (5 : Int32) by decide), nI_1, xb138_7, if_pos (show nI (i + 1) < (5 : Int32) from nI_lt (b := 5) (by omega) (by decide)), nI_1]
  have fin : ∀ (l2 l3 : Int32) (l6 : Option Value), xE 138 19 [some (.ref a), some (.int (nI n)), some (.int l2), some (.int l3), some (.int (nI 4)), some (.int (nI 5)), l6] [] (pM h a (m0 (m7 S g) f)) = some (some (.int l2), pM h a (m0 (m7 S g) f)) := by
    intro l2 l3 l6
    rw [xb138_19, if_neg (show ¬ nI 5 < (5 : Int32) by decide), nI_1, xb138_7, if_neg (show ¬ nI (4 + 1) < (5 : Int32) by decide)]
  rw [xb138, xb138_7, if_pos (show (0 : Int32) < 5 by decide)]
  have h01 := com 1 0 0 1 none (by decide) (by decide)
  rw [if_pos (Or.inl ⟨rfl, rfl⟩), xb138_71] at h01
  refine Eq.trans (show _ = _ from h01) ?_
  refine Eq.trans (show _ = _ from stp (0, 1) 0 2 _ (by decide) (by decide) (by decide)) ?_
  generalize hp1 : (if w (0, 1).1 (0, 1).2 < w 0 2 then (0, 2) else ((0, 1) : Nat × Nat)) = p1
  rw [stp p1 0 3 _ (by decide) (by decide) (by decide)]
  generalize hp2 : (if w p1.1 p1.2 < w 0 3 then (0, 3) else p1) = p2
  rw [stp p2 0 4 _ (by decide) (by decide) (by decide)]
  generalize hp3 : (if w p2.1 p2.2 < w 0 4 then (0, 4) else p2) = p3
  rw [rowe _ _ 0 _ (by decide), stp p3 1 2 _ (by decide) (by decide) (by decide)]
  generalize hp4 : (if w p3.1 p3.2 < w 1 2 then (1, 2) else p3) = p4
  rw [stp p4 1 3 _ (by decide) (by decide) (by decide)]
  generalize hp5 : (if w p4.1 p4.2 < w 1 3 then (1, 3) else p4) = p5
  rw [stp p5 1 4 _ (by decide) (by decide) (by decide)]
  generalize hp6 : (if w p5.1 p5.2 < w 1 4 then (1, 4) else p5) = p6
  rw [rowe _ _ 1 _ (by decide), stp p6 2 3 _ (by decide) (by decide) (by decide)]
  generalize hp7 : (if w p6.1 p6.2 < w 2 3 then (2, 3) else p6) = p7
  rw [stp p7 2 4 _ (by decide) (by decide) (by decide)]
  generalize hp8 : (if w p7.1 p7.2 < w 2 4 then (2, 4) else p7) = p8
  rw [rowe _ _ 2 _ (by decide), stp p8 3 4 _ (by decide) (by decide) (by decide)]
  generalize hp9 : (if w p8.1 p8.2 < w 3 4 then (3, 4) else p8) = p9
  rw [rowe _ _ 3 _ (by decide), fin]
  have : wpf w = p9 := by
    unfold wpf wps
    simp only [List.foldl_cons, List.foldl_nil]
    rw [hp1, hp2, hp3, hp4, hp5, hp6, hp7, hp8, hp9]
  rw [this]
-- which of the two
theorem m_comes (hR : RM T sb bx f) (hB : BK T.2.1 sb bx) {x w kx kw e left : Nat} {g : Nat → Int32} (hx : T.2.1 x = some kx) (hw : T.2.1 w = some kw) (bx1 : bx x = fbx g (T.2.2.1 x)) (bx2 : bx w = fbx g (T.2.2.1 w)) (he : bok0 (g e)) (l1 : 2 ≤ (T.2.2.1 x).length + left) (l2 : 2 ≤ (T.2.2.1 w).length + left) (hl : left ≤ 5) : xM 139 [.ref a, .int (nI x), .int (nI w), .int (e2m (g e)), .int (nI left)] (pM h a (m0 S f)) = some (some (.int (if tof g (T.2.2.1 x) (T.2.2.1 w) e left = true then 1 else 0)), pM h a (m0 S f)) := by
  obtain ⟨x16, -, x2, -, x4, x5, -⟩ := hR.2.2.1 x kx hx
  obtain ⟨w16, -, w2, -, w4, w5, -⟩ := hR.2.2.1 w kw hw
  have ox := hB.2 x kx hx
  have ow := hB.2 w kw hw
  rw [bx1] at x4 ox
  rw [bx2] at w4 ow
  generalize T.2.2.1 x = m1 at *
  generalize T.2.2.1 w = m2 at *
  have c1 : ((2 : Int32) < nI m1.length + nI left) ↔ 2 < m1.length + left := by
    rw [nI_add]; exact nI_ltI (a := 2) (by decide) (by omega)
  have c2 : ((2 : Int32) < nI m2.length + nI left) ↔ 2 < m2.length + left := by
    rw [nI_add]; exact nI_ltI (a := 2) (by decide) (by omega)
  have e26 : xE 139 26 [some (.ref a), some (.int (nI x)), some (.int (nI w)), some (.int (e2m (g e))), some (.int (nI left)), none, none, none] [] (pM h a (m0 S f)) = some (some (.int (if m1.length + left = 2 then 1 else 0)), pM h a (m0 S f)) := by
    rw [xb139_26, ml_gu, m_n2 h a S f (by omega), xcI_some, x2]
    by_cases q : m1.length + left = 2
    · rw [if_neg (fun z => absurd (c1.mp z) (by omega)), if_pos q]
    · rw [if_pos (c1.mpr (by omega)), if_neg q]
  unfold tof
  rw [xb139, ml_gu, m_n2 h a S f (by omega), xcI_some, x2]
  by_cases q1 : m1.length + left = 2
  · rw [if_neg (fun z => absurd (c1.mp z) (by omega)), e26, if_pos q1, if_pos q1, if_pos rfl]
  · rw [if_pos (c1.mpr (by omega)), ml_gu, m_n2 h a S f (by omega), xcI_some, w2, if_neg q1]
    by_cases q2 : m2.length + left = 2
    · rw [if_neg (fun z => absurd (c2.mp z) (by omega)), e26, if_neg q1, if_pos q2, if_neg (by decide)]
    · rw [if_pos (c2.mpr (by omega)), if_neg q2, ml_gu, m_n4 h a S f (by omega), xcI_some, x4, ml_gu, m_n4 h a S f (by omega), xcI_some, w4, m_growth ox he, xcI_some, m_growth ow he, xcI_some]
      dsimp only
      have fold : ∀ d : Int32, (if (!decide (0 < d)) = true then (1 : Int32) else 0) = if 0 < d then 0 else 1 := fun d => by
        by_cases q : 0 < d
        · rw [if_pos q, if_neg (by simp [q])]
        · rw [if_neg q, if_pos (by simp [q])]
      rw [fold]
      by_cases d0 : cgr (fbx g m1) (g e) - cgr (fbx g m2) (g e) = 0
      · rw [if_pos d0, m_area ox, xcI_some, m_area ow, xcI_some, if_pos d0]
        by_cases d1 : bar (fbx g m1) - bar (fbx g m2) = 0
        · rw [if_pos d1, if_pos d1, ml_gu, m_n2 h a S f (by omega), xcI_some, x2, ml_gu, m_n2 h a S f (by omega), xcI_some, w2]
          split <;> rfl
        · rw [if_neg d1, if_neg d1]
          split <;> rfl
      · rw [if_neg d0, if_neg d0, if_neg d0, if_neg d0]
        split <;> rfl
end MH
