/-! The reference's tree: an entry goes, the leaf for a box -/
theorem bar_nI {b : Int32} (hb : bok0 b) : ∃ m, m ≤ 4096 ∧ bar b = nI m := by
  rcases hb with rfl | ⟨l, t, r, c, h1, h2, h3, h4, rfl⟩
  · exact ⟨0, by omega, bar_0⟩
  · refine ⟨(r - l) * (c - t), Nat.le_trans (Nat.mul_le_mul (show r - l ≤ 64 by omega) (show c - t ≤ 64 by omega)) (by decide), ?_⟩
    unfold bar
    rw [bR_nI (by omega) (by omega) (by omega) (by omega), bL_nI (by omega) (by omega) (by omega) (by omega), bB_nI (by omega) (by omega) (by omega) (by omega), bT_nI (by omega) (by omega) (by omega) (by omega), pk_sub (by omega), pk_sub (by omega), pk_mul]
theorem cgr_in {x b : Int32} (hx : bok0 x) (hb : bok0 b) : -10000 ≤ (cgr x b).toInt ∧ (cgr x b).toInt ≤ 10000 := by
  obtain ⟨m, m1, m2⟩ := bar_nI (bok0_un hx hb)
  obtain ⟨n, n1, n2⟩ := bar_nI hx
  unfold cgr
  rw [m2, n2, pk_sub_toInt (by omega) (by omega)]
  omega
theorem i_sub {x y : Int32} (hx : -10000 ≤ x.toInt ∧ x.toInt ≤ 10000) (hy : -10000 ≤ y.toInt ∧ y.toInt ≤ 10000) : (x - y).toInt = x.toInt - y.toInt := by
  rw [Int32.toInt_sub]
  exact Int.bmod_eq_of_le (by omega) (by omega)
theorem i_neg {x y : Int32} (hx : -10000 ≤ x.toInt ∧ x.toInt ≤ 10000) (hy : -10000 ≤ y.toInt ∧ y.toInt ≤ 10000) : x - y < 0 ↔ x < y := by
  rw [Int32.lt_iff_toInt_lt, Int32.lt_iff_toInt_lt, i_sub hx hy, show (0 : Int32).toInt = 0 from by decide]
  omega
theorem i_zero {x y : Int32} (hx : -10000 ≤ x.toInt ∧ x.toInt ≤ 10000) (hy : -10000 ≤ y.toInt ∧ y.toInt ≤ 10000) : x - y = 0 ↔ x = y := by
  rw [← Int32.toInt_inj, ← Int32.toInt_inj, i_sub hx hy, show (0 : Int32).toInt = 0 from by decide]
  omega
section ML
variable {h : xH} {a : Nat} {S : mS} {f : Nat → Int32} {T : tS} {sb bx : Nat → Int32}
def outT (T : tS) (n e : Nat) : tS := (T.1, T.2.1, va_up T.2.2.1 n ((T.2.2.1 n).erase e), T.2.2.2.1, T.2.2.2.2)
theorem er_get {l : List Nat} {e j x : Nat} (hx : (l.erase e)[j]? = some x) : (j < l.idxOf e ∧ l[j]? = some x) ∨ (l.idxOf e ≤ j ∧ l[j + 1]? = some x) := by
  rw [List.erase_eq_eraseIdx_of_idxOf rfl, List.getElem?_eraseIdx] at hx
  by_cases q : j < l.idxOf e
  · rw [if_pos q] at hx; exact Or.inl ⟨q, hx⟩
  · rw [if_neg q] at hx; exact Or.inr ⟨by omega, hx⟩
theorem m_takesOut (hR : RM T sb bx f) {n k e : Nat} (hn : T.2.1 n = some k) (hs : ∀ x, x ∈ T.2.2.1 n → x < 2 ^ 31) (he : e ∈ T.2.2.1 n) :
    ∃ f', xM 135 [.ref a, .int (nI n), .int (nI e)] (pM h a (m0 S f)) = some (none, pM h a (m0 S f')) ∧ RM (outT T n e) sb bx f' ∧ FR f f' := by
  obtain ⟨n16, r1, r2, r3, r4, r5, r6⟩ := hR.2.2.1 n k hn
  have hp := idx_lt he
  have hel := er_len he
  generalize hpg : (T.2.2.1 n).idxOf e = p at hp
  generalize hlg : (T.2.2.1 n).length = len at hp r2 r5 hel
  have loop : ∀ (d i : Nat) (g : Nat → Int32), i + d + 1 = len → p ≤ i → (∀ q, ¬ (64 + 10 * n + (5 + p) ≤ q ∧ q < 64 + 10 * n + (5 + i)) → g q = f q) → (∀ j, p ≤ j → j < i → g (64 + 10 * n + (5 + j)) = f (64 + 10 * n + (5 + (j + 1)))) →
      ∃ g', xE 135 18 [some (.ref a), some (.int (nI n)), some (.int (nI e)), some (.int (nI p)), some (.int (nI len)), some (.int (nI i))] [] (pM h a (m0 S g)) = some (none, pM h a (m0 S (upd g' (64 + 10 * n + 2) (nI (len - 1))))) ∧
        (∀ q, ¬ (64 + 10 * n + (5 + p) ≤ q ∧ q < 64 + 10 * n + (5 + (len - 1))) → g' q = f q) ∧ (∀ j, p ≤ j → j + 1 < len → g' (64 + 10 * n + (5 + j)) = f (64 + 10 * n + (5 + (j + 1)))) := by
    intro d
    induction d with
    | zero =>
      intro i g hi hpi h1 h2
      have hi : i = len - 1 := by omega
      subst hi
      refine ⟨g, ?_, h1, fun j h3 h4 => h2 j h3 (by omega)⟩
      rw [xb135_18, show nI len - 1 = nI (len - 1) by rw [show nI len = nI (len - 1 + 1) by congr 1; omega, nI_pred], if_neg (nI_nlt (Nat.le_refl _) (by omega)), ml_gu, m_t2 h a S g (by omega), xcV_some]
    | succ d ih =>
      intro i g hi hpi h1 h2
      have e1 : (5 + nI i) + 1 = 5 + nI (i + 1) := by
        rw [show (5 : Int32) = nI 5 from rfl, nI_add, nI_1, nI_add]; rfl
      obtain ⟨g', q1, q2, q3⟩ := ih (i + 1) (upd g (64 + 10 * n + (5 + i)) (g (64 + 10 * n + (5 + (i + 1))))) (by omega) (by omega)
        (fun q hq => by
          by_cases e : q = 64 + 10 * n + (5 + i)
          · omega
          · rw [pk_un e]; exact h1 q (by omega))
        (fun j hj1 hj2 => by
          by_cases e : j = i
          · subst e; rw [pk_us]; exact h1 _ (by omega)
          · rw [pk_un (by omega)]; exact h2 j (by omega) (by omega))
      refine ⟨g', ?_, q2, q3⟩
      rw [← q1]
      rw [xb135_18, show nI len - 1 = nI (len - 1) by rw [show nI len = nI (len - 1 + 1) by congr 1; omega, nI_pred], if_pos (nI_lt (by omega) (by omega)), ml_gu, e1, m_nE h a S g (by omega) (by omega), xcI_some, ml_gu, m_tE h a S g (by omega) (by omega), xcV_some, nI_1]
  have hidx := m_indexOf (h := h) (a := a) (S := S) hR hn hs (hs e he)
  rw [hpg] at hidx
  obtain ⟨g, l1, l2, l3⟩ := loop (len - 1 - p) p f (by omega) (Nat.le_refl _) (fun q _ => rfl) (fun j h1 h2 => absurd h2 (by omega))
  refine ⟨_, (by rw [xb135, ml_gu, hidx, xcI_some, ml_gu, m_n2 h a S f (by omega), xcI_some, r2]; exact l1), ?_, ?_⟩
  · have hout : ∀ q, (q < 64 + 10 * n + 5 ∧ q ≠ 64 + 10 * n + 2) ∨ 64 + 10 * n + 10 ≤ q → upd g (64 + 10 * n + 2) (nI (len - 1)) q = f q := fun q h2 => by
      rw [pk_un (by omega)]
      exact l2 q (by omega)
    obtain ⟨t1, t2, t3, t4⟩ := hR
    refine ⟨by rw [hout 304 (by omega)]; exact t1, fun m hm => by rw [hout _ (by omega)]; exact t2 m hm, fun m j hm => ?_, fun s hs hb => by rw [hout _ (by omega)]; exact t4 s hs hb⟩
    obtain ⟨q0, q1, q2, q3, q4, q5, q6⟩ := t3 m j hm
    by_cases em : m = n
    · subst em
      have e0 : (outT T m e).2.2.1 m = (T.2.2.1 m).erase e := up_s _ _ _
      refine ⟨q0, by rw [hout _ (by omega)]; exact q1, ?_, by rw [hout _ (by omega)]; exact q3, by rw [hout _ (by omega)]; exact q4, by rw [e0]; omega, fun i x hx => ?_⟩
      · rw [e0, pk_us]
        congr 1
        omega
      · rw [e0] at hx
        rw [pk_un (by omega)]
        rcases er_get hx with ⟨a1, a2⟩ | ⟨a1, a2⟩
        · have hi : i < (T.2.2.1 m).length := (List.getElem?_eq_some_iff.mp a2).1
          rw [l2 _ (by omega)]
          exact q6 i x a2
        · have hi : i + 1 < (T.2.2.1 m).length := (List.getElem?_eq_some_iff.mp a2).1
          rw [l3 i (by omega) (by omega)]
          exact q6 (i + 1) x a2
    · have e0 : (outT T n e).2.2.1 m = T.2.2.1 m := up_n _ _ em
      refine ⟨q0, by rw [hout _ (by omega)]; exact q1, by rw [e0, hout _ (by omega)]; exact q2, by rw [hout _ (by omega)]; exact q3, by rw [hout _ (by omega)]; exact q4, by rw [e0]; exact q5, fun i x hx => ?_⟩
      rw [e0] at hx
      have hi : i < (T.2.2.1 m).length := (List.getElem?_eq_some_iff.mp hx).1
      rw [hout _ (by omega)]
      exact q6 i x hx
  · intro q hq
    rw [pk_un (by omega)]
    exact l2 q (by omega)
-- the leaf for a box
theorem m_best (hR : RM T sb bx f) (hB : BK T.2.1 sb bx) {n k : Nat} (hn : T.2.1 n = some (k + 1)) (hc : ∀ c, c ∈ T.2.2.1 n → ∃ j, T.2.1 c = some j) {b : Int32} (hb : bok b) : ∀ (d i c : Nat) (l5 l6 l7 : Option Value), i + d = (T.2.2.1 n).length → (∃ j, T.2.1 c = some j) → ∃ l4 l5' l6' l7', xE 137 28 [some (.ref a), some (.int b), some (.int (nI n)), some (.int (nI c)), some (.int (nI i)), l5, l6, l7] [] (pM h a (m0 S f)) = xE 137 9 [some (.ref a), some (.int b), some (.int (nI (((T.2.2.1 n).drop i).foldl (fun x y => if bet b (bx y) (bx x) = true then y else x) c))), some (.int (nI (((T.2.2.1 n).drop i).foldl (fun x y => if bet b (bx y) (bx x) = true then y else x) c))), l4, l5', l6', l7'] [] (pM h a (m0 S f)) := by
  obtain ⟨n16, r1, r2, r3, r4, r5, r6⟩ := hR.2.2.1 n _ hn
  intro d
  induction d with
  | zero =>
    intro i c l5 l6 l7 hi hcj
    refine ⟨some (.int (nI i)), l5, l6, l7, ?_⟩
    rw [xb137_28, ml_gu, m_n2 h a S f (by omega), xcI_some, r2, if_neg (nI_nlt (by omega) (by omega)), List.drop_eq_nil_of_le (by omega), List.foldl_nil]
  | succ d ih =>
    intro i c l5 l6 l7 hi hcj
    have hlt : i < (T.2.2.1 n).length := by omega
    obtain ⟨jy, hy⟩ := hc _ (List.getElem_mem hlt)
    obtain ⟨jc, hcj'⟩ := hcj
    have y16 := RM_lt hR hy
    have c16 := RM_lt hR hcj'
    have by_ok := hB.2 _ _ hy
    have bc_ok := hB.2 _ _ hcj'
    have gy := cgr_in by_ok (Or.inr hb)
    have gc := cgr_in bc_ok (Or.inr hb)
    have my := (hR.2.2.1 _ _ hy).2.2.2.2.1
    have mc := (hR.2.2.1 _ _ hcj').2.2.2.2.1
    have hg : ∀ x, bok0 x → ∀ h : xH, xM 136 [.int (e2m x), .int b] h = some (some (.int (cgr x b)), h) := fun x hx h => by
      have := m_growth hx (Or.inr hb) h
      rw [e2m_ok hb] at this
      exact this
    rw [xb137_28, ml_gu, m_n2 h a S f (by omega), xcI_some, r2, if_pos (nI_lt hlt (by omega)), ml_gu, m_nE h a S f (by omega) (by omega), xcI_some, r6 i _ (List.getElem?_eq_getElem hlt), ml_gu, m_n4 h a S f (by omega), xcI_some, my, hg _ by_ok, xcI_some, ml_gu, m_n4 h a S f (by omega), xcI_some, mc, hg _ bc_ok, xcI_some]
    rw [List.drop_eq_getElem_cons hlt, List.foldl_cons]
    generalize (T.2.2.1 n)[i] = y at hy y16 by_ok gy my ⊢
    by_cases c1 : cgr (bx y) b < cgr (bx c) b
    · rw [if_pos ((i_neg gy gc).mpr c1), xb137_106, if_neg (show ¬ (1 : Nat) = 0 by decide), nI_1, if_pos (show bet b (bx y) (bx c) = true by unfold bet; simp [c1])]
      exact ih (i + 1) y _ _ _ (by omega) ⟨jy, hy⟩
    · rw [if_neg (fun q => c1 ((i_neg gy gc).mp q))]
      by_cases c2 : cgr (bx y) b = cgr (bx c) b
      · rw [if_pos ((i_zero gy gc).mpr c2), ml_gu, m_n4 h a S f (by omega), xcI_some, my, m_area by_ok, xcI_some, ml_gu, m_n4 h a S f (by omega), xcI_some, mc, m_area bc_ok, xcI_some]
        by_cases c3 : bar (bx y) < bar (bx c)
        · rw [if_pos c3, xb137_106, if_neg (show ¬ (1 : Nat) = 0 by decide), nI_1, if_pos (show bet b (bx y) (bx c) = true by unfold bet; simp [c2, c3])]
          exact ih (i + 1) y _ _ _ (by omega) ⟨jy, hy⟩
        · rw [if_neg c3, xb137_110, if_pos rfl, nI_1, if_neg (show ¬ bet b (bx y) (bx c) = true by unfold bet; simp [c1, c3])]
          exact ih (i + 1) c _ _ _ (by omega) ⟨jc, hcj'⟩
      · rw [if_neg (fun q => c2 ((i_zero gy gc).mp q)), xb137_110, if_pos rfl, nI_1, if_neg (show ¬ bet b (bx y) (bx c) = true by unfold bet; simp [c1, c2])]
        exact ih (i + 1) c _ _ _ (by omega) ⟨jc, hcj'⟩
theorem m_desc {I : Nat → Prop} (hI : INVt T I) (hL : LBt T) (hR : RM T sb bx f) (hB : BK T.2.1 sb bx) {b : Int32} (hb : bok b) : ∀ (k n : Nat) (l3 l4 l5 l6 l7 : Option Value), T.2.1 n = some k → xE 137 9 [some (.ref a), some (.int b), some (.int (nI n)), l3, l4, l5, l6, l7] [] (pM h a (m0 S f)) = some (some (.int (nI (dsc T.2.2.1 bx b k n))), pM h a (m0 S f)) := by
  intro k
  induction k with
  | zero =>
    intro n l3 l4 l5 l6 l7 hn
    obtain ⟨n16, r1, -⟩ := hR.2.2.1 n _ hn
    rw [xb137_9, ml_gu, m_n1 h a S f (by omega), xcI_some, r1, if_pos rfl, if_neg (show ¬ (1 : Int32) = 0 by decide)]
    rfl
  | succ k ih =>
    intro n l3 l4 l5 l6 l7 hn
    obtain ⟨n16, r1, r2, r3, r4, r5, r6⟩ := hR.2.2.1 n _ hn
    have hne := LB_ne hL hn
    obtain ⟨e, r, her⟩ : ∃ e r, T.2.2.1 n = e :: r := by
      cases hq : T.2.2.1 n with
      | nil => exact absurd hq hne
      | cons e r => exact ⟨e, r, rfl⟩
    have hcc : ∀ c, c ∈ T.2.2.1 n → ∃ j, T.2.1 c = some j := fun c hc => ⟨k, (hI.2.2.2.1 n k c hn hc).1⟩
    obtain ⟨l4', l5', l6', l7', hbst⟩ := m_best (h := h) (a := a) (S := S) hR hB hn hcc hb ((T.2.2.1 n).length - 1) 1 e l5 l6 l7 (by rw [her, List.length_cons]; omega) (hcc e (by rw [her]; exact List.mem_cons_self))
    rw [xb137_9, ml_gu, m_n1 h a S f (by omega), xcI_some, r1, if_neg (show ¬ k + 1 = 0 by omega), if_pos rfl, ml_gu, m_n5 h a S f (by omega), xcI_some, r6 0 e (by rw [her]; rfl)]
    refine hbst.trans ?_
    have hb' : ((T.2.2.1 n).drop 1).foldl (fun x y => if bet b (bx y) (bx x) = true then y else x) e = bestc bx b (T.2.2.1 n) := by rw [her]; rfl
    rw [hb']
    show _ = some (some (Value.int (nI (dsc T.2.2.1 bx b k (bestc bx b (T.2.2.1 n))))), _)
    exact ih _ _ _ _ _ _ (hI.2.2.2.1 n k _ hn (bestc_mem bx b hne)).1
theorem dsc_congr {I : Nat → Prop} (hI : INVt T I) (hL : LBt T) {g g' : Nat → Int32} (b : Int32) (hg : ∀ n k, T.2.1 n = some k → g n = g' n) : ∀ (k n : Nat), T.2.1 n = some k → dsc T.2.2.1 g b k n = dsc T.2.2.1 g' b k n := by
  intro k
  induction k with
  | zero => exact fun _ _ => rfl
  | succ k ih =>
    intro n hn
    have e : bestc g b (T.2.2.1 n) = bestc g' b (T.2.2.1 n) := bestc_congr fun c hc => hg c k (hI.2.2.2.1 n k c hn hc).1
    show dsc T.2.2.1 g b k (bestc g b (T.2.2.1 n)) = dsc T.2.2.1 g' b k (bestc g' b (T.2.2.1 n))
    rw [e]
    exact ih _ (hI.2.2.2.1 n k _ hn (bestc_mem g' b (LB_ne hL hn))).1
theorem m_leafFor {I : Nat → Prop} (hI : INVt T I) (hL : LBt T) (hR : RM T sb bx f) (hB : BK T.2.1 sb bx) (hc : ∀ n j, T.2.1 n = some j → Con T.2.1 T.2.2.1 sb bx n) {s : Nat} (hb : bok (sb s)) : xM 137 [.ref a, .int (sb s)] (pM h a (m0 S f)) = some (some (.int (nI (lfT sb T s))), pM h a (m0 S f)) := by
  obtain ⟨⟨r, hr, hr16, -⟩, -⟩ := id hI
  rw [xb137, ml_f0, Option.bind_some, show (304 : Int32) = nI 304 from rfl, m_r0 h a S f (by decide), Option.bind_some, hR.1, m_desc hI hL hR hB hb r T.1 _ _ _ _ _ hr]
  unfold lfT
  rw [hr]
  show _ = some (some (Value.int (nI (dsc T.2.2.1 (bxT T.2.1 T.2.2.1 sb) (sb s) r T.1))), _)
  rw [dsc_congr hI hL (sb s) (g := bx) (g' := bxT T.2.1 T.2.2.1 sb) (fun n k hn => (bxT_eq hI (K := k + 1) (fun m j hm _ => hc m j hm) hn (by omega)).symm) r T.1 hr]
end ML
