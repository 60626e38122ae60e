/-! Texts: the reference follows the same machine -/
section TACC
variable (h : xH) (a : Nat) (S : mS) (f : Nat → Int32)
theorem a_r5 {i : Nat} (hi : i < 120) : xri (pM h a (m0 S f)) 0 (a + 5) (nI i) = some (S.1 5 i) := by
  rw [ml_r5, xin_nI hi (by decide), cond_true, nI_clamp (by omega), m0_n _ _ (by decide)]
theorem a_w5 {i : Nat} (hi : i < 120) (v : Int32) : xwi (pM h a (m0 S f)) 0 (a + 5) (nI i) v = some (pM h a (m0 (sA S 5 (upd (S.1 5) i v)) f)) := by
  rw [ml_w5, xin_nI hi (by decide), cond_true, nI_clamp (by omega), m0_n _ _ (by decide), m0_sA _ _ _ (by decide)]
theorem a_r19 {i : Nat} (hi : i < 60) : xri (pM h a (m0 S f)) 0 (a + 15) (nI i) = some (S.1 19 i) := by
  rw [ml_r19, xin_nI hi (by decide), cond_true, nI_clamp (by omega), m0_n _ _ (by decide)]
theorem a_w19 {i : Nat} (hi : i < 60) (v : Int32) : xwi (pM h a (m0 S f)) 0 (a + 15) (nI i) v = some (pM h a (m0 (sA S 19 (upd (S.1 19) i v)) f)) := by
  rw [ml_w19, xin_nI hi (by decide), cond_true, nI_clamp (by omega), m0_n _ _ (by decide), m0_sA _ _ _ (by decide)]
theorem a_r20 {i : Nat} (hi : i < 300) : xri (pM h a (m0 S f)) 0 (a + 16) (nI i) = some (S.1 20 i) := by
  rw [ml_r20, xin_nI hi (by decide), cond_true, nI_clamp (by omega), m0_n _ _ (by decide)]
theorem a_w20 {i : Nat} (hi : i < 300) (v : Int32) : xwi (pM h a (m0 S f)) 0 (a + 16) (nI i) v = some (pM h a (m0 (sA S 20 (upd (S.1 20) i v)) f)) := by
  rw [ml_w20, xin_nI hi (by decide), cond_true, nI_clamp (by omega), m0_n _ _ (by decide), m0_sA _ _ _ (by decide)]
theorem a_i6 : xfI (pM h a (m0 S f)) a 5 6 = some (S.2.1 6) := ml_i6 ..
theorem a_i3 : xfI (pM h a (m0 S f)) a 5 3 = some (S.2.1 3) := ml_i3 ..
theorem a_i21 : xfI (pM h a (m0 S f)) a 5 21 = some (S.2.1 21) := ml_i21 ..
theorem a_i22 : xfI (pM h a (m0 S f)) a 5 22 = some (S.2.1 22) := ml_i22 ..
theorem a_i23 : xfI (pM h a (m0 S f)) a 5 23 = some (S.2.1 23) := ml_i23 ..
theorem a_p3 (v : Int32) : xpf (pM h a (m0 S f)) a 5 3 (.int v) = some (pM h a (m0 (sI S 3 v) f)) := ml_p3 ..
theorem a_p6 (v : Int32) : xpf (pM h a (m0 S f)) a 5 6 (.int v) = some (pM h a (m0 (sI S 6 v) f)) := ml_p6 ..
theorem a_p21 (v : Int32) : xpf (pM h a (m0 S f)) a 5 21 (.int v) = some (pM h a (m0 (sI S 21 v) f)) := ml_p21 ..
theorem a_p22 (v : Int32) : xpf (pM h a (m0 S f)) a 5 22 (.int v) = some (pM h a (m0 (sI S 22 v) f)) := ml_p22 ..
theorem a_p23 (v : Int32) : xpf (pM h a (m0 S f)) a 5 23 (.int v) = some (pM h a (m0 (sI S 23 v) f)) := ml_p23 ..
end TACC
/-- the text is there -/
def RT (tx : Nat → Int32) (n : Nat) (S : mS) : Prop := S.2.1 6 = nI n ∧ ∀ i, i < n → S.1 5 i = tx i
/-- what reading may change -/
def KT (S S' : mS) : Prop := (∀ k, k ≠ 19 → k ≠ 20 → S'.1 k = S.1 k) ∧ ∀ k, k ≠ 21 → k ≠ 22 → k ≠ 23 → S'.2.1 k = S.2.1 k
theorem KT_rf (S : mS) : KT S S := ⟨fun _ _ _ => rfl, fun _ _ _ _ => rfl⟩
theorem KT_tr {S S' S'' : mS} (h1 : KT S S') (h2 : KT S' S'') : KT S S'' := ⟨fun k a b => (h2.1 k a b).trans (h1.1 k a b), fun k a b c => (h2.2 k a b c).trans (h1.2 k a b c)⟩
theorem KT_I (S : mS) {k : Nat} (v : Int32) (hk : k = 21 ∨ k = 22 ∨ k = 23) : KT S (sI S k v) := ⟨fun _ _ _ => rfl, fun j a b c => sI_n S v (by omega)⟩
theorem KT_A (S : mS) {k : Nat} (g : Nat → Int32) (hk : k = 19 ∨ k = 20) : KT S (sA S k g) := ⟨fun j a b => sA_n S g (by omega), fun _ _ _ _ => rfl⟩
theorem RT_KT {tx : Nat → Int32} {n : Nat} {S S' : mS} (hR : RT tx n S) (hk : KT S S') : RT tx n S' := ⟨by rw [hk.2 6 (by decide) (by decide) (by decide)]; exact hR.1, fun i hi => by rw [hk.1 5 (by decide) (by decide)]; exact hR.2 i hi⟩
def isD (c : Int32) : Prop := 48 ≤ c ∧ c ≤ 57
section MTX
variable {h : xH} {a : Nat} {f : Nat → Int32} {tx : Nat → Int32} {n : Nat}
theorem rn_s {d i : Nat} {P P' : pP} (hs : pstep P (tx i) = some P') : rn tx n (d + 1) i P = rn tx n d (i + 1) P' := by
  show (match pstep P (tx i) with | none => _ | some P' => _) = _
  rw [hs]
theorem rn_n {d i : Nat} {P : pP} (hs : pstep P (tx i) = none) : rn tx n (d + 1) i P = .inl i := by
  show (match pstep P (tx i) with | none => _ | some P' => _) = _
  rw [hs]
theorem pstep_dg {D : List (Int32 × List Int32)} {cur : Option (Int32 × List Int32 × Nat)} {c : Int32} (hc : ¬ isD c) (dg dg' : Nat) : pstep (D, cur, dg) c = pstep (D, cur, dg') c := by
  have hc' : ¬ (48 ≤ c ∧ c ≤ 57) := hc
  unfold pstep
  rw [if_neg hc', if_neg hc']
  rfl
theorem rn_dg {i : Nat} {D : List (Int32 × List Int32)} {cur : Option (Int32 × List Int32 × Nat)} (hi : i ≤ n) (hc : i < n → ¬ isD (tx i)) (dg : Nat) : rn tx n (n - i) i (D, cur, dg) = rn tx n (n - i) i (D, cur, 0) := by
  by_cases e : i = n
  · subst e
    rw [Nat.sub_self]
    rfl
  · obtain ⟨d, hd⟩ : ∃ d, n - i = d + 1 := ⟨n - i - 1, by omega⟩
    rw [hd]
    show (match pstep (D, cur, dg) (tx i) with | none => _ | some P' => _) = (match pstep (D, cur, 0) (tx i) with | none => _ | some P' => _)
    rw [pstep_dg (hc (by omega)) dg 0]
theorem m_isAt {S : mS} (hn : n ≤ 120) (hT : RT tx n S) {i : Nat} (hi : i ≤ n) (hs : S.2.1 22 = nI i) (lo hj : Int32) : (i < n ∧ lo ≤ tx i ∧ tx i ≤ hj ∧ xM 184 [.ref a, .int lo, .int hj] (pM h a (m0 S f)) = some (some (.int 1), pM h a (m0 S f))) ∨ ((i < n → ¬ (lo ≤ tx i ∧ tx i ≤ hj)) ∧ xM 184 [.ref a, .int lo, .int hj] (pM h a (m0 S f)) = some (some (.int 0), pM h a (m0 S f))) := by
  rw [xb184, a_i22, Option.bind_some, a_i6, Option.bind_some, hs, hT.1]
  by_cases c : i < n
  · rw [if_pos (nI_lt c (by omega)), ml_f5, Option.bind_some, Option.bind_some, a_r5 h a S f (by omega), Option.bind_some, hT.2 i c]
    by_cases c2 : lo ≤ tx i ∧ tx i ≤ hj
    · rw [m_in_y c2.1 c2.2, xcI_some, if_neg one_ne]
      exact Or.inl ⟨c, c2.1, c2.2, rfl⟩
    · rw [m_in_n c2, xcI_some, if_pos rfl]
      exact Or.inr ⟨fun _ => c2, rfl⟩
  · rw [if_neg (nI_nlt (by omega) (by omega))]
    exact Or.inr ⟨fun q => absurd q c, rfl⟩
theorem sI_sI (S : mS) (k : Nat) (v w : Int32) : sI (sI S k v) k w = sI S k w := by
  unfold sI
  dsimp only
  rw [bx_uu]
theorem sI_id {S : mS} {k : Nat} {v : Int32} (hv : S.2.1 k = v) : sI S k v = S := by
  refine Prod.ext rfl (Prod.ext ?_ rfl)
  funext j
  show va_up S.2.1 k v j = S.2.1 j
  by_cases q : j = k
  · subst q; rw [up_s, hv]
  · exact up_n _ _ q
theorem m_blanks (hn : n ≤ 120) : ∀ (d i : Nat) (S : mS), i + d = n → RT tx n S → S.2.1 22 = nI i → ∃ j, i ≤ j ∧ j ≤ n ∧ xM 185 [.ref a] (pM h a (m0 S f)) = some (none, pM h a (m0 (sI S 22 (nI j)) f)) ∧ (j < n → tx j ≠ 32) ∧ ∀ D cur, rn tx n (n - i) i (D, cur, 0) = rn tx n (n - j) j (D, cur, 0) := by
  intro d
  induction d with
  | zero =>
    intro i S hi hT hs
    have hi : i = n := by omega
    refine ⟨i, Nat.le_refl _, by omega, ?_, fun q => by omega, fun _ _ => rfl⟩
    rw [xb185, xb185_0, ml_gu]
    rcases m_isAt (h := h) (a := a) (f := f) hn hT (by omega) hs 32 32 with ⟨q, -⟩ | ⟨-, q⟩
    · omega
    · rw [q, xcI_some, if_pos rfl, sI_id hs]
  | succ d ih =>
    intro i S hi hT hs
    rcases m_isAt (h := h) (a := a) (f := f) hn hT (by omega) hs 32 32 with ⟨q1, q2, q3, q4⟩ | ⟨q1, q2⟩
    · have e32 : tx i = 32 := Int32.le_antisymm q3 q2
      obtain ⟨j, j1, j2, j3, j4, j5⟩ := ih (i + 1) (sI S 22 (nI (i + 1))) (by omega) (RT_KT hT (KT_I S _ (Or.inr (Or.inl rfl)))) (sI_s _ _ _)
      rw [sI_sI] at j3
      refine ⟨j, by omega, j2, ?_, j4, fun D cur => ?_⟩
      · rw [xb185, xb185_0, ml_gu, q4, xcI_some, if_neg one_ne, a_i22, Option.bind_some, hs, nI_1, a_p22, Option.bind_some]
        rw [xb185] at j3
        exact j3
      · rw [show n - i = (n - (i + 1)) + 1 by omega, rn_s (P' := (D, cur, 0)), j5]
        unfold pstep
        rw [e32, if_neg (by decide), if_pos rfl]
    · refine ⟨i, Nat.le_refl _, by omega, ?_, fun q e => q1 q ⟨by rw [e]; exact Int32.le_refl _, by rw [e]; exact Int32.le_refl _⟩, fun _ _ => rfl⟩
      rw [xb185, xb185_0, ml_gu, q2, xcI_some, if_pos rfl, sI_id hs]
theorem m_fails (S : mS) : xM 186 [.ref a] (pM h a (m0 S f)) = some (some (.int 0), pM h a (m0 (sI S 23 (S.2.1 22)) f)) := by
  rw [xb186, a_i22, Option.bind_some, a_p23, Option.bind_some]
theorem digI (v c : Int32) : ((10 * v) + c) - 48 = 10 * v + (c - 48) := by
  rw [Int32.sub_eq_add_neg, Int32.sub_eq_add_neg, Int32.add_assoc]
theorem dig0 (c : Int32) : ((10 * 0) + c) - 48 = c - 48 := by
  rw [show (10 * 0 : Int32) = 0 by decide, Int32.zero_add]
theorem m_takesNumber (hn : n ≤ 120) {i t w : Nat} {S : mS} (hi : i ≤ n) (ht : t < 300) (hT : RT tx n S) (hs : S.2.1 22 = nI i) (D : List (Int32 × List Int32)) (l : Int32) (ns : List Int32) :
    (∃ j v S', i < j ∧ j ≤ n ∧ xM 188 [.ref a, .int (nI t)] (pM h a (m0 S f)) = some (some (.int 1), pM h a (m0 S' f)) ∧ KT S S' ∧ S'.2.1 22 = nI j ∧ S'.2.1 21 = S.2.1 21 ∧ S'.1 19 = S.1 19 ∧ S'.1 20 = upd (S.1 20) t v ∧ rn tx n (n - i) i (D, some (l, ns, w + 1), 0) = rn tx n (n - j) j (D, some (l, ns ++ [v], w), 0)) ∨ (∃ p S', p ≤ n ∧ xM 188 [.ref a, .int (nI t)] (pM h a (m0 S f)) = some (some (.int 0), pM h a (m0 S' f)) ∧ KT S S' ∧ S'.2.1 23 = nI p ∧ rn tx n (n - i) i (D, some (l, ns, w + 1), 0) = .inl p) := by
  obtain ⟨j, j1, j2, j3, j4, j5⟩ := m_blanks (h := h) (a := a) (f := f) hn (n - i) i S (by omega) hT hs
  have j5' := j5 D (some (l, ns, w + 1))
  have hx0 : ∀ hh : xH, (bif xbz 0 then some (some (Value.int 0), hh) else none : Option xR) = some (some (.int 0), hh) := fun hh => rfl
  have hTj : ∀ k, RT tx n (sI S 22 (nI k)) := fun k => RT_KT hT (KT_I S _ (Or.inr (Or.inl rfl)))
  have hsj : ∀ k, (sI S 22 (nI k)).2.1 22 = nI k := fun k => sI_s _ _ _
  have hstart : xM 188 [.ref a, .int (nI t)] (pM h a (m0 S f)) = xE 188 11 [some (.ref a), some (.int (nI t)), some (.int (nI j)), some (.int 0)] [] (pM h a (m0 (sI S 22 (nI j)) f)) := by
    rw [xb188, ml_gu, j3, xcV_some, a_i22, Option.bind_some, hsj]
  -- the number ends at k > j
  have stop : ∀ (k : Nat) (v : Int32), j < k → k ≤ n → xM 184 [.ref a, .int 48, .int 57] (pM h a (m0 (sI S 22 (nI k)) f)) = some (some (.int 0), pM h a (m0 (sI S 22 (nI k)) f)) → xE 188 11 [some (.ref a), some (.int (nI t)), some (.int (nI j)), some (.int v)] [] (pM h a (m0 (sI S 22 (nI k)) f)) = some (some (.int 1), pM h a (m0 (sA (sI S 22 (nI k)) 20 (upd (S.1 20) t v)) f)) := fun k v hk hkn hat => by
    rw [xb188_11, ml_gu, hat, xcI_some, if_pos rfl, ml_f20, Option.bind_some, a_w20 h a _ f ht, Option.bind_some, a_i22, Option.bind_some, sA_2, hsj, if_pos (nI_lt hk (by omega))]
    rfl
  have fin : ∀ (k : Nat) (v : Int32), KT S (sA (sI S 22 (nI k)) 20 (upd (S.1 20) t v)) ∧ (sA (sI S 22 (nI k)) 20 (upd (S.1 20) t v)).2.1 22 = nI k ∧ (sA (sI S 22 (nI k)) 20 (upd (S.1 20) t v)).2.1 21 = S.2.1 21 ∧ (sA (sI S 22 (nI k)) 20 (upd (S.1 20) t v)).1 19 = S.1 19 ∧ (sA (sI S 22 (nI k)) 20 (upd (S.1 20) t v)).1 20 = upd (S.1 20) t v := fun k v => ⟨KT_tr (KT_I S _ (Or.inr (Or.inl rfl))) (KT_A _ _ (Or.inr rfl)), sI_s _ _ _, by rw [sA_2]; exact sI_n _ _ (by decide), by rw [sA_n _ _ (by decide)]; rfl, sA_s _ _ _⟩
  rw [hstart]
  rcases m_isAt (h := h) (a := a) (f := f) hn (hTj j) j2 (hsj j) 48 57 with ⟨q1, q2, q3, q4⟩ | ⟨q1, q2⟩
  · -- a digit
    have s1 : pstep (D, some (l, ns, w + 1), 0) (tx j) = some (D, some (l, ns ++ [tx j - 48], w), 1) := by
      unfold pstep
      rw [if_pos ⟨q2, q3⟩]
      unfold pdig
      dsimp only
      rw [if_neg (by decide), if_pos ⟨rfl, Nat.succ_pos w⟩]
      rfl
    have r1 : rn tx n (n - i) i (D, some (l, ns, w + 1), 0) = rn tx n (n - (j + 1)) (j + 1) (D, some (l, ns ++ [tx j - 48], w), 1) := by
      rw [j5', show n - j = (n - (j + 1)) + 1 by omega, rn_s s1]
    have go1 : xE 188 11 [some (.ref a), some (.int (nI t)), some (.int (nI j)), some (.int 0)] [] (pM h a (m0 (sI S 22 (nI j)) f)) = xE 188 11 [some (.ref a), some (.int (nI t)), some (.int (nI j)), some (.int (tx j - 48))] [] (pM h a (m0 (sI S 22 (nI (j + 1))) f)) := by
      rw [xb188_11, ml_gu, q4, xcI_some, if_neg one_ne, a_i22, Option.bind_some, hsj, if_neg (show ¬ nI j = nI j + 2 from fun z => by
        have : nI j = nI (j + 2) := z.trans (nI_add j 2)
        have := nI_inj (by omega) (by omega) this
        omega), ml_f5, Option.bind_some, Option.bind_some, a_r5 h a _ f (by omega), Option.bind_some, (hTj j).2 j q1, Option.bind_some, nI_1, a_p22, Option.bind_some, sI_sI, dig0]
    rw [go1]
    rcases m_isAt (h := h) (a := a) (f := f) hn (hTj (j + 1)) (by omega) (hsj (j + 1)) 48 57 with ⟨u1, u2, u3, u4⟩ | ⟨u1, u2⟩
    · have s2 : pstep (D, some (l, ns ++ [tx j - 48], w), 1) (tx (j + 1)) = some (D, some (l, ns ++ [10 * (tx j - 48) + (tx (j + 1) - 48)], w), 2) := by
        unfold pstep
        rw [if_pos ⟨u2, u3⟩]
        unfold pdig
        dsimp only
        rw [if_pos rfl, List.dropLast_concat, List.getLastD_concat]
      have r2 : rn tx n (n - i) i (D, some (l, ns, w + 1), 0) = rn tx n (n - (j + 2)) (j + 2) (D, some (l, ns ++ [10 * (tx j - 48) + (tx (j + 1) - 48)], w), 2) := by
        rw [r1, show n - (j + 1) = (n - (j + 2)) + 1 by omega, rn_s s2]
      have go2 : xE 188 11 [some (.ref a), some (.int (nI t)), some (.int (nI j)), some (.int (tx j - 48))] [] (pM h a (m0 (sI S 22 (nI (j + 1))) f)) = xE 188 11 [some (.ref a), some (.int (nI t)), some (.int (nI j)), some (.int (10 * (tx j - 48) + (tx (j + 1) - 48)))] [] (pM h a (m0 (sI S 22 (nI (j + 2))) f)) := by
        rw [xb188_11, ml_gu, u4, xcI_some, if_neg one_ne, a_i22, Option.bind_some, hsj, if_neg (show ¬ nI (j + 1) = nI j + 2 from fun z => by
          have : nI (j + 1) = nI (j + 2) := z.trans (nI_add j 2)
          have := nI_inj (by omega) (by omega) this
          omega), ml_f5, Option.bind_some, Option.bind_some, a_r5 h a _ f (by omega), Option.bind_some, (hTj (j + 1)).2 (j + 1) u1, Option.bind_some, nI_1, a_p22, Option.bind_some, sI_sI, digI]
      rw [go2]
      rcases m_isAt (h := h) (a := a) (f := f) hn (hTj (j + 2)) (by omega) (hsj (j + 2)) 48 57 with ⟨v1, v2, v3, v4⟩ | ⟨v1, v2⟩
      · refine Or.inr ⟨j + 2, sI (sI S 22 (nI (j + 2))) 23 (nI (j + 2)), by omega, ?_, KT_tr (KT_I S _ (Or.inr (Or.inl rfl))) (KT_I _ _ (Or.inr (Or.inr rfl))), sI_s _ _ _, ?_⟩
        · rw [xb188_11, ml_gu, v4, xcI_some, if_neg one_ne, a_i22, Option.bind_some, hsj, if_pos (show nI (j + 2) = nI j + 2 from (nI_add j 2).symm), ml_gu, m_fails, xcI_some, hx0, hsj]
        · rw [r2, show n - (j + 2) = (n - (j + 3)) + 1 by omega, rn_n]
          unfold pstep
          rw [if_pos ⟨v2, v3⟩]
          unfold pdig
          dsimp only
          rw [if_neg (by decide), if_neg (fun z => absurd z.1 (by decide))]
      · refine Or.inl ⟨j + 2, 10 * (tx j - 48) + (tx (j + 1) - 48), _, by omega, by omega, stop (j + 2) _ (by omega) (by omega) v2, (fin _ _).1, (fin _ _).2.1, (fin _ _).2.2.1, (fin _ _).2.2.2.1, (fin _ _).2.2.2.2, ?_⟩
        rw [r2, rn_dg (by omega) (fun q => v1 q)]
    · refine Or.inl ⟨j + 1, tx j - 48, _, by omega, by omega, stop (j + 1) _ (by omega) (by omega) u2, (fin _ _).1, (fin _ _).2.1, (fin _ _).2.2.1, (fin _ _).2.2.2.1, (fin _ _).2.2.2.2, ?_⟩
      rw [r1, rn_dg (by omega) (fun q => u1 q)]
  · -- none
    refine Or.inr ⟨j, sI (sA (sI S 22 (nI j)) 20 (upd (S.1 20) t 0)) 23 (nI j), j2, ?_, KT_tr (fin j 0).1 (KT_I _ _ (Or.inr (Or.inr rfl))), sI_s _ _ _, ?_⟩
    · rw [xb188_11, ml_gu, q2, xcI_some, if_pos rfl, ml_f20, Option.bind_some, a_w20 h a _ f ht, Option.bind_some, a_i22, Option.bind_some, sA_2, hsj, if_neg (nI_nlt (Nat.le_refl _) (by omega)), ml_gu, m_fails, xcI_some, if_pos rfl, sA_2, hsj]
      rfl
    · rw [j5']
      by_cases e : j = n
      · subst e; rw [Nat.sub_self]; rfl
      · rw [show n - j = (n - (j + 1)) + 1 by omega, rn_n]
        unfold pstep
        rw [if_neg (q1 (by omega)), if_neg (j4 (by omega))]
        by_cases c : tx j = 59
        · rw [if_pos c]
          unfold pend
          dsimp only
          rw [if_neg (Nat.succ_ne_zero w)]
        · rw [if_neg c]
          rfl
/-- the numbers of the orders -/
def RNu (D : List (Int32 × List Int32)) (g : Nat → Int32) : Prop := ∀ k o j v, D[k]? = some o → o.2[j]? = some v → g (5 * k + j) = v
theorem many_sp {c : Int32} {m : Nat} (hm : manyN c = some m) : ¬ isD c ∧ c ≠ 32 ∧ c ≠ 59 := by
  unfold manyN at hm
  unfold isD
  repeat' (split at hm)
  all_goals first | (cases hm; done) | (rename_i e; subst e; exact ⟨by decide, by decide, by decide⟩)
theorem m_manyOf (c : Int32) (hp : xH) : xM 187 [.int c] hp = some (some (.int (match manyN c with | none => -1 | some m => nI m)), hp) := by
  rw [xb187]
  unfold manyN
  repeat' split
  all_goals first | rfl | contradiction | (rename_i e; injection e with e; subst e; rfl)
theorem m_nums (hn : n ≤ 120) (D : List (Int32 × List Int32)) (hD : D.length < 60) (h5 : ∀ o, o ∈ D → o.2.length ≤ 5) (c : Int32) {m : Nat} (hm5 : m ≤ 5) : ∀ (d k i : Nat) (ns : List Int32) (S : mS), k + d = m → ns.length = k → i ≤ n → RT tx n S → S.2.1 22 = nI i → S.2.1 21 = nI D.length → RNu D (S.1 20) → (∀ j v, ns[j]? = some v → S.1 20 (5 * D.length + j) = v) →
    (∃ j ns' S', i + d ≤ j ∧ j ≤ n ∧ xE 189 47 [some (.ref a), some (.int c), some (.int (nI m)), some (.int (nI k))] [] (pM h a (m0 S f)) = xE 189 47 [some (.ref a), some (.int c), some (.int (nI m)), some (.int (nI m))] [] (pM h a (m0 S' f)) ∧ KT S S' ∧ S'.2.1 22 = nI j ∧ S'.2.1 21 = S.2.1 21 ∧ S'.1 19 = S.1 19 ∧ ns'.length = m ∧ RNu D (S'.1 20) ∧ (∀ j v, ns'[j]? = some v → S'.1 20 (5 * D.length + j) = v) ∧ rn tx n (n - i) i (D, some (c, ns, d), 0) = rn tx n (n - j) j (D, some (c, ns', 0), 0)) ∨ (∃ p S', p ≤ n ∧ xE 189 47 [some (.ref a), some (.int c), some (.int (nI m)), some (.int (nI k))] [] (pM h a (m0 S f)) = some (some (.int 0), pM h a (m0 S' f)) ∧ KT S S' ∧ S'.2.1 23 = nI p ∧ rn tx n (n - i) i (D, some (c, ns, d), 0) = .inl p) := by
  intro d
  induction d with
  | zero =>
    intro k i ns S hk hl hi hT hs h21 hN hC
    have hk : k = m := by omega
    subst hk
    exact Or.inl ⟨i, ns, S, by omega, hi, rfl, KT_rf S, hs, rfl, rfl, hl, hN, hC, rfl⟩
  | succ d ih =>
    intro k i ns S hk hl hi hT hs h21 hN hC
    have hto : (5 : Int32) * nI D.length + nI k = nI (5 * D.length + k) := by rw [show (5 : Int32) = nI 5 from rfl, pk_mul, nI_add]
    have hst : xE 189 47 [some (.ref a), some (.int c), some (.int (nI m)), some (.int (nI k))] [] (pM h a (m0 S f)) = xcI (xM 188 [.ref a, .int (nI (5 * D.length + k))] (pM h a (m0 S f))) fun v3 h2 => if v3 = 0 then some (some (.int 0), h2) else xE 189 47 [some (.ref a), some (.int c), some (.int (nI m)), some (.int (nI (k + 1)))] [] h2 := by
      rw [xb189_47, if_pos (nI_lt (by omega) (by omega)), a_i21, Option.bind_some, h21, hto, ml_gu, nI_1]
    rw [hst]
    rcases m_takesNumber (h := h) (a := a) (f := f) hn (i := i) (t := 5 * D.length + k) (w := d) hi (by omega) hT hs D c ns with ⟨j, v, S1, y1, y2, y3, y4, y5, y6, y7, y8, y9⟩ | ⟨p, S1, y1, y2, y3, y4, y5⟩
    · have hN1 : RNu D (S1.1 20) := fun k' o j' v' q1 q2 => by
        have hk' := (List.getElem?_eq_some_iff.mp q1).1
        have hj' := (List.getElem?_eq_some_iff.mp q2).1
        have := h5 o (List.mem_of_getElem? q1)
        rw [y8, pk_un (by omega)]; exact hN k' o j' v' q1 q2
      have hC1 : ∀ j' v', (ns ++ [v])[j']? = some v' → S1.1 20 (5 * D.length + j') = v' := fun j' v' q => by
        have hj' := (List.getElem?_eq_some_iff.mp q).1
        rw [List.length_append, List.length_singleton] at hj'
        rw [y8]
        by_cases e : j' = k
        · subst e
          rw [pk_us]
          rw [List.getElem?_append_right (by omega), hl, Nat.sub_self] at q
          exact Option.some.inj q
        · rw [pk_un (by omega)]
          rw [List.getElem?_append_left (by omega)] at q
          exact hC j' v' q
      rw [y3, xcI_some, if_neg one_ne, y9]
      rcases ih (k + 1) j (ns ++ [v]) S1 (by omega) (by rw [List.length_append, hl]; rfl) y2 (RT_KT hT y4) y5 (by rw [y6]; exact h21) hN1 hC1 with ⟨j2, ns', S2, z1, z2, z3, z4, z5, z6, z7, z8, z9, z10, z11⟩ | ⟨p, S2, z1, z2, z3, z4, z5⟩
      · exact Or.inl ⟨j2, ns', S2, by omega, z2, z3, KT_tr y4 z4, z5, z6.trans y6, z7.trans y7, z8, z9, z10, z11⟩
      · exact Or.inr ⟨p, S2, z1, z2, KT_tr y4 z3, z4, z5⟩
    · rw [y2, xcI_some, if_pos rfl]
      exact Or.inr ⟨p, S1, y1, rfl, y3, y4, y5⟩
theorem m_takesOrder (hn : n ≤ 120) {D : List (Int32 × List Int32)} {i : Nat} {S : mS} (hi : i < n) (hb : tx i ≠ 32) (hP : PI (D, none, 0) i) (hT : RT tx n S) (hs : S.2.1 22 = nI i) (h21 : S.2.1 21 = nI D.length) (hL : DL (S.1 19) (D.map fun q => q.1)) (hN : RNu D (S.1 20)) :
    (∃ j o S', i < j ∧ j ≤ n ∧ xM 189 [.ref a] (pM h a (m0 S f)) = some (some (.int 1), pM h a (m0 S' f)) ∧ KT S S' ∧ S'.2.1 22 = nI j ∧ S'.2.1 21 = nI (D ++ [o]).length ∧ DL (S'.1 19) ((D ++ [o]).map fun q => q.1) ∧ RNu (D ++ [o]) (S'.1 20) ∧ PI (D ++ [o], none, 0) j ∧ rn tx n (n - i) i (D, none, 0) = rn tx n (n - j) j (D ++ [o], none, 0)) ∨ (∃ p S', p ≤ n ∧ xM 189 [.ref a] (pM h a (m0 S f)) = some (some (.int 0), pM h a (m0 S' f)) ∧ KT S S' ∧ S'.2.1 23 = nI p ∧ rn tx n (n - i) i (D, none, 0) = .inl p) := by
  have hx0 : ∀ hh : xH, (bif xbz 0 then some (some (Value.int 0), hh) else none : Option xR) = some (some (.int 0), hh) := fun hh => rfl
  have hD0 : 2 * D.length + 0 ≤ i := hP.1
  have hD6 := hP.2.2.2.2.2
  have hD5 : ∀ o, o ∈ D → o.2.length ≤ 5 := fun o ho => manyN_le (hD6 o ho)
  have hst : xM 189 [.ref a] (pM h a (m0 S f)) = xcI (xM 187 [.int (tx i)] (pM h a (m0 S f))) fun v5 h4 => if v5 = (-1) then (xgu h4 a 5 (xcI (xM 186 [.ref a] h4) fun v7 h6 => bif xbz v7 then some (some (.int v7), h6) else none)) else ((xfR h4 a 5 19).bind fun v8 => (xfI h4 a 5 21).bind fun v9 => (xwi h4 0 v8 v9 (tx i)).bind fun h10 => (xfI h10 a 5 22).bind fun v11 => (xpf h10 a 5 22 (.int (v11 + 1))).bind fun h12 => xE 189 47 [some (.ref a), some (.int (tx i)), some (.int v5), some (.int 0)] [] h12) := by
    rw [xb189, ml_f5, Option.bind_some, a_i22, Option.bind_some, hs, a_r5 h a S f (by omega), Option.bind_some, hT.2 i hi]
  rw [hst, m_manyOf, xcI_some]
  cases hm : manyN (tx i) with
  | none =>
    dsimp only
    refine Or.inr ⟨i, sI S 23 (nI i), by omega, ?_, KT_I S _ (Or.inr (Or.inr rfl)), sI_s _ _ _, ?_⟩
    · rw [if_pos rfl, ml_gu, m_fails, xcI_some, hx0, hs]
    · rw [show n - i = (n - (i + 1)) + 1 by omega, rn_n]
      unfold pstep
      by_cases c1 : 48 ≤ tx i ∧ tx i ≤ 57
      · rw [if_pos c1]; rfl
      · rw [if_neg c1, if_neg hb]
        by_cases c2 : tx i = 59
        · rw [if_pos c2]; rfl
        · rw [if_neg c2]
          unfold plet
          dsimp only
          rw [hm]; rfl
  | some m =>
    have hm5 := manyN_le hm
    obtain ⟨m1, m2, m3⟩ := many_sp hm
    dsimp only
    have s1 : pstep (D, none, 0) (tx i) = some (D, some (tx i, [], m), 0) := by
      unfold pstep
      rw [if_neg (show ¬ (48 ≤ tx i ∧ tx i ≤ 57) from m1), if_neg m2, if_neg m3]
      unfold plet
      dsimp only
      rw [hm]; rfl
    have r1 : rn tx n (n - i) i (D, none, 0) = rn tx n (n - (i + 1)) (i + 1) (D, some (tx i, [], m), 0) := by
      rw [show n - i = (n - (i + 1)) + 1 by omega, rn_s s1]
    have hD : D.length < 60 := by omega
    generalize hS1 : sI (sA S 19 (upd (S.1 19) D.length (tx i))) 22 (nI (i + 1)) = S1
    have k1 : KT S S1 := by rw [← hS1]; exact KT_tr (KT_A S _ (Or.inl rfl)) (KT_I _ _ (Or.inr (Or.inl rfl)))
    have hgo : (if nI m = -1 then (xgu (pM h a (m0 S f)) a 5 (xcI (xM 186 [.ref a] (pM h a (m0 S f))) fun v7 h6 => bif xbz v7 then some (some (.int v7), h6) else none)) else ((xfR (pM h a (m0 S f)) a 5 19).bind fun v8 => (xfI (pM h a (m0 S f)) a 5 21).bind fun v9 => (xwi (pM h a (m0 S f)) 0 v8 v9 (tx i)).bind fun h10 => (xfI h10 a 5 22).bind fun v11 => (xpf h10 a 5 22 (.int (v11 + 1))).bind fun h12 => xE 189 47 [some (.ref a), some (.int (tx i)), some (.int (nI m)), some (.int 0)] [] h12)) = xE 189 47 [some (.ref a), some (.int (tx i)), some (.int (nI m)), some (.int (nI 0))] [] (pM h a (m0 S1 f)) := by
      rw [if_neg (nI_m1 m (by omega)), ml_f19, Option.bind_some, a_i21, Option.bind_some, h21, a_w19 h a S f hD, Option.bind_some, a_i22, Option.bind_some, sA_2, hs, nI_1, a_p22, Option.bind_some, hS1]
      rfl
    rw [hgo, r1]
    have e22 : S1.2.1 22 = nI (i + 1) := by rw [← hS1, sI_s]
    have e21 : S1.2.1 21 = nI D.length := by rw [← hS1, sI_n _ _ (by decide)]; exact h21
    have e20 : S1.1 20 = S.1 20 := by rw [← hS1, sI_1, sA_n _ _ (by decide)]
    have e19 : S1.1 19 = upd (S.1 19) D.length (tx i) := by rw [← hS1, sI_1, sA_s]
    rcases m_nums (h := h) (a := a) (f := f) hn D hD hD5 (tx i) hm5 m 0 (i + 1) [] S1 (by omega) rfl (by omega) (RT_KT hT k1) e22 e21 (by rw [e20]; exact hN) (fun j v q => by cases q) with ⟨j, ns, S2, y1, y2, y3, y4, y5, y6, y7, y8, y9, y10, y11⟩ | ⟨p, S2, y1, y2, y3, y4, y5⟩
    · rw [y3, y11]
      obtain ⟨j', b1, b2, b3, b4, b5⟩ := m_blanks (h := h) (a := a) (f := f) hn (n - j) j S2 (by omega) (RT_KT hT (KT_tr k1 y4)) y5
      have b5' := b5 D (some (tx i, ns, 0))
      have hT3 : RT tx n (sI S2 22 (nI j')) := RT_KT hT (KT_tr k1 (KT_tr y4 (KT_I _ _ (Or.inr (Or.inl rfl)))))
      have k3 : KT S (sI S2 22 (nI j')) := KT_tr k1 (KT_tr y4 (KT_I _ _ (Or.inr (Or.inl rfl))))
      rcases m_isAt (h := h) (a := a) (f := f) hn hT3 b2 (sI_s _ _ _) 59 59 with ⟨q1, q2, q3, q4⟩ | ⟨q1, q2⟩
      · have e59 : tx j' = 59 := Int32.le_antisymm q3 q2
        have s2 : pstep (D, some (tx i, ns, 0), 0) (tx j') = some (D ++ [(tx i, ns)], none, 0) := by
          unfold pstep
          rw [e59, if_neg (by decide), if_neg (by decide), if_pos rfl]
          rfl
        have hlo : (D ++ [(tx i, ns)]).length = D.length + 1 := by rw [List.length_append]; rfl
        refine Or.inl ⟨j' + 1, (tx i, ns), sI (sI S2 22 (nI (j' + 1))) 21 (nI (D.length + 1)), by omega, by omega, ?_, KT_tr (KT_tr k1 (KT_tr y4 (KT_I _ _ (Or.inr (Or.inl rfl))))) (KT_I _ _ (Or.inl rfl)), by rw [sI_n _ _ (by decide), sI_s], by rw [sI_s, hlo], ?_, ?_, ?_, ?_⟩
        · rw [xb189_47, if_neg (nI_nlt (Nat.le_refl _) (by omega)), ml_gu, b3, xcV_some, ml_gu, q4, xcI_some, if_neg one_ne, a_i22, Option.bind_some, sI_s, nI_1, a_p22, Option.bind_some, sI_sI, a_i21, Option.bind_some, sI_n _ _ (show (21 : Nat) ≠ 22 by decide), y6, e21, nI_1, a_p21, Option.bind_some]
        · rw [sI_1, sI_1, y7, e19, List.map_append]
          have := DL_snoc hL (tx i)
          rw [List.length_map] at this
          exact this
        · rw [sI_1, sI_1]
          intro k o j'' v p1 p2
          by_cases e : k < D.length
          · rw [List.getElem?_append_left e] at p1
            exact y9 k o j'' v p1 p2
          · have hk := (List.getElem?_eq_some_iff.mp p1).1
            have hk : k = D.length := by omega
            subst hk
            rw [List.getElem?_append_right (Nat.le_refl _), Nat.sub_self] at p1
            have : (tx i, ns) = o := Option.some.inj p1
            subst this
            exact y10 j'' v p2
        · have hfl := hP.2.1
          refine ⟨?_, ?_, Nat.zero_le 2, fun z => (by cases z), fun z hz => (by cases hz), fun o ho => ?_⟩
          · show 2 * (D ++ [(tx i, ns)]).length + 0 ≤ j' + 1
            rw [hlo]; omega
          · have hpn : pnums (D ++ [(tx i, ns)], none, 0) = D.flatMap (fun q => q.2) ++ ns := by
              unfold pnums
              dsimp only
              rw [fm_app, List.append_nil, List.flatMap_cons, List.flatMap_nil, List.append_nil]
            have hpn0 : pnums (D, none, 0) = D.flatMap (fun q => q.2) := by
              unfold pnums
              dsimp only
              rw [List.append_nil]
            rw [hpn0] at hfl
            rw [hpn, List.length_append, y8]
            omega
          · rcases List.mem_append.mp ho with z | z
            · exact hD6 o z
            · rw [List.mem_singleton.mp z]
              dsimp only
              rw [y8]; exact hm
        · rw [b5', show n - j' = (n - (j' + 1)) + 1 by omega, rn_s s2]
      · refine Or.inr ⟨j', sI (sI S2 22 (nI j')) 23 (nI j'), b2, ?_, KT_tr k3 (KT_I _ _ (Or.inr (Or.inr rfl))), sI_s _ _ _, ?_⟩
        · rw [xb189_47, if_neg (nI_nlt (Nat.le_refl _) (by omega)), ml_gu, b3, xcV_some, ml_gu, q2, xcI_some, if_pos rfl, ml_gu, m_fails, xcI_some, hx0, sI_s]
        · rw [b5']
          by_cases e : j' = n
          · subst e; rw [Nat.sub_self]; rfl
          · rw [show n - j' = (n - (j' + 1)) + 1 by omega, rn_n]
            unfold pstep
            by_cases c1 : 48 ≤ tx j' ∧ tx j' ≤ 57
            · rw [if_pos c1]
              unfold pdig
              dsimp only
              rw [if_neg (by decide), if_neg (fun z => absurd z.2 (Nat.lt_irrefl 0))]
            · rw [if_neg c1, if_neg (b4 (by omega)), if_neg (fun z => q1 (by omega) ⟨by rw [z]; exact Int32.le_refl _, by rw [z]; exact Int32.le_refl _⟩)]
              rfl
    · exact Or.inr ⟨p, S2, y1, y2, KT_tr k1 y3, y4, y5⟩
theorem m_readL (hn : n ≤ 120) : ∀ (d i : Nat) (D : List (Int32 × List Int32)) (S : mS), n - i ≤ d → i ≤ n → (i < n → tx i ≠ 32) → PI (D, none, 0) i → RT tx n S → S.2.1 22 = nI i → S.2.1 21 = nI D.length → DL (S.1 19) (D.map fun q => q.1) → RNu D (S.1 20) →
    (∃ p S', p ≤ n ∧ xE 190 14 [some (.ref a)] [] (pM h a (m0 S f)) = some (some (.int 0), pM h a (m0 S' f)) ∧ KT S S' ∧ S'.2.1 23 = nI p ∧ rn tx n (n - i) i (D, none, 0) = .inl p) ∨ (∃ os S', xE 190 14 [some (.ref a)] [] (pM h a (m0 S f)) = some (some (.int 1), pM h a (m0 S' f)) ∧ KT S S' ∧ rn tx n (n - i) i (D, none, 0) = .inr os ∧ S'.2.1 21 = nI os.length ∧ DL (S'.1 19) (os.map fun q => q.1) ∧ RNu os (S'.1 20)) := by
  intro d
  induction d with
  | zero =>
    intro i D S hd hi hb hP hT hs h21 hL hN
    have hi : i = n := by omega
    subst hi
    have hD0 : 2 * D.length + 0 ≤ i := hP.1
    rw [xb190_14, a_i22, Option.bind_some, a_i6, Option.bind_some, hs, hT.1, if_neg (nI_nlt (Nat.le_refl _) (by omega)), a_i21, Option.bind_some, h21, Nat.sub_self]
    show (∃ p S', p ≤ i ∧ _ = _ ∧ KT S S' ∧ S'.2.1 23 = nI p ∧ (if D = [] then Sum.inl i else Sum.inr D) = Sum.inl p) ∨ (∃ os S', _ = _ ∧ KT S S' ∧ (if D = [] then Sum.inl i else Sum.inr D) = Sum.inr os ∧ S'.2.1 21 = nI os.length ∧ DL (S'.1 19) (os.map fun q => q.1) ∧ RNu os (S'.1 20))
    by_cases c : D = []
    · refine Or.inl ⟨i, sI S 23 (nI i), Nat.le_refl _, ?_, KT_I S _ (Or.inr (Or.inr rfl)), sI_s _ _ _, if_pos c⟩
      rw [if_neg (show ¬ (0 : Int32) < nI D.length by rw [c]; decide), ml_gu, m_fails, xcI_some, if_pos rfl, hs]
    · have : 0 < D.length := List.length_pos_iff.mpr c
      refine Or.inr ⟨D, S, ?_, KT_rf S, if_neg c, h21, hL, hN⟩
      rw [if_pos (show (0 : Int32) < nI D.length from nI_lt (a := 0) this (by omega))]
  | succ d ih =>
    intro i D S hd hi hb hP hT hs h21 hL hN
    by_cases e : i = n
    · exact ih i D S (by omega) hi hb hP hT hs h21 hL hN
    · have hlt : i < n := by omega
      have hst : xE 190 14 [some (.ref a)] [] (pM h a (m0 S f)) = xcI (xM 189 [.ref a] (pM h a (m0 S f))) fun v4 h3 => if v4 = 0 then (some (some (.int 0), h3)) else (xgu h3 a 5 (xcV (xM 185 [.ref a] h3) fun h5 => xE 190 14 [some (.ref a)] [] h5)) := by
        rw [xb190_14, a_i22, Option.bind_some, a_i6, Option.bind_some, hs, hT.1, if_pos (nI_lt hlt (by omega)), ml_gu]
      rw [hst]
      rcases m_takesOrder (h := h) (a := a) (f := f) hn hlt (hb hlt) hP hT hs h21 hL hN with ⟨j, o, S1, y1, y2, y3, y4, y5, y6, y7, y8, y9, y10⟩ | ⟨p, S1, y1, y2, y3, y4, y5⟩
      · obtain ⟨j', b1, b2, b3, b4, b5⟩ := m_blanks (h := h) (a := a) (f := f) hn (n - j) j S1 (by omega) (RT_KT hT y4) y5
        have hP' : PI (D ++ [o], none, 0) j' := ⟨Nat.le_trans y9.1 b1, Nat.le_trans y9.2.1 b1, y9.2.2.1, y9.2.2.2.1, y9.2.2.2.2.1, y9.2.2.2.2.2⟩
        rw [y3, xcI_some, if_neg one_ne, ml_gu, b3, xcV_some, y10, b5]
        rcases ih j' (D ++ [o]) (sI S1 22 (nI j')) (by omega) b2 b4 hP' (RT_KT hT (KT_tr y4 (KT_I _ _ (Or.inr (Or.inl rfl))))) (sI_s _ _ _) (by rw [sI_n _ _ (by decide)]; exact y6) y7 y8 with ⟨p, S2, z1, z2, z3, z4, z5⟩ | ⟨os, S2, z1, z2, z3⟩
        · exact Or.inl ⟨p, S2, z1, z2, KT_tr (KT_tr y4 (KT_I _ _ (Or.inr (Or.inl rfl)))) z3, z4, z5⟩
        · exact Or.inr ⟨os, S2, z1, KT_tr (KT_tr y4 (KT_I _ _ (Or.inr (Or.inl rfl)))) z2, z3⟩
      · rw [y2, xcI_some, if_pos rfl]
        exact Or.inl ⟨p, S1, y1, rfl, y3, y4, y5⟩
theorem m_isRead (hn : n ≤ 120) {S : mS} (hT : RT tx n S) : (∃ p S', p ≤ n ∧ xM 190 [.ref a] (pM h a (m0 S f)) = some (some (.int 0), pM h a (m0 S' f)) ∧ KT S S' ∧ S'.2.1 23 = nI p ∧ rn tx n n 0 ([], none, 0) = .inl p) ∨ (∃ os S', xM 190 [.ref a] (pM h a (m0 S f)) = some (some (.int 1), pM h a (m0 S' f)) ∧ KT S S' ∧ rn tx n n 0 ([], none, 0) = .inr os ∧ S'.2.1 21 = nI os.length ∧ DL (S'.1 19) (os.map fun q => q.1) ∧ RNu os (S'.1 20)) := by
  have k1 : KT S (sI (sI S 22 0) 21 0) := KT_tr (KT_I S _ (Or.inr (Or.inl rfl))) (KT_I _ _ (Or.inl rfl))
  obtain ⟨j', b1, b2, b3, b4, b5⟩ := m_blanks (h := h) (a := a) (f := f) hn n 0 (sI (sI S 22 0) 21 0) (by omega) (RT_KT hT k1) (by rw [sI_n _ _ (by decide), sI_s]; rfl)
  have k2 := KT_tr k1 (KT_I (sI (sI S 22 0) 21 0) (k := 22) (nI j') (Or.inr (Or.inl rfl)))
  have hst : xM 190 [.ref a] (pM h a (m0 S f)) = xE 190 14 [some (.ref a)] [] (pM h a (m0 (sI (sI (sI S 22 0) 21 0) 22 (nI j')) f)) := by
    rw [xb190, a_p22, Option.bind_some, a_p21, Option.bind_some, ml_gu, b3, xcV_some]
  have b5' := b5 [] none
  rw [Nat.sub_zero] at b5'
  rw [hst, b5']
  rcases m_readL (h := h) (a := a) (f := f) hn n j' [] (sI (sI (sI S 22 0) 21 0) 22 (nI j')) (by omega) b2 b4 ⟨Nat.zero_le _, Nat.zero_le _, Nat.zero_le 2, fun z => (by cases z), fun z hz => (by cases hz), fun o ho => absurd ho List.not_mem_nil⟩ (RT_KT hT k2) (sI_s _ _ _) (by rw [sI_n _ _ (by decide), sI_s]; rfl) (fun k b z => by cases z) (fun k o j v z => by cases z) with ⟨p, S2, z1, z2, z3, z4, z5⟩ | ⟨os, S2, z1, z2, z3⟩
  · exact Or.inl ⟨p, S2, z1, z2, KT_tr k2 z3, z4, z5⟩
  · exact Or.inr ⟨os, S2, z1, KT_tr k2 z2, z3⟩
end MTX
