/-! The reference's scene: what it is asked -/
section MACC
variable (h : xH) (a : Nat) (S : mS) (f : Nat → Int32)
theorem a_r17 {i : Nat} (hi : i < 16) : xri (pM h a (m0 S f)) 0 (a + 13) (nI i) = some (S.1 17 i) := by
  rw [ml_r17, xin_nI hi (by decide), cond_true, nI_clamp (by omega), m0_n _ _ (by decide)]
theorem a_w17 {i : Nat} (hi : i < 16) (v : Int32) : xwi (pM h a (m0 S f)) 0 (a + 13) (nI i) v = some (pM h a (m0 (sA S 17 (upd (S.1 17) i v)) f)) := by
  rw [ml_w17, xin_nI hi (by decide), cond_true, nI_clamp (by omega), m0_n _ _ (by decide), m0_sA _ _ _ (by decide)]
theorem a_r18 {i : Nat} (hi : i < 16) : xri (pM h a (m0 S f)) 1 (a + 14) (nI i) = some (S.1 18 i) := by
  rw [ml_r18, xin_nI hi (by decide), cond_true, nI_clamp (by omega), m0_n _ _ (by decide)]
theorem a_w18 {i : Nat} (hi : i < 16) (v : Int32) : xwi (pM h a (m0 S f)) 1 (a + 14) (nI i) v = some (pM h a (m0 (sA S 18 (upd (S.1 18) i v)) f)) := by
  rw [ml_w18, xin_nI hi (by decide), cond_true, nI_clamp (by omega), m0_n _ _ (by decide), m0_sA _ _ _ (by decide)]
end MACC
theorem m_in_y {x a b : Int32} (h1 : a ≤ x) (h2 : x ≤ b) (h : xH) : xM 103 [.int x, .int a, .int b] h = some (some (.int 1), h) := by
  rw [m_in, if_pos ⟨h1, h2⟩]
theorem m_in_n {x a b : Int32} (h1 : ¬ (a ≤ x ∧ x ≤ b)) (h : xH) : xM 103 [.int x, .int a, .int b] h = some (some (.int 0), h) := by
  rw [m_in, if_neg h1]
section MSQ
variable {h : xH} {a : Nat} {S : mS} {f : Nat → Int32} {sb : Nat → Int32} {ht cl : Nat → Nat} {ch : Nat → List Nat}
theorem m_isShapeN (hM : MSh sb ht cl f) {s : Nat} (hs : s < 16) : xM 120 [.ref a, .int (nI s)] (pM h a (m0 S f)) = some (some (.int (if sb s = 0 then 0 else 1)), pM h a (m0 S f)) := by
  rw [xb120, m_in_y (show (0 : Int32) ≤ nI s from nI_le (a := 0) (by omega) (by omega)) (show nI s ≤ (15 : Int32) from nI_le (b := 15) (by omega) (by decide)), xcI_some, if_neg (show ¬ (1 : Int32) = 0 by decide), ml_gu, m_s0 h a S f hs, xcI_some, hM.1 s hs]
  by_cases c : sb s = 0
  · rw [if_pos c, if_neg (show ¬ (0 : Int32) = 1 by decide)]
  · rw [if_neg c, if_pos rfl]
theorem m_isShapeX {x : Int32} (hx : x < 0 ∨ nI 16 ≤ x) : xM 120 [.ref a, .int x] (pM h a (m0 S f)) = some (some (.int 0), pM h a (m0 S f)) := by
  rw [xb120, m_in_n (x := x) (a := 0) (b := 15), xcI_some, if_pos rfl]
  rintro ⟨q1, q2⟩
  rcases hx with q | q
  · exact absurd q (Int32.not_lt.mpr q1)
  · have := Int32.le_trans q q2
    exact absurd this (by decide)
theorem m_viewOf (hM : MSh sb ht cl f) (hb : ∀ s, sb s ≠ 0 → bok (sb s)) (hc : CHI sb cl ch) {s : Nat} (hs : PR sb s) : xM 122 [.ref a, .int (nI s)] (pM h a (m0 S f)) = some (some (.int (e2m (vw sb ch s))), pM h a (m0 S f)) := by
  have loop : ∀ (l : List Nat) (t : Nat) (b : Int32), bok0 b → ((t = 16 ∧ l = []) ∨ (PR sb t ∧ l = t :: ch t)) → xE 122 14 [some (.ref a), some (.int (nI s)), some (.int (e2m b)), some (.int (nI t))] [] (pM h a (m0 S f)) = some (some (.int (e2m (vwf sb b l))), pM h a (m0 S f)) := by
    intro l
    induction l with
    | nil =>
      intro t b hb0 hl
      rcases hl with ⟨q, -⟩ | ⟨-, q⟩
      · subst q
        rw [xb122_14, if_pos (show nI 16 = (16 : Int32) from rfl)]
        rfl
      · cases q
    | cons u l ih =>
      intro t b hb0 hl
      rcases hl with ⟨-, q⟩ | ⟨q1, q2⟩
      · cases q
      · injection q2 with e1 e2
        subst e1
        have u16 := q1.1
        obtain ⟨g1, g2, g3⟩ := hM.2 u q1
        rw [xb122_14, if_neg (show ¬ nI u = (16 : Int32) from fun q => by have := nI_inj (b := 16) (by omega) (by decide) q; omega), ml_gu, m_s1 h a S f u16, xcI_some, g1, m_common hb0 (hb u q1.2), xcI_some, ml_gu, m_s3 h a S f u16, xcI_some, g3]
        refine ih (cl u) (cme b (sb u)) (bok0_me hb0 (hb u q1.2)) ?_
        rw [e2]
        rcases (hc u q1).2 with ⟨z1, z2⟩ | z
        · exact Or.inl ⟨z1, z2⟩
        · exact Or.inr z
  obtain ⟨g1, g2, g3⟩ := hM.2 s hs
  have := loop (ch s) (cl s) (sb s) (Or.inr (hb s hs.2)) (by
    rcases (hc s hs).2 with ⟨z1, z2⟩ | z
    · exact Or.inl ⟨z1, z2⟩
    · exact Or.inr z)
  rw [e2m_ok (hb s hs.2)] at this
  rw [xb122, ml_gu, m_s1 h a S f hs.1, xcI_some, g1, ml_gu, m_s3 h a S f hs.1, xcI_some, g3]
  exact this
theorem m_dependsOn (hM : MSh sb ht cl f) (hc : CHI sb cl ch) {s t : Nat} (ht16 : PR sb t) (hs : s < 16) : xM 123 [.ref a, .int (nI t), .int (nI s)] (pM h a (m0 S f)) = some (some (.int (if aff sb ch s t = true then 1 else 0)), pM h a (m0 S f)) := by
  have loop : ∀ (l : List Nat) (u : Nat), ((u = 16 ∧ l = []) ∨ (PR sb u ∧ l = u :: ch u)) → xE 123 2 [some (.ref a), some (.int (nI t)), some (.int (nI s)), some (.int (nI u))] [] (pM h a (m0 S f)) = some (some (.int (if s ∈ l then 1 else 0)), pM h a (m0 S f)) := by
    intro l
    induction l with
    | nil =>
      intro u hl
      rcases hl with ⟨q, -⟩ | ⟨-, q⟩
      · subst q
        rw [xb123_2, if_pos (show nI 16 = (16 : Int32) from rfl), if_neg (fun q => by have := nI_inj (by decide) (by omega) q; omega), if_neg List.not_mem_nil]
      · cases q
    | cons v l ih =>
      intro u hl
      rcases hl with ⟨-, q⟩ | ⟨q1, q2⟩
      · cases q
      · injection q2 with e1 e2
        subst e1
        have v16 := q1.1
        obtain ⟨g1, g2, g3⟩ := hM.2 v q1
        rw [xb123_2, if_neg (show ¬ nI v = (16 : Int32) from fun q => by have := nI_inj (b := 16) (by omega) (by decide) q; omega)]
        by_cases c : v = s
        · rw [if_pos (by rw [c]), if_pos (by rw [c]), if_pos (by rw [c]; exact List.mem_cons_self)]
        · rw [if_neg (fun q => c (nI_inj (by omega) (by omega) q)), ml_gu, m_s3 h a S f v16, xcI_some, g3]
          have := ih (cl v) (by
            rw [e2]
            rcases (hc v q1).2 with ⟨z1, z2⟩ | z
            · exact Or.inl ⟨z1, z2⟩
            · exact Or.inr z)
          rw [this]
          by_cases c2 : s ∈ l
          · rw [if_pos c2, if_pos (List.mem_cons_of_mem _ c2)]
          · rw [if_neg c2, if_neg (fun q => (List.mem_cons.mp q).elim (fun y => c y.symm) c2)]
  rw [xb123]
  have := loop (t :: ch t) t (Or.inr ⟨ht16, rfl⟩)
  rw [this]
  have e : (s ∈ t :: ch t) ↔ aff sb ch s t = true := by
    unfold aff
    rw [decide_eq_true_iff]
    exact ⟨fun q => ⟨ht16.2, (List.mem_cons.mp q).imp (fun y => y.symm) id⟩, fun q => q.2.elim (fun y => by rw [y]; exact List.mem_cons_self) (fun y => List.mem_cons_of_mem _ y)⟩
  by_cases c : s ∈ t :: ch t
  · rw [if_pos c, if_pos (e.mp c)]
  · rw [if_neg c, if_neg (fun q => c (e.mpr q))]
theorem m_clippedBy (hM : MSh sb ht cl f) (hc : CHI sb cl ch) {s : Nat} (hs : s < 16) : xM 124 [.ref a, .int (nI s)] (pM h a (m0 S f)) = some (some (.int (nI (cnt (fun t => decide (sb t ≠ 0 ∧ cl t = s)) 16))), pM h a (m0 S f)) := by
  have loop : ∀ (d t : Nat), t + d = 16 → xE 124 4 [some (.ref a), some (.int (nI s)), some (.int (nI (cnt (fun t => decide (sb t ≠ 0 ∧ cl t = s)) t))), some (.int (nI t))] [] (pM h a (m0 S f)) = some (some (.int (nI (cnt (fun t => decide (sb t ≠ 0 ∧ cl t = s)) 16))), pM h a (m0 S f)) := by
    intro d
    induction d with
    | zero =>
      intro t ht0
      have ht0 : t = 16 := by omega
      subst ht0
      rw [xb124_4, if_neg (show ¬ nI 16 < (16 : Int32) by decide)]
    | succ d ih =>
      intro t ht0
      have := ih (t + 1) (by omega)
      unfold cnt at this
      have hz : ∀ n : Nat, nI n + 0 = nI n := fun n => nI_add n 0
      rw [xb124_4, if_pos (show nI t < (16 : Int32) from nI_lt (b := 16) (by omega) (by decide)), ml_gu, m_isShapeN hM (by omega), xcI_some, nI_1]
      by_cases c : sb t = 0
      · rw [if_neg (fun q => absurd c (of_decide_eq_true q).1), Nat.add_zero] at this
        rw [if_pos c, if_pos rfl, hz]
        exact this
      · have hpr : PR sb t := ⟨by omega, c⟩
        have hcl := (hc t hpr).1
        rw [if_neg c, if_neg (show ¬ (1 : Int32) = 0 by decide), ml_gu, m_s3 h a S f (by omega), xcI_some, (hM.2 t hpr).2.2]
        by_cases c2 : cl t = s
        · rw [if_pos (decide_eq_true ⟨c, c2⟩)] at this
          rw [if_pos (by rw [c2]), nI_1]
          exact this
        · rw [if_neg (fun q => c2 (of_decide_eq_true q).2), Nat.add_zero] at this
          rw [if_neg (fun q => c2 (nI_inj (by omega) (by omega) q)), hz]
          exact this
  rw [xb124]
  exact loop 16 0 (by decide)
theorem m_shapes (hM : MSh sb ht cl f) : xM 121 [.ref a] (pM h a (m0 S f)) = some (some (.int (nI (cnt (fun t => decide (sb t ≠ 0)) 16))), pM h a (m0 S f)) := by
  have loop : ∀ (d t : Nat), t + d = 16 → xE 121 4 [some (.ref a), some (.int (nI (cnt (fun t => decide (sb t ≠ 0)) t))), some (.int (nI t))] [] (pM h a (m0 S f)) = some (some (.int (nI (cnt (fun t => decide (sb t ≠ 0)) 16))), pM h a (m0 S f)) := by
    intro d
    induction d with
    | zero =>
      intro t ht0
      have ht0 : t = 16 := by omega
      subst ht0
      rw [xb121_4, if_neg (show ¬ nI 16 < (16 : Int32) by decide)]
    | succ d ih =>
      intro t ht0
      have := ih (t + 1) (by omega)
      unfold cnt at this
      have hz : ∀ n : Nat, nI n + 0 = nI n := fun n => nI_add n 0
      rw [xb121_4, if_pos (show nI t < (16 : Int32) from nI_lt (b := 16) (by omega) (by decide)), ml_gu, m_s0 h a S f (by omega), xcI_some, hM.1 t (by omega), nI_1]
      by_cases c : sb t = 0
      · rw [if_neg (fun q => absurd c (of_decide_eq_true q)), Nat.add_zero] at this
        rw [if_pos c, hz]
        exact this
      · rw [if_pos (decide_eq_true c)] at this
        rw [if_neg c, nI_1]
        exact this
  rw [xb121]
  exact loop 16 0 (by decide)
/-- what was looked at alone has changed -/
def LK (S S' : mS) : Prop := (∀ k, k ≠ 17 → k ≠ 18 → S'.1 k = S.1 k) ∧ S'.2 = S.2
theorem LK_rf (S : mS) : LK S S := ⟨fun _ _ _ => rfl, rfl⟩
theorem LK_tr {S S' S'' : mS} (h1 : LK S S') (h2 : LK S' S'') : LK S S'' := ⟨fun k a b => (h2.1 k a b).trans (h1.1 k a b), h2.2.trans h1.2⟩
theorem m_looksAhead (hM : MSh sb ht cl f) (hb : ∀ s, sb s ≠ 0 → bok (sb s)) (hc : CHI sb cl ch) {s : Nat} (hs : s < 16) : ∃ S', xM 147 [.ref a, .int (nI s)] (pM h a (m0 S f)) = some (none, pM h a (m0 S' f)) ∧ LK S S' ∧ ∀ t, t < 16 → S'.1 18 t = (if aff sb ch s t = true then 1 else 0) ∧ S'.1 17 t = e2m (if aff sb ch s t = true then vw sb ch t else 0) := by
  have loop : ∀ (d t : Nat) (S : mS), t + d = 16 → (∀ u, u < t → S.1 18 u = (if aff sb ch s u = true then 1 else 0) ∧ S.1 17 u = e2m (if aff sb ch s u = true then vw sb ch u else 0)) → ∃ S', xE 147 2 [some (.ref a), some (.int (nI s)), some (.int (nI t))] [] (pM h a (m0 S f)) = some (none, pM h a (m0 S' f)) ∧ LK S S' ∧ ∀ t, t < 16 → S'.1 18 t = (if aff sb ch s t = true then 1 else 0) ∧ S'.1 17 t = e2m (if aff sb ch s t = true then vw sb ch t else 0) := by
    intro d
    induction d with
    | zero =>
      intro t S ht0 hS
      have ht0 : t = 16 := by omega
      subst ht0
      refine ⟨S, ?_, LK_rf S, hS⟩
      rw [xb147_2, if_neg (show ¬ nI 16 < (16 : Int32) by decide)]
    | succ d ih =>
      intro t S ht0 hS
      have t16 : t < 16 := by omega
      have step : ∀ v w : Int32, v = (if aff sb ch s t = true then 1 else 0) → w = e2m (if aff sb ch s t = true then vw sb ch t else 0) → ∃ S', xE 147 2 [some (.ref a), some (.int (nI s)), some (.int (nI (t + 1)))] [] (pM h a (m0 (sA (sA S 18 (upd (S.1 18) t v)) 17 (upd (S.1 17) t w)) f)) = some (none, pM h a (m0 S' f)) ∧ LK S S' ∧ ∀ t, t < 16 → S'.1 18 t = (if aff sb ch s t = true then 1 else 0) ∧ S'.1 17 t = e2m (if aff sb ch s t = true then vw sb ch t else 0) := fun v w hv hw => by
        obtain ⟨S', z1, z2, z3⟩ := ih (t + 1) (sA (sA S 18 (upd (S.1 18) t v)) 17 (upd (S.1 17) t w)) (by omega) (fun u hu => by
          rw [sA_s, sA_n _ _ (show (18 : Nat) ≠ 17 by decide), sA_s]
          by_cases e : u = t
          · subst e; rw [pk_us, pk_us]; exact ⟨hv, hw⟩
          · rw [pk_un e, pk_un e]; exact hS u (by omega))
        exact ⟨S', z1, LK_tr (show LK S (sA (sA S 18 (upd (S.1 18) t v)) 17 (upd (S.1 17) t w)) from ⟨fun k q1 q2 => by rw [sA_n _ _ q1, sA_n _ _ q2], rfl⟩) z2, z3⟩
      have e17 : ∀ v : Int32, (sA S 18 (upd (S.1 18) t v)).1 17 = S.1 17 := fun v => sA_n _ _ (by decide)
      have e18 : ∀ v : Int32, (sA S 18 (upd (S.1 18) t v)).1 18 t = v := fun v => by rw [sA_s, pk_us]
      rw [xb147_2, if_pos (show nI t < (16 : Int32) from nI_lt (b := 16) t16 (by decide)), ml_f18, Option.bind_some, ml_gu, m_isShapeN hM t16, xcI_some, nI_1]
      by_cases c : sb t = 0
      · have hA : ¬ aff sb ch s t = true := fun q => by unfold aff at q; exact absurd c (of_decide_eq_true q).1
        rw [if_pos c, if_pos rfl, a_w18 h a S f t16, Option.bind_some, ml_f17, Option.bind_some, ml_f18, Option.bind_some, a_r18 h a _ f t16, Option.bind_some, e18, if_pos rfl, a_w17 h a _ f t16, Option.bind_some, e17]
        exact step 0 (-1) (by rw [if_neg hA]) (by rw [if_neg hA]; rfl)
      · have hpr : PR sb t := ⟨t16, c⟩
        rw [if_neg c, if_neg (show ¬ (1 : Int32) = 0 by decide), ml_gu, m_dependsOn hM hc hpr hs, xcI_some]
        by_cases hA : aff sb ch s t = true
        · rw [if_pos hA, if_neg (show ¬ (1 : Int32) = 0 by decide), a_w18 h a S f t16, Option.bind_some, ml_f17, Option.bind_some, ml_f18, Option.bind_some, a_r18 h a _ f t16, Option.bind_some, e18, if_neg (show ¬ (1 : Int32) = 0 by decide), ml_gu, m_viewOf hM hb hc hpr, xcI_some, a_w17 h a _ f t16, Option.bind_some, e17]
          exact step 1 _ (by rw [if_pos hA]) (by rw [if_pos hA])
        · rw [if_neg hA, if_pos rfl, a_w18 h a S f t16, Option.bind_some, ml_f17, Option.bind_some, ml_f18, Option.bind_some, a_r18 h a _ f t16, Option.bind_some, e18, if_pos rfl, a_w17 h a _ f t16, Option.bind_some, e17]
          exact step 0 (-1) (by rw [if_neg hA]) (by rw [if_neg hA]; rfl)
  rw [xb147]
  exact loop 16 0 S (by decide) (fun u hu => absurd hu (Nat.not_lt_zero _))
def dav (vb : Nat → Int32) (D : List Int32) : Nat → List Int32
  | 0 => D
  | n + 1 => dadd (dav vb D n) (vb n)
theorem dav_ok {vb : Nat → Int32} {D : List Int32} (hv : ∀ t, t < 16 → bok0 (vb t)) (hD : D.length ≤ 4) (hk : ∀ x, x ∈ D → bok x) : ∀ n, n ≤ 16 → (dav vb D n).length ≤ 4 ∧ ∀ x, x ∈ dav vb D n → bok x
  | 0, _ => ⟨hD, hk⟩
  | n + 1, hn => by
    obtain ⟨i1, i2⟩ := dav_ok hv hD hk n (by omega)
    exact dadd_ok i1 i2 (hv n (by omega))
theorem dadd_0 (D : List Int32) : dadd D 0 = D := if_pos (Or.inl rfl)
theorem dav_dvs {sb : Nat → Int32} {ch : Nat → List Nat} {p : Nat → Bool} {vb : Nat → Int32} {D : List Int32} : ∀ n, (∀ t, t < n → vb t = if p t = true then vw sb ch t else 0) → dav vb D n = dvs sb ch p D n
  | 0, _ => rfl
  | n + 1, hh => by
    unfold dav dvs
    rw [dav_dvs n fun t ht => hh t (by omega), hh n (by omega)]
    by_cases c : p n = true
    · rw [if_pos c, if_pos c]
    · rw [if_neg c, if_neg c, dadd_0]
theorem dvs_ext {sb sb' : Nat → Int32} {ch ch' : Nat → List Nat} {p q : Nat → Bool} {D : List Int32} : ∀ n, (∀ t, t < n → p t = q t) → (∀ t, t < n → p t = true → vw sb ch t = vw sb' ch' t) → dvs sb ch p D n = dvs sb' ch' q D n
  | 0, _, _ => rfl
  | n + 1, hh, hv => by
    unfold dvs
    rw [dvs_ext n (fun t ht => hh t (by omega)) (fun t ht => hv t (by omega)), ← hh n (by omega)]
    by_cases c : p n = true
    · rw [if_pos c, if_pos c, hv n (by omega) c]
    · rw [if_neg c, if_neg c]
theorem MSh_FD {f' : Nat → Int32} (hM : MSh sb ht cl f) (hf : FD f f') : MSh sb ht cl f' := ⟨fun s hs => by rw [hf _ (by omega)]; exact hM.1 s hs, fun s hs => by
  have := hs.1
  rw [hf _ (by omega), hf _ (by omega), hf _ (by omega)]; exact hM.2 s hs⟩
theorem m_looksBehind {D : List Int32} {vb : Nat → Int32} {q : Nat → Bool} (hM : MSh sb ht cl f) (hb : ∀ s, sb s ≠ 0 → bok (sb s)) (hc : CHI sb cl ch) (hD : MD f D) (hl : D.length ≤ 4) (hk : ∀ x, x ∈ D → bok x) (hv : ∀ t, t < 16 → bok0 (vb t)) (h17 : ∀ t, t < 16 → S.1 17 t = e2m (vb t)) (h18 : ∀ t, t < 16 → S.1 18 t = if q t = true then 1 else 0) : ∃ f', xM 151 [.ref a] (pM h a (m0 S f)) = some (none, pM h a (m0 S f')) ∧ FD f f' ∧ MD f' (dvs sb ch (fun t => q t && decide (sb t ≠ 0)) (dav vb D 16) 16) := by
  have loop2 : ∀ (D : List Int32), D.length ≤ 4 → (∀ x, x ∈ D → bok x) → ∀ (d t : Nat) (f : Nat → Int32), t + d = 16 → MSh sb ht cl f → MD f (dvs sb ch (fun t => q t && decide (sb t ≠ 0)) D t) → ∃ f', xE 151 26 [some (.ref a), some (.int (nI t))] [] (pM h a (m0 S f)) = some (none, pM h a (m0 S f')) ∧ FD f f' ∧ MD f' (dvs sb ch (fun t => q t && decide (sb t ≠ 0)) D 16) := by
    intro D hl hk d
    induction d with
    | zero =>
      intro t f ht0 hM hD
      have ht0 : t = 16 := by omega
      subst ht0
      refine ⟨f, ?_, FD_rf f, hD⟩
      rw [xb151_26, if_neg (show ¬ nI 16 < (16 : Int32) by decide)]
    | succ d ih =>
      intro t f ht0 hM hD
      have t16 : t < 16 := by omega
      obtain ⟨o1, o2⟩ := dvs_ok (p := fun t => q t && decide (sb t ≠ 0)) hb hc (fun t _ hq => by
        simp only [Bool.and_eq_true] at hq
        exact of_decide_eq_true hq.2) hl hk t (by omega)
      rw [xb151_26, if_pos (show nI t < (16 : Int32) from nI_lt (b := 16) t16 (by decide)), ml_f18, Option.bind_some, a_r18 h a S f t16, Option.bind_some, h18 t t16, nI_1]
      by_cases c1 : q t = true
      · rw [if_pos c1, if_neg (show ¬ (1 : Int32) = 0 by decide), ml_gu, m_isShapeN hM t16, xcI_some]
        by_cases c2 : sb t = 0
        · have hn : ¬ (q t && decide (sb t ≠ 0)) = true := fun z => by
            simp only [Bool.and_eq_true] at z
            exact absurd c2 (of_decide_eq_true z.2)
          rw [if_pos c2, if_pos rfl]
          exact ih (t + 1) f (by omega) hM (by unfold dvs; rw [if_neg hn]; exact hD)
        · have hy : (q t && decide (sb t ≠ 0)) = true := by rw [c1, decide_eq_true c2]; rfl
          have hpr : PR sb t := ⟨t16, c2⟩
          obtain ⟨f1, y1, y2, y3⟩ := m_damages (h := h) (a := a) (S := S) hD o2 o1 (vw_ok hb hc hpr)
          obtain ⟨f2, z1, z2, z3⟩ := ih (t + 1) f1 (by omega) (MSh_FD hM y2) (by unfold dvs; rw [if_pos hy]; exact y3)
          refine ⟨f2, ?_, FD_tr y2 z2, z3⟩
          rw [if_neg c2, if_neg (show ¬ (1 : Int32) = 0 by decide), ml_gu, m_viewOf hM hb hc hpr, xcI_some, ml_gu, y1, xcV_some]
          exact z1
      · have hn : ¬ (q t && decide (sb t ≠ 0)) = true := fun z => by
          simp only [Bool.and_eq_true] at z
          exact c1 z.1
        rw [if_neg c1, if_pos rfl]
        exact ih (t + 1) f (by omega) hM (by unfold dvs; rw [if_neg hn]; exact hD)
  have loop1 : ∀ (d t : Nat) (f : Nat → Int32), t + d = 16 → MSh sb ht cl f → MD f (dav vb D t) → ∃ f', xE 151 2 [some (.ref a), some (.int (nI t))] [] (pM h a (m0 S f)) = xE 151 26 [some (.ref a), some (.int 0)] [] (pM h a (m0 S f')) ∧ FD f f' ∧ MD f' (dav vb D 16) := by
    intro d
    induction d with
    | zero =>
      intro t f ht0 hM hD
      have ht0 : t = 16 := by omega
      subst ht0
      refine ⟨f, ?_, FD_rf f, hD⟩
      rw [xb151_2, if_neg (show ¬ nI 16 < (16 : Int32) by decide)]
    | succ d ih =>
      intro t f ht0 hM hD
      have t16 : t < 16 := by omega
      obtain ⟨o1, o2⟩ := dav_ok hv hl hk t (by omega)
      obtain ⟨f1, y1, y2, y3⟩ := m_damages (h := h) (a := a) (S := S) hD o2 o1 (hv t t16)
      obtain ⟨f2, z1, z2, z3⟩ := ih (t + 1) f1 (by omega) (MSh_FD hM y2) y3
      refine ⟨f2, ?_, FD_tr y2 z2, z3⟩
      rw [xb151_2, if_pos (show nI t < (16 : Int32) from nI_lt (b := 16) t16 (by decide)), ml_f17, Option.bind_some, a_r17 h a S f t16, Option.bind_some, h17 t t16, ml_gu, y1, xcV_some, nI_1]
      exact z1
  obtain ⟨f1, y1, y2, y3⟩ := loop1 16 0 f (by decide) hM hD
  obtain ⟨o1, o2⟩ := dav_ok hv hl hk 16 (Nat.le_refl _)
  obtain ⟨f2, z1, z2, z3⟩ := loop2 (dav vb D 16) o1 o2 16 0 f1 (by decide) (MSh_FD hM y2) y3
  refine ⟨f2, ?_, FD_tr y2 z2, z3⟩
  rw [xb151]
  exact Eq.trans (show _ = _ from y1) z1
theorem m_nodes {T : tS} {bx : Nat → Int32} (hR : RM T sb bx f) : xM 152 [.ref a] (pM h a (m0 S f)) = some (some (.int (nI (cnt (fun n => (T.2.1 n).isSome) 24))), pM h a (m0 S f)) := by
  have loop : ∀ (d t : Nat), t + d = 24 → xE 152 4 [some (.ref a), some (.int (nI (cnt (fun n => (T.2.1 n).isSome) t))), some (.int (nI t))] [] (pM h a (m0 S f)) = some (some (.int (nI (cnt (fun n => (T.2.1 n).isSome) 24))), pM h a (m0 S f)) := by
    intro d
    induction d with
    | zero =>
      intro t ht0
      have ht0 : t = 24 := by omega
      subst ht0
      rw [xb152_4, if_neg (show ¬ nI 24 < (24 : Int32) by decide)]
    | succ d ih =>
      intro t ht0
      have := ih (t + 1) (by omega)
      unfold cnt at this
      have hz : ∀ n : Nat, nI n + 0 = nI n := fun n => nI_add n 0
      rw [xb152_4, if_pos (show nI t < (24 : Int32) from nI_lt (b := 24) (by omega) (by decide)), ml_gu, m_n0 h a S f (by omega), xcI_some, hR.2.1 t (by omega), nI_1]
      by_cases c : (T.2.1 t).isSome = true
      · rw [if_pos c] at this
        rw [if_pos c, nI_1]
        exact this
      · rw [if_neg c, Nat.add_zero] at this
        rw [if_neg c, hz]
        exact this
  rw [xb152]
  exact loop 24 0 (by decide)
end MSQ
