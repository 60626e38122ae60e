/-! The class's scene: what it is asked -/
section CSQ
variable {h : xH} {a : Nat} {S : sS} {sb : Nat → Int32} {ht cl : Nat → Nat} {ch : Nat → List Nat}
theorem c_hasN (hS : CSh sb ht cl S) {s : Nat} (hs : s < 16) : xM 32 [.ref a, .int (nI s)] (pS h a S) = some (some (.int (if sb s = 0 then 0 else 1)), pS h a S) := by
  rw [xb32, if_neg (nI_pos (by omega)), if_pos (show nI s < (16 : Int32) from nI_lt (b := 16) hs (by decide)), sl_s2, Option.bind_some, c_r0 h a S (by omega), Option.bind_some, hS.1 s hs]
  split <;> rfl
theorem c_hasX (S : sS) {x : Int32} (hx : x < 0 ∨ nI 16 ≤ x) : xM 32 [.ref a, .int x] (pS h a S) = some (some (.int 0), pS h a S) := by
  rw [xb32]
  rcases hx with q | q
  · rw [if_pos q]
  · by_cases c : x < 0
    · rw [if_pos c]
    · rw [if_neg c, if_neg (show ¬ x < (16 : Int32) from Int32.not_lt.mpr q)]
theorem c_viewOf (hS : CSh sb ht cl S) (hc : CHI sb cl ch) {s : Nat} (hs : PR sb s) : xM 47 [.ref a, .int (nI s)] (pS h a S) = some (some (.int (vw sb ch s)), pS h a S) := by
  have loop : ∀ (l : List Nat) (i t : Nat) (b : Int32), i + l.length < 16 → ((t = 16 ∧ l = []) ∨ (PR sb t ∧ l = t :: ch t)) → xE 47 17 [some (.ref a), some (.int (nI s)), some (.int b), some (.int (nI t)), some (.int (nI i))] [] (pS h a S) = some (some (.int (vwf sb b l)), pS h a S) := by
    intro l
    induction l with
    | nil =>
      intro i t b hi hl
      rcases hl with ⟨q, -⟩ | ⟨-, q⟩
      · subst q
        rw [xb47_17, if_pos (show nI i < (16 : Int32) from nI_lt (b := 16) (by simp at hi; omega) (by decide)), sl_gu, c_hasX S (Or.inr (Int32.le_refl _)), xcI_some, if_pos rfl]
        rfl
      · cases q
    | cons u l ih =>
      intro i t b hi hl
      rw [List.length_cons] at hi
      rcases hl with ⟨-, q⟩ | ⟨q1, q2⟩
      · cases q
      · injection q2 with e1 e2
        subst e1
        have hcl := (hS.2 u q1).2
        rw [xb47_17, if_pos (show nI i < (16 : Int32) from nI_lt (b := 16) (by omega) (by decide)), sl_gu, c_hasN hS q1.1, xcI_some, if_neg q1.2, if_neg (show ¬ (1 : Int32) = 0 by decide), sl_s2, Option.bind_some, c_r0 h a S (by have := q1.1; omega), Option.bind_some, hS.1 u q1.1, c_meet, xcI_some, sl_s4, Option.bind_some, c_r10 h a S q1.1, Option.bind_some, hcl, nI_1]
        refine ih (i + 1) (cl u) (cme b (sb u)) (by omega) ?_
        rw [e2]
        rcases (hc u q1).2 with ⟨z1, z2⟩ | z
        · exact Or.inl ⟨z1, z2⟩
        · exact Or.inr z
  have hcl := (hS.2 s hs).2
  have hlen := (ch_len hc hs).1
  rw [xb47, sl_s2, Option.bind_some, c_r0 h a S (by have := hs.1; omega), Option.bind_some, hS.1 s hs.1, sl_s4, Option.bind_some, c_r10 h a S hs.1, Option.bind_some, hcl]
  refine loop (ch s) 0 (cl s) (sb s) (by omega) ?_
  rcases (hc s hs).2 with ⟨z1, z2⟩ | z
  · exact Or.inl ⟨z1, z2⟩
  · exact Or.inr z
theorem c_affected (hS : CSh sb ht cl S) (hc : CHI sb cl ch) {s : Nat} (hs : PR sb s) : xM 48 [.ref a, .int (nI s)] (pS h a S) = some (some (.int (nI (mk (aff sb ch s) 16))), pS h a S) := by
  have s16 := hs.1
  -- along a chain
  have walk : ∀ (l : List Nat) (i t : Nat) (m : Int32) (t0 : Nat), i + l.length ≤ 16 → ((t = 16 ∧ l = []) ∨ (PR sb t ∧ l = t :: ch t)) → ∃ t' i', xE 48 16 [some (.ref a), some (.int (nI s)), some (.int m), some (.int (nI t0)), some (.int (nI t)), some (.int (nI i))] [] (pS h a S) = xE 48 53 [some (.ref a), some (.int (nI s)), some (.int m), some (.int (nI t0)), some (.int (nI t')), some (.int (nI i'))] [] (pS h a S) ∧ t' ≤ 16 ∧ (t' = s ↔ s ∈ l) := by
    intro l
    induction l with
    | nil =>
      intro i t m t0 hi hl
      rcases hl with ⟨q, -⟩ | ⟨-, q⟩
      · subst q
        refine ⟨16, i, ?_, Nat.le_refl _, ⟨fun q => by omega, fun q => absurd q List.not_mem_nil⟩⟩
        rw [xb48_16]
        by_cases c : nI i < (16 : Int32)
        · rw [if_pos c, if_neg (fun q => by have := nI_inj (by decide) (by omega) q; omega), sl_gu, c_hasX S (Or.inr (Int32.le_refl _)), xcI_some, if_pos rfl]
        · rw [if_neg c]
      · cases q
    | cons u l ih =>
      intro i t m t0 hi hl
      rw [List.length_cons] at hi
      rcases hl with ⟨-, q⟩ | ⟨q1, q2⟩
      · cases q
      · injection q2 with e1 e2
        subst e1
        rw [xb48_16, if_pos (show nI i < (16 : Int32) from nI_lt (b := 16) (by omega) (by decide))]
        by_cases c : u = s
        · subst c
          rw [if_pos rfl]
          exact ⟨u, i, rfl, by omega, ⟨fun _ => List.mem_cons_self, fun _ => rfl⟩⟩
        · have u16 := q1.1
          rw [if_neg (fun q => c (nI_inj (by omega) (by omega) q)), sl_gu, c_hasN hS q1.1, xcI_some, if_neg q1.2, if_neg (show ¬ (1 : Int32) = 0 by decide), sl_s4, Option.bind_some, c_r10 h a S q1.1, Option.bind_some, (hS.2 u q1).2, nI_1]
          obtain ⟨t', i', z1, z2, z3⟩ := ih (i + 1) (cl u) m t0 (by omega) (by
            rw [e2]
            rcases (hc u q1).2 with ⟨y1, y2⟩ | y
            · exact Or.inl ⟨y1, y2⟩
            · exact Or.inr y)
          refine ⟨t', i', z1, z2, z3.trans ⟨fun q => List.mem_cons_of_mem _ q, fun q => (List.mem_cons.mp q).resolve_left (fun y => c y.symm)⟩⟩
  have loop : ∀ (d t0 : Nat) (l4 l5 : Option Value), t0 + d = 16 → xE 48 4 [some (.ref a), some (.int (nI s)), some (.int (nI (mk (aff sb ch s) t0))), some (.int (nI t0)), l4, l5] [] (pS h a S) = some (some (.int (nI (mk (aff sb ch s) 16))), pS h a S) := by
    intro d
    induction d with
    | zero =>
      intro t0 l4 l5 ht0
      have ht0 : t0 = 16 := by omega
      subst ht0
      rw [xb48_4, if_neg (show ¬ nI 16 < (16 : Int32) by decide)]
    | succ d ih =>
      intro t0 l4 l5 ht0
      rw [xb48_4, if_pos (show nI t0 < (16 : Int32) from nI_lt (b := 16) (by omega) (by decide))]
      have fin : ∀ (t' i' : Nat), t' ≤ 16 → (t' = s ↔ aff sb ch s t0 = true) → xE 48 53 [some (.ref a), some (.int (nI s)), some (.int (nI (mk (aff sb ch s) t0))), some (.int (nI t0)), some (.int (nI t')), some (.int (nI i'))] [] (pS h a S) = some (some (.int (nI (mk (aff sb ch s) 16))), pS h a S) := fun t' i' ht' hiff => by
        rw [xb48_53, nI_1]
        by_cases c : t' = s
        · rw [if_pos (by rw [c]), mk_or _ (by omega)]
          have := ih (t0 + 1) (some (.int (nI t'))) (some (.int (nI i'))) (by omega)
          unfold mk at this
          rw [if_pos (hiff.mp c)] at this
          exact this
        · rw [if_neg (fun q => c (nI_inj (by omega) (by omega) q))]
          have := ih (t0 + 1) (some (.int (nI t'))) (some (.int (nI i'))) (by omega)
          unfold mk at this
          rw [if_neg (fun q => c (hiff.mpr q)), Nat.add_zero] at this
          exact this
      by_cases hp : sb t0 = 0
      · have hne : t0 ≠ s := fun q => hs.2 (by rw [← q]; exact hp)
        have : xE 48 16 [some (.ref a), some (.int (nI s)), some (.int (nI (mk (aff sb ch s) t0))), some (.int (nI t0)), some (.int (nI t0)), some (.int 0)] [] (pS h a S) = xE 48 53 [some (.ref a), some (.int (nI s)), some (.int (nI (mk (aff sb ch s) t0))), some (.int (nI t0)), some (.int (nI t0)), some (.int (nI 0))] [] (pS h a S) := by
          rw [xb48_16, if_pos (show (0 : Int32) < 16 by decide), if_neg (fun q => hne (nI_inj (by omega) (by omega) q)), sl_gu, c_hasN hS (by omega), xcI_some, if_pos hp, if_pos rfl]
          rfl
        rw [this]
        refine fin t0 0 (by omega) ⟨fun q => absurd q hne, fun q => ?_⟩
        unfold aff at q
        exact absurd hp (of_decide_eq_true q).1
      · have hpr : PR sb t0 := ⟨by omega, hp⟩
        have hlen := (ch_len hc hpr).1
        obtain ⟨t', i', z1, z2, z3⟩ := walk (t0 :: ch t0) 0 t0 (nI (mk (aff sb ch s) t0)) t0 (by rw [List.length_cons]; omega) (Or.inr ⟨hpr, rfl⟩)
        refine Eq.trans (show _ = _ from z1) (fin t' i' z2 (z3.trans ?_))
        unfold aff
        rw [decide_eq_true_iff]
        exact ⟨fun q => ⟨hp, (List.mem_cons.mp q).imp (fun y => y.symm) id⟩, fun q => q.2.elim (fun y => by rw [y]; exact List.mem_cons_self) (fun y => List.mem_cons_of_mem _ y)⟩
  rw [xb48]
  exact loop 16 0 none none (by decide)
theorem c_clippedBy (hS : CSh sb ht cl S) (hc : CHI sb cl ch) {s : Nat} (hs : s < 16) : xM 46 [.ref a, .int (nI s)] (pS h a S) = some (some (.int (nI (cnt (fun t => decide (sb t ≠ 0 ∧ cl t = s)) 16))), pS h a S) := by
  have loop : ∀ (d t : Nat), t + d = 16 → xE 46 4 [some (.ref a), some (.int (nI s)), some (.int (nI (cnt (fun t => decide (sb t ≠ 0 ∧ cl t = s)) t))), some (.int (nI t))] [] (pS h a S) = some (some (.int (nI (cnt (fun t => decide (sb t ≠ 0 ∧ cl t = s)) 16))), pS h a S) := by
    intro d
    induction d with
    | zero =>
      intro t ht0
      have ht0 : t = 16 := by omega
      subst ht0
      rw [xb46_4, if_neg (show ¬ nI 16 < (16 : Int32) by decide)]
    | succ d ih =>
      intro t ht0
      have := ih (t + 1) (by omega)
      unfold cnt at this
      rw [xb46_4, if_pos (show nI t < (16 : Int32) from nI_lt (b := 16) (by omega) (by decide)), sl_s2, Option.bind_some, c_r0 h a S (by omega), Option.bind_some, hS.1 t (by omega), nI_1]
      by_cases c : sb t = 0
      · rw [if_neg (fun q => absurd c (of_decide_eq_true q).1), Nat.add_zero] at this
        rw [if_pos c]
        exact this
      · have hpr : PR sb t := ⟨by omega, c⟩
        have hcl := (hc t hpr).1
        rw [if_neg c, sl_s4, Option.bind_some, c_r10 h a S (by omega), Option.bind_some, (hS.2 t hpr).2]
        by_cases c2 : cl t = s
        · rw [if_pos (decide_eq_true ⟨c, c2⟩)] at this
          rw [if_pos (by rw [c2]), nI_1]
          exact this
        · rw [if_neg (fun q => c2 (of_decide_eq_true q).2), Nat.add_zero] at this
          rw [if_neg (fun q => c2 (nI_inj (by omega) (by omega) q))]
          exact this
  rw [xb46]
  exact loop 16 0 (by decide)
theorem c_shapeCount (hS : CSh sb ht cl S) : xM 33 [.ref a] (pS h a S) = some (some (.int (nI (cnt (fun t => decide (sb t ≠ 0)) 16))), pS h a S) := by
  have loop : ∀ (d t : Nat), t + d = 16 → xE 33 4 [some (.ref a), some (.int (nI (cnt (fun t => decide (sb t ≠ 0)) t))), some (.int (nI t))] [] (pS h a S) = some (some (.int (nI (cnt (fun t => decide (sb t ≠ 0)) 16))), pS h a S) := by
    intro d
    induction d with
    | zero =>
      intro t ht0
      have ht0 : t = 16 := by omega
      subst ht0
      rw [xb33_4, if_neg (show ¬ nI 16 < (16 : Int32) by decide)]
    | succ d ih =>
      intro t ht0
      have := ih (t + 1) (by omega)
      unfold cnt at this
      rw [xb33_4, if_pos (show nI t < (16 : Int32) from nI_lt (b := 16) (by omega) (by decide)), sl_s2, Option.bind_some, c_r0 h a S (by omega), Option.bind_some, hS.1 t (by omega), nI_1]
      by_cases c : sb t = 0
      · rw [if_neg (fun q => absurd c (of_decide_eq_true q)), Nat.add_zero] at this
        rw [if_pos c]
        exact this
      · rw [if_pos (decide_eq_true c)] at this
        rw [if_neg c, nI_1]
        exact this
  rw [xb33]
  exact loop 16 0 (by decide)
theorem CSh_KD {S' : sS} (hS : CSh sb ht cl S) (hk : KD S S') : CSh sb ht cl S' := by
  unfold CSh
  rw [hk.1 0 (by decide), hk.1 9 (by decide), hk.1 10 (by decide)]
  exact hS
theorem c_damageViews {D : List Int32} {p : Nat → Bool} (hb : ∀ s, sb s ≠ 0 → bok (sb s)) (hc : CHI sb cl ch) (hp : ∀ t, t < 16 → p t = true → sb t ≠ 0) (hl : D.length ≤ 4) (hk : ∀ x, x ∈ D → bok x) (hS : CSh sb ht cl S) (hD : CDm D S) : ∃ S', xM 49 [.ref a, .int (nI (mk p 16))] (pS h a S) = some (none, pS h a S') ∧ KD S S' ∧ CDm (dvs sb ch p D 16) S' := by
  have loop : ∀ (d t : Nat) (S : sS), t + d = 16 → CSh sb ht cl S → CDm (dvs sb ch p D t) S → ∃ S', xE 49 2 [some (.ref a), some (.int (nI (mk p 16))), some (.int (nI t))] [] (pS h a S) = some (none, pS h a S') ∧ KD S S' ∧ CDm (dvs sb ch p D 16) S' := by
    intro d
    induction d with
    | zero =>
      intro t S ht0 hS hD
      have ht0 : t = 16 := by omega
      subst ht0
      refine ⟨S, ?_, KD_rf S, hD⟩
      rw [xb49_2, if_neg (show ¬ nI 16 < (16 : Int32) by decide)]
    | succ d ih =>
      intro t S ht0 hS hD
      obtain ⟨o1, o2⟩ := dvs_ok (p := p) hb hc hp hl hk t (by omega)
      rw [xb49_2, if_pos (show nI t < (16 : Int32) from nI_lt (b := 16) (by omega) (by decide)), nI_1]
      by_cases c : p t = true
      · have hpr : PR sb t := ⟨by omega, hp t (by omega) c⟩
        obtain ⟨S1, y1, y2, y3, y4⟩ := c_add (h := h) (a := a) hD.1 hD.2 o1 (vw sb ch t)
        obtain ⟨S', z1, z2, z3⟩ := ih (t + 1) S1 (by omega) (CSh_KD hS y2) (by unfold dvs; rw [if_pos c]; exact ⟨y3, y4⟩)
        refine ⟨S', ?_, KD_tr y2 z2, z3⟩
        rw [if_pos ((mk_bit p (by omega)).mpr c), sl_s1, Option.bind_some, sl_gu, c_viewOf hS hc hpr, xcI_some, sl_gd, y1, xcV_some]
        exact z1
      · obtain ⟨S', z1, z2, z3⟩ := ih (t + 1) S (by omega) hS (by unfold dvs; rw [if_neg c]; exact hD)
        refine ⟨S', ?_, z2, z3⟩
        rw [if_neg (fun q => c ((mk_bit p (by omega)).mp q))]
        exact z1
  rw [xb49]
  exact loop 16 0 S (by decide) hS hD
end CSQ
