/-! Questions: values of a shape, its view, windows, damage -/
section Q1
variable {sb : Nat → Int32} {ht cl : Nat → Nat} {ch : Nat → List Nat} {D : List Int32}
theorem nI_nel {w n : Nat} (hw : w < 2 ^ 31) (hn : n < 2 ^ 31) (h : w ≠ n) : ¬ nI w = nI n := fun q => h (nI_inj hw hn q)
def vsh (sb : Nat → Int32) (ht cl : Nat → Nat) (s w : Nat) : Int32 := if w = 4 then nI (ht s) else if w = 5 then nI (cl s) else if w = 6 then nI (cnt (fun t => decide (sb t ≠ 0 ∧ cl t = s)) 16) else bval (sb s) (nI w)
theorem c_shapeValue {h : xH} {a : Nat} {S : sS} (hS : CSh sb ht cl S) (hc : CHI sb cl ch) {s w : Nat} (hs : PR sb s) (hw : w < 7) : xM 39 [.ref a, .int (nI s), .int (nI w)] (pS h a S) = some (some (.int (vsh sb ht cl s w)), pS h a S) := by
  have s16 := hs.1
  unfold vsh
  rw [xb39]
  by_cases c4 : w = 4
  · rw [if_pos (show nI w = (4 : Int32) by rw [c4]; rfl), if_pos c4, sl_s3, Option.bind_some, c_r9 h a S s16, Option.bind_some, (hS.2 s hs).1]
  · rw [if_neg (show ¬ nI w = (4 : Int32) from nI_nel (n := 4) (by omega) (by decide) c4), if_neg c4]
    by_cases c5 : w = 5
    · rw [if_pos (show nI w = (5 : Int32) by rw [c5]; rfl), if_pos c5, sl_s4, Option.bind_some, c_r10 h a S s16, Option.bind_some, (hS.2 s hs).2]
    · rw [if_neg (show ¬ nI w = (5 : Int32) from nI_nel (n := 5) (by omega) (by decide) c5), if_neg c5]
      by_cases c6 : w = 6
      · rw [if_pos (show nI w = (6 : Int32) by rw [c6]; rfl), if_pos c6, sl_gu, c_clippedBy hS hc s16, xcI_some]
      · rw [if_neg (show ¬ nI w = (6 : Int32) from nI_nel (n := 6) (by omega) (by decide) c6), if_neg c6, sl_s2, Option.bind_some, c_r0 h a S (by omega), Option.bind_some, hS.1 s s16, c_value, xcI_some]
theorem m_told0 {h : xH} {a : Nat} {S : mS} {f : Nat → Int32} (hM : MSh sb ht cl f) (hb : ∀ s, sb s ≠ 0 → bok (sb s)) (hc : CHI sb cl ch) {s w : Nat} (hs : PR sb s) (hw : w < 7) : xM 165 [.ref a, .int (nI s), .int (nI w)] (pM h a (m0 S f)) = some (some (.int (vsh sb ht cl s w)), pM h a (m0 S f)) := by
  have s16 := hs.1
  obtain ⟨g1, g2, g3⟩ := hM.2 s hs
  unfold vsh
  rw [xb165]
  by_cases c : w < 4
  · rw [if_pos (show nI w < (4 : Int32) from nI_lt (b := 4) c (by decide)), if_neg (by omega), if_neg (by omega), if_neg (by omega), ml_gu, m_s1 h a S f s16, xcI_some, g1, m_part (hb s hs.2) c, xcI_some]
  · rw [if_neg (show ¬ nI w < (4 : Int32) from nI_nlt (b := 4) (by omega) (by omega))]
    by_cases c4 : w = 4
    · rw [if_pos (show nI w = (4 : Int32) by rw [c4]; rfl), if_pos c4, ml_gu, m_s2 h a S f s16, xcI_some, g2]
    · rw [if_neg (show ¬ nI w = (4 : Int32) from nI_nel (n := 4) (by omega) (by decide) c4), if_neg c4]
      by_cases c5 : w = 5
      · rw [if_pos (show nI w = (5 : Int32) by rw [c5]; rfl), if_pos c5, ml_gu, m_s3 h a S f s16, xcI_some, g3]
      · rw [if_neg (show ¬ nI w = (5 : Int32) from nI_nel (n := 5) (by omega) (by decide) c5), if_neg c5, if_pos (by omega), ml_gu, m_clippedBy hM hc s16, xcI_some]
def vvw (b : Int32) (w : Nat) : Int32 := if b = 0 then -1 else bval b (nI w)
theorem c_viewValue {h : xH} {a : Nat} {S : sS} (hS : CSh sb ht cl S) (hc : CHI sb cl ch) {s : Nat} (hs : PR sb s) (w : Nat) : xM 40 [.ref a, .int (nI s), .int (nI w)] (pS h a S) = some (some (.int (vvw (vw sb ch s) w)), pS h a S) := by
  unfold vvw
  rw [xb40, sl_gu, c_viewOf hS hc hs, xcI_some]
  by_cases c : vw sb ch s = 0
  · rw [if_pos c, if_pos c]
  · rw [if_neg c, if_neg c, c_value, xcI_some]
theorem m_partv {b : Int32} (hb : bok0 b) {w : Nat} (hw : w < 4) (hp : xH) : xM 118 [.int (e2m b), .int (nI w), .int (-1)] hp = some (some (.int (vvw b w)), hp) := by
  unfold vvw
  rcases hb with rfl | hb
  · rw [e2m_0, m_part0, if_pos rfl]
  · rw [e2m_ok hb, m_part hb hw, if_neg (bok_ne0 hb)]
theorem c_within {h : xH} {a : Nat} {S : sS} (hS : CSh sb ht cl S) (b : Int32) : xM 42 [.ref a, .int b] (pS h a S) = some (some (.int (nI (cnt (fun t => decide (sb t ≠ 0 ∧ cme (sb t) b ≠ 0)) 16))), pS h a S) := by
  have loop : ∀ (d t : Nat), t + d = 16 → xE 42 4 [some (.ref a), some (.int b), some (.int (nI (cnt (fun t => decide (sb t ≠ 0 ∧ cme (sb t) b ≠ 0)) t))), some (.int (nI t))] [] (pS h a S) = some (some (.int (nI (cnt (fun t => decide (sb t ≠ 0 ∧ cme (sb t) b ≠ 0)) 16))), pS h a S) := by
    intro d
    induction d with
    | zero =>
      intro t ht0
      have ht0 : t = 16 := by omega
      subst ht0
      rw [xb42_4, if_neg (show ¬ nI 16 < (16 : Int32) by decide)]
    | succ d ih =>
      intro t ht0
      have := ih (t + 1) (by omega)
      unfold cnt at this
      rw [xb42_4, if_pos (show nI t < (16 : Int32) from nI_lt (b := 16) (by omega) (by decide)), sl_s2, Option.bind_some, c_r0 h a S (by omega), Option.bind_some, hS.1 t (by omega), nI_1]
      by_cases c : sb t = 0
      · rw [if_neg (fun q => absurd c (of_decide_eq_true q).1), Nat.add_zero] at this
        rw [if_pos c]
        exact this
      · rw [if_neg c, Option.bind_some, c_r0 h a S (by omega), Option.bind_some, hS.1 t (by omega), c_meet, xcI_some]
        by_cases c2 : cme (sb t) b = 0
        · rw [if_neg (fun q => (of_decide_eq_true q).2 c2), Nat.add_zero] at this
          rw [if_pos c2]
          exact this
        · rw [if_pos (decide_eq_true ⟨c, c2⟩)] at this
          rw [if_neg c2, nI_1]
          exact this
  rw [xb42]
  exact loop 16 0 (by decide)
theorem m_within {h : xH} {a : Nat} {S : mS} {f : Nat → Int32} (hM : MSh sb ht cl f) (hbk : ∀ s, sb s ≠ 0 → bok (sb s)) {x y w v b : Int32} (hb : bok b) (e110 : ∀ hp, xM 110 [.int x, .int y, .int (x + w), .int (y + v)] hp = some (some (.int b), hp)) : xE 172 24 [some (.ref a), some (.int x), some (.int y), some (.int w), some (.int v), some (.int 0), some (.int 0)] [] (pM h a (m0 S f)) = some (some (.int (nI (cnt (fun t => decide (sb t ≠ 0 ∧ cme (sb t) b ≠ 0)) 16))), pM h a (m0 S f)) := by
  have hz : ∀ n : Nat, nI n + 0 = nI n := fun n => nI_add n 0
  have loop : ∀ (d t : Nat), t + d = 16 → xE 172 24 [some (.ref a), some (.int x), some (.int y), some (.int w), some (.int v), some (.int (nI (cnt (fun t => decide (sb t ≠ 0 ∧ cme (sb t) b ≠ 0)) t))), some (.int (nI t))] [] (pM h a (m0 S f)) = some (some (.int (nI (cnt (fun t => decide (sb t ≠ 0 ∧ cme (sb t) b ≠ 0)) 16))), pM h a (m0 S f)) := by
    intro d
    induction d with
    | zero =>
      intro t ht0
      have ht0 : t = 16 := by omega
      subst ht0
      rw [xb172_24, if_neg (show ¬ nI 16 < (16 : Int32) by decide)]
    | succ d ih =>
      intro t ht0
      have := ih (t + 1) (by omega)
      unfold cnt at this
      rw [xb172_24, if_pos (show nI t < (16 : Int32) from nI_lt (b := 16) (by omega) (by decide)), ml_gu, m_isShapeN hM (by omega), xcI_some, nI_1]
      by_cases c : sb t = 0
      · rw [if_neg (fun q => absurd c (of_decide_eq_true q).1), Nat.add_zero] at this
        rw [if_pos c, if_pos rfl, hz]
        exact this
      · have hpr : PR sb t := ⟨by omega, c⟩
        have hcm := m_common (Or.inr (hbk t c)) hb (pM h a (m0 S f))
        rw [e2m_ok (hbk t c)] at hcm
        have hm1 := e2m_m1 (bok0_me (Or.inr (hbk t c)) hb)
        rw [if_neg c, if_neg one_ne, ml_gu, m_s1 h a S f (by omega), xcI_some, (hM.2 t hpr).1, e110, xcI_some, hcm, xcI_some]
        by_cases c2 : cme (sb t) b = 0
        · rw [if_neg (fun q => (of_decide_eq_true q).2 c2), Nat.add_zero] at this
          rw [if_pos (hm1.mpr c2), hz]
          exact this
        · rw [if_pos (decide_eq_true ⟨c, c2⟩)] at this
          rw [if_neg (fun q => c2 (hm1.mp q)), nI_1]
          exact this
  exact loop 16 0 (by decide)
def vdm (D : List Int32) (i w : Nat) : Int32 := if i < D.length then bval (D.getD i 0) (nI w) else -1
theorem c_dvalue {h : xH} {a : Nat} {S : sS} (hD : CDm D S) (hl : D.length ≤ 4) {i : Nat} (hi : i < 2 ^ 31) (w : Nat) : xM 17 [.ref (a + 10), .int (nI i), .int (nI w)] (pS h a S) = some (some (.int (vdm D i w)), pS h a S) := by
  unfold vdm
  rw [xb17, sl_d1, Option.bind_some, hD.1]
  by_cases c : i < D.length
  · rw [if_pos (nI_lt c (by omega)), if_pos c, sl_d0, Option.bind_some, c_r8 h a S (by omega), Option.bind_some, DL_get hD.2 c, c_value, xcI_some]
  · rw [if_neg (nI_nlt (by omega) hi), if_neg c]
theorem m_dvalue {h : xH} {a : Nat} {S : mS} {f : Nat → Int32} (hD : MD f D) (hk : ∀ b, b ∈ D → bok b) (hl : D.length ≤ 4) {i w : Nat} (hi : i < D.length) (hw : w < 4) : xcI (xM 148 [.ref a, .int (nI i)] (pM h a (m0 S f))) (fun v10 h9 => xcI (xM 118 [.int v10, .int (nI w), .int 0] h9) fun v12 h11 => some (some (.int v12), h11)) = some (some (.int (vdm D i w)), pM h a (m0 S f)) := by
  have hv : f (306 + i) = D.getD i 0 := DL_get hD.2 hi
  unfold vdm
  rw [if_pos hi, m_dbox f (by omega), xcI_some, hv, m_part (hk _ (getD_memI hi)) hw, xcI_some]
end Q1
