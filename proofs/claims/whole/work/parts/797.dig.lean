/-! The checksum -/
def mx (s : Int64) (v : Int32) : Int64 := (((31 : Int32).toInt64) * s) + ((v : Int32).toInt64)
def itr (F : Nat → Int64 → Int64) : Nat → Int64 → Int64
  | 0, s => s
  | n + 1, s => F n (itr F n s)
theorem mx_def (s : Int64) (v : Int32) : (((31 : Int32).toInt64) * s) + ((v : Int32).toInt64) = mx s v := rfl
theorem itr_0 (F : Nat → Int64 → Int64) (s : Int64) : itr F 0 s = s := rfl
theorem itr_s (F : Nat → Int64 → Int64) (n : Nat) (s : Int64) : itr F (n + 1) s = F n (itr F n s) := rfl
/-- of the tree -/
def dgT (T : tS) (sb : Nat → Int32) (s : Int64) : Int64 := itr (fun i s => itr (fun w s => mx s (nval T sb ((wN T).getD i 0) w)) 6 s) (wN T).length (itr (fun w s => mx s (tval T sb w)) 4 s)
/-- of a shape -/
def dgS (sb : Nat → Int32) (ht cl : Nat → Nat) (ch : Nat → List Nat) (s : Nat) (x : Int64) : Int64 := itr (fun w x => mx x (vvw (vw sb ch s) w)) 4 (itr (fun w x => mx x (vsh sb ht cl s w)) 6 (mx x (nI s)))
/-- of all shapes -/
def dgA (T : tS) (sb : Nat → Int32) (ht cl : Nat → Nat) (ch : Nat → List Nat) (x : Int64) : Int64 := itr (fun i x => dgS sb ht cl ch ((wS T).getD i 0) x) (wS T).length x
/-- of the damage -/
def dgD (D : List Int32) (x : Int64) : Int64 := itr (fun i x => itr (fun w x => mx x (vdm D i w)) 4 x) D.length x
section CDG
variable {h : xH} {a : Nat} {T : tS} {sb : Nat → Int32} {ht cl : Nat → Nat} {ch : Nat → List Nat} {D : List Int32} {I : Nat → Prop}
theorem c_tdigest {S : sS} (hI : INVt T I) (hb : ∀ s, sb s ≠ 0 → bok (sb s)) (hR : RC T sb (bB0 T sb) S) (s0 : Int64) : ∃ g', xM 59 [.ref (a + 1), .long s0] (pS h a S) = some (some (.long (dgT T sb s0)), pS h a (sB S 6 g')) := by
  obtain ⟨g', l1, l2⟩ := c_lineRoot (h := h) (a := a) hI hR
  have R2 : RC T sb (bB0 T sb) (sB S 6 g') := RC_rows hR (fun j hj => sB_n _ _ (by omega)) rfl
  have wl := (wN_len hI).1
  refine ⟨g', ?_⟩
  have in2 : ∀ (i : Nat), i < (wN T).length → ∀ (d w : Nat) (x : Int64), w + d = 6 → xE 59 54 [some (.ref (a + 1)), some (.long s0), none, some (.long (itr (fun w s => mx s (nval T sb ((wN T).getD i 0) w)) w x)), none, some (.int (nI (wN T).length)), some (.int (nI i)), some (.int (nI w))] [] (pS h a (sB S 6 g')) = xE 59 44 [some (.ref (a + 1)), some (.long s0), none, some (.long (itr (fun w s => mx s (nval T sb ((wN T).getD i 0) w)) 6 x)), none, some (.int (nI (wN T).length)), some (.int (nI (i + 1))), some (.int (nI 6))] [] (pS h a (sB S 6 g')) := by
    intro i hi d
    induction d with
    | zero =>
      intro w x hw
      have hw : w = 6 := by omega
      subst hw
      rw [xb59_54, if_neg (show ¬ nI 6 < (6 : Int32) by decide), nI_1]
    | succ d ih =>
      intro w x hw
      rw [xb59_54, if_pos (show nI w < (6 : Int32) from nI_lt (b := 6) (by omega) (by decide)), sl_gt, c_lineValue hI R2 (by rw [sB_s]; exact l2) hi (by omega), xcI_some, nI_1, mx_def]
      have q := ih (w + 1) x (by omega)
      rw [itr_s] at q
      exact q
  have out2 : ∀ (d i : Nat) (x : Int64) (l7 : Option Value), i + d = (wN T).length → xE 59 44 [some (.ref (a + 1)), some (.long s0), none, some (.long (itr (fun i s => itr (fun w s => mx s (nval T sb ((wN T).getD i 0) w)) 6 s) i x)), none, some (.int (nI (wN T).length)), some (.int (nI i)), l7] [] (pS h a (sB S 6 g')) = some (some (.long (itr (fun i s => itr (fun w s => mx s (nval T sb ((wN T).getD i 0) w)) 6 s) (wN T).length x)), pS h a (sB S 6 g')) := by
    intro d
    induction d with
    | zero =>
      intro i x l7 hi
      have hi : i = (wN T).length := by omega
      subst hi
      rw [xb59_44, if_neg (nI_nlt (Nat.le_refl _) (by omega))]
    | succ d ih =>
      intro i x l7 hi
      rw [xb59_44, if_pos (nI_lt (by omega) (by omega))]
      have q := in2 i (by omega) 6 0 (itr (fun i s => itr (fun w s => mx s (nval T sb ((wN T).getD i 0) w)) 6 s) i x) (by decide)
      rw [itr_0] at q
      refine Eq.trans (show _ = _ from q) ?_
      have q2 := ih (i + 1) x (some (.int (nI 6))) (by omega)
      rw [itr_s] at q2
      exact q2
  have out1 : ∀ (d w : Nat), w + d = 4 → xE 59 5 [some (.ref (a + 1)), some (.long s0), none, some (.long (itr (fun w s => mx s (tval T sb w)) w s0)), none, some (.int (nI w)), none, none] [] (pS h a S) = some (some (.long (dgT T sb s0)), pS h a (sB S 6 g')) := by
    intro d
    induction d with
    | zero =>
      intro w hw
      have hw : w = 4 := by omega
      subst hw
      rw [xb59_5, if_neg (show ¬ nI 4 < (4 : Int32) by decide), sl_t0, Option.bind_some, hR.1, sl_gt, l1, xcI_some]
      have q := out2 (wN T).length 0 (itr (fun w s => mx s (tval T sb w)) 4 s0) none (by omega)
      rw [itr_0] at q
      unfold dgT
      exact q
    | succ d ih =>
      intro w hw
      rw [xb59_5, if_pos (show nI w < (4 : Int32) from nI_lt (b := 4) (by omega) (by decide)), sl_gt, c_summary hI hb hR (by omega), xcI_some, nI_1, mx_def]
      have q := ih (w + 1) (by omega)
      rw [itr_s] at q
      exact q
  rw [xb59]
  have q := out1 4 0 (by decide)
  rw [itr_0] at q
  exact q
theorem c_dshape {S : sS} (hS : CSh sb ht cl S) (hc : CHI sb cl ch) {s : Nat} (hs : PR sb s) (x : Int64) : xM 44 [.ref a, .int (nI s), .long x] (pS h a S) = some (some (.long (dgS sb ht cl ch s x)), pS h a S) := by
  have l2 : ∀ (y : Int64) (d w : Nat), w + d = 4 → xE 44 45 [some (.ref a), some (.int (nI s)), some (.long x), none, some (.long (itr (fun w x => mx x (vvw (vw sb ch s) w)) w y)), none, some (.int (nI w))] [] (pS h a S) = some (some (.long (itr (fun w x => mx x (vvw (vw sb ch s) w)) 4 y)), pS h a S) := by
    intro y d
    induction d with
    | zero =>
      intro w hw
      have hw : w = 4 := by omega
      subst hw
      rw [xb44_45, if_neg (show ¬ nI 4 < (4 : Int32) by decide)]
    | succ d ih =>
      intro w hw
      rw [xb44_45, if_pos (show nI w < (4 : Int32) from nI_lt (b := 4) (by omega) (by decide)), sl_gu, c_viewValue hS hc hs, xcI_some, nI_1, mx_def]
      have q := ih (w + 1) (by omega)
      rw [itr_s] at q
      exact q
  have l1 : ∀ (y : Int64) (d w : Nat), w + d = 6 → xE 44 13 [some (.ref a), some (.int (nI s)), some (.long x), none, some (.long (itr (fun w x => mx x (vsh sb ht cl s w)) w y)), none, some (.int (nI w))] [] (pS h a S) = xE 44 45 [some (.ref a), some (.int (nI s)), some (.long x), none, some (.long (itr (fun w x => mx x (vsh sb ht cl s w)) 6 y)), none, some (.int 0)] [] (pS h a S) := by
    intro y d
    induction d with
    | zero =>
      intro w hw
      have hw : w = 6 := by omega
      subst hw
      rw [xb44_13, if_pos (show (5 : Int32) < nI 6 by decide)]
    | succ d ih =>
      intro w hw
      rw [xb44_13, if_neg (show ¬ (5 : Int32) < nI w from nI_nlt (a := 5) (by omega) (by decide)), sl_gu, c_shapeValue hS hc hs (by omega), xcI_some, nI_1, mx_def]
      have q := ih (w + 1) (by omega)
      rw [itr_s] at q
      exact q
  rw [xb44, mx_def]
  have q1 := l1 (mx x (nI s)) 6 0 (by decide)
  rw [itr_0] at q1
  refine Eq.trans (show _ = _ from q1) ?_
  have q2 := l2 (itr (fun w x => mx x (vsh sb ht cl s w)) 6 (mx x (nI s))) 4 0 (by decide)
  rw [itr_0] at q2
  unfold dgS
  exact q2
theorem c_ddigest {S : sS} (hD : CDm D S) (hl : D.length ≤ 4) (x : Int64) : xM 19 [.ref (a + 10), .long x] (pS h a S) = some (some (.long (dgD D x)), pS h a S) := by
  have in2 : ∀ (i : Nat), i < D.length → ∀ (y : Int64) (d w : Nat), w + d = 4 → xE 19 17 [some (.ref (a + 10)), some (.long x), none, some (.long (itr (fun w x => mx x (vdm D i w)) w y)), none, some (.int (nI i)), some (.int (nI w))] [] (pS h a S) = xE 19 5 [some (.ref (a + 10)), some (.long x), none, some (.long (itr (fun w x => mx x (vdm D i w)) 4 y)), none, some (.int (nI (i + 1))), some (.int (nI 4))] [] (pS h a S) := by
    intro i hi y d
    induction d with
    | zero =>
      intro w hw
      have hw : w = 4 := by omega
      subst hw
      rw [xb19_17, if_neg (show ¬ nI 4 < (4 : Int32) by decide), nI_1]
    | succ d ih =>
      intro w hw
      have hv : vdm D i w = bval (D.getD i 0) (nI w) := if_pos hi
      rw [xb19_17, if_pos (show nI w < (4 : Int32) from nI_lt (b := 4) (by omega) (by decide)), sl_d0, Option.bind_some, c_r8 h a S (by omega), Option.bind_some, DL_get hD.2 hi, c_value, xcI_some, nI_1, ← hv, mx_def]
      have q := ih (w + 1) (by omega)
      rw [itr_s] at q
      exact q
  have out : ∀ (d i : Nat) (l6 : Option Value), i + d = D.length → xE 19 5 [some (.ref (a + 10)), some (.long x), none, some (.long (itr (fun i x => itr (fun w x => mx x (vdm D i w)) 4 x) i x)), none, some (.int (nI i)), l6] [] (pS h a S) = some (some (.long (dgD D x)), pS h a S) := by
    intro d
    induction d with
    | zero =>
      intro i l6 hi
      have hi : i = D.length := by omega
      subst hi
      rw [xb19_5, sl_d1, Option.bind_some, hD.1, if_neg (nI_nlt (Nat.le_refl _) (by omega))]
      rfl
    | succ d ih =>
      intro i l6 hi
      rw [xb19_5, sl_d1, Option.bind_some, hD.1, if_pos (nI_lt (by omega) (by omega))]
      have q := in2 i (by omega) (itr (fun i x => itr (fun w x => mx x (vdm D i w)) 4 x) i x) 4 0 (by decide)
      rw [itr_0] at q
      refine Eq.trans (show _ = _ from q) ?_
      have q2 := ih (i + 1) (some (.int (nI 4))) (by omega)
      rw [itr_s] at q2
      exact q2
  rw [xb19]
  have q := out D.length 0 none (by omega)
  rw [itr_0] at q
  exact q
end CDG
/-- the reference's state with another checksum -/
def sH (S : mS) (x : Int64) : mS := (S.1, S.2.1, x)
theorem sH_h (S : mS) (x : Int64) : (sH S x).2.2 = x := rfl
theorem sH_id (S : mS) : sH S S.2.2 = S := rfl
/-- what the checksum may change -/
def KH (S S' : mS) : Prop := (∀ k, k ≠ 8 → k ≠ 9 → k ≠ 10 → k ≠ 11 → k ≠ 13 → S'.1 k = S.1 k) ∧ ∀ k, k ≠ 12 → k ≠ 14 → S'.2.1 k = S.2.1 k
theorem KH_rf (S : mS) : KH S S := ⟨fun _ _ _ _ _ _ => rfl, fun _ _ _ => rfl⟩
theorem KH_tr {S S' S'' : mS} (h1 : KH S S') (h2 : KH S' S'') : KH S S'' := ⟨fun k a b c d e => (h2.1 k a b c d e).trans (h1.1 k a b c d e), fun k a b => (h2.2 k a b).trans (h1.2 k a b)⟩
theorem KH_sH (S : mS) (x : Int64) : KH S (sH S x) := ⟨fun _ _ _ _ _ _ => rfl, fun _ _ _ => rfl⟩
theorem SV_KH {S S' : mS} (hv : SV S S') : KH S S' := ⟨hv.1, hv.2.1⟩
theorem KH_KM {S S' : mS} (hv : KH S S') : KM S S' := ⟨fun k q => hv.1 k (by omega) (by omega) (by omega) (by omega) (by omega), fun k q => hv.2 k (by omega) (by omega)⟩
section MDG
variable {h : xH} {a : Nat} {f : Nat → Int32} {T : tS} {sb : Nat → Int32} {ht cl : Nat → Nat} {ch : Nat → List Nat} {D : List Int32} {I : Nat → Prop}
theorem m_mix (S : mS) (v : Int32) : xM 195 [.ref a, .long ((v : Int32).toInt64)] (pM h a (m0 S f)) = some (none, pM h a (m0 (sH S (mx S.2.2 v)) f)) := by
  have h1 : xfL (pM h a (m0 S f)) a 5 24 = some S.2.2 := ml_l ..
  have h2 : ∀ x : Int64, xpf (pM h a (m0 S f)) a 5 24 (.long x) = some (pM h a (m0 (sH S x) f)) := fun x => ml_pl ..
  rw [xb195, h1, Option.bind_some, h2, Option.bind_some]
  unfold mx
  rfl
def told (S : mS) (sb : Nat → Int32) (D : List Int32) (k : Nat) : Int32 := if k = 3 then S.2.1 6 else if k = 4 then S.2.1 3 else if k = 5 then nI (cnt (fun t => decide (sb t ≠ 0)) 16) else if k = 6 then nI D.length else S.1 4 k
theorem m_toldOf {S : mS} (hM : MSh sb ht cl f) (hD : MD f D) {k : Nat} (hk : k < 7) : xM 193 [.ref a, .int (nI k)] (pM h a (m0 S f)) = some (some (.int (told S sb D k)), pM h a (m0 S f)) := by
  have i6 : xfI (pM h a (m0 S f)) a 5 6 = some (S.2.1 6) := ml_i6 ..
  have i3 : xfI (pM h a (m0 S f)) a 5 3 = some (S.2.1 3) := ml_i3 ..
  unfold told
  rw [xb193]
  by_cases c3 : k = 3
  · rw [if_pos (show nI k = (3 : Int32) by rw [c3]; rfl), if_pos c3, i6, Option.bind_some]
  · rw [if_neg (show ¬ nI k = (3 : Int32) from nI_nel (n := 3) (by omega) (by decide) c3), if_neg c3]
    by_cases c4 : k = 4
    · rw [if_pos (show nI k = (4 : Int32) by rw [c4]; rfl), if_pos c4, i3, Option.bind_some]
    · rw [if_neg (show ¬ nI k = (4 : Int32) from nI_nel (n := 4) (by omega) (by decide) c4), if_neg c4]
      by_cases c5 : k = 5
      · rw [if_pos (show nI k = (5 : Int32) by rw [c5]; rfl), if_pos c5, ml_gu, m_shapes hM, xcI_some]
      · rw [if_neg (show ¬ nI k = (5 : Int32) from nI_nel (n := 5) (by omega) (by decide) c5), if_neg c5]
        by_cases c6 : k = 6
        · rw [if_pos (show nI k = (6 : Int32) by rw [c6]; rfl), if_pos c6, ml_f0, Option.bind_some, m_r305, Option.bind_some, hD.1]
        · rw [if_neg (show ¬ nI k = (6 : Int32) from nI_nel (n := 6) (by omega) (by decide) c6), if_neg c6, ml_f4, Option.bind_some, ml_r4, xin_nI (show k < 3 by omega) (by decide), cond_true, nI_clamp (by omega), m0_n _ _ (by decide), Option.bind_some]
theorem told_KH {S S' : mS} (hv : KH S S') (k : Nat) : told S' sb D k = told S sb D k := by
  unfold told
  rw [hv.2 6 (by decide) (by decide), hv.2 3 (by decide) (by decide), hv.1 4 (by decide) (by decide) (by decide) (by decide) (by decide)]
theorem m_digest {S : mS} (hI : INVt T I) (hIp : ∀ s, I s → PR sb s) (hL : LBt T) (hb : ∀ s, sb s ≠ 0 → bok (sb s)) (hc : CHI sb cl ch) (hR : RM T sb (bB0 T sb) f) (hM : MSh sb ht cl f) (hD : MD f D) (hk : ∀ b, b ∈ D → bok b) (hl : D.length ≤ 4) : ∃ S', xM 196 [.ref a] (pM h a (m0 S f)) = some (some (.long (dgD D (dgA T sb ht cl ch (dgT T sb (itr (fun k x => mx x (told S sb D k)) 7 ((1757 : Int32).toInt64)))))), pM h a (m0 S' f)) ∧ KH S S' := by
  obtain ⟨⟨r, hr, -⟩, -⟩ := id hI
  have hWN : preR T.2.2.1 r T.1 = wN T := by unfold wN; rw [rkv_eq hr]
  have hWS : shR T.2.2.1 r T.1 = wS T := by unfold wS; rw [rkv_eq hr]
  obtain ⟨nl16, nl1⟩ := wN_len hI
  obtain ⟨sl16, slp⟩ := wS_len hI
  -- the counts
  have p1 : ∀ (d k : Nat) (S1 : mS), k + d = 7 → KH S S1 → ∃ S2, xE 196 9 [some (.ref a), some (.int (nI k)), none, none] [] (pM h a (m0 S1 f)) = xE 196 33 [some (.ref a), some (.int 0), none, none] [] (pM h a (m0 S2 f)) ∧ KH S S2 ∧ (∀ x, S1.2.2 = itr (fun k x => mx x (told S sb D k)) k x → S2.2.2 = itr (fun k x => mx x (told S sb D k)) 7 x) := by
    intro d
    induction d with
    | zero =>
      intro k S1 hk' hv
      have hk' : k = 7 := by omega
      subst hk'
      refine ⟨S1, ?_, hv, fun x q => q⟩
      rw [xb196_9, if_neg (show ¬ nI 7 < (7 : Int32) by decide)]
    | succ d ih =>
      intro k S1 hk' hv
      obtain ⟨S2, z1, z2, z3⟩ := ih (k + 1) (sH S1 (mx S1.2.2 (told S1 sb D k))) (by omega) (KH_tr hv (KH_sH _ _))
      refine ⟨S2, ?_, z2, fun x q => z3 x ?_⟩
      · rw [xb196_9, if_pos (show nI k < (7 : Int32) from nI_lt (b := 7) (by omega) (by decide)), ml_gu, m_toldOf hM hD (by omega), xcI_some, ml_gu, m_mix, xcV_some, nI_1]
        exact z1
      · rw [sH_h, itr_s, q, told_KH hv]
  -- the tree's values
  have p2 : ∀ (d k : Nat) (S1 : mS), k + d = 4 → ∃ S2, xE 196 33 [some (.ref a), some (.int (nI k)), none, none] [] (pM h a (m0 S1 f)) = xE 196 33 [some (.ref a), some (.int (nI 4)), none, none] [] (pM h a (m0 S2 f)) ∧ KH S1 S2 ∧ (∀ x, S1.2.2 = itr (fun w s => mx s (tval T sb w)) k x → S2.2.2 = itr (fun w s => mx s (tval T sb w)) 4 x) := by
    intro d
    induction d with
    | zero =>
      intro k S1 hk'
      have hk' : k = 4 := by omega
      subst hk'
      exact ⟨S1, rfl, KH_rf S1, fun x q => q⟩
    | succ d ih =>
      intro k S1 hk'
      obtain ⟨S2, y1, y2⟩ := m_treeOf (h := h) (a := a) (S := S1) hI hL hb hR (w := k) (by omega)
      obtain ⟨S3, z1, z2, z3⟩ := ih (k + 1) (sH S2 (mx S2.2.2 (tval T sb k))) (by omega)
      refine ⟨S3, ?_, KH_tr (SV_KH y2) (KH_tr (KH_sH _ _) z2), fun x q => z3 x ?_⟩
      · rw [xb196_33, if_pos (show nI k < (4 : Int32) from nI_lt (b := 4) (by omega) (by decide)), ml_gu, y1, xcI_some, ml_gu, m_mix, xcV_some, nI_1]
        exact z1
      · rw [sH_h, itr_s, y2.2.2, q]
  -- the nodes
  have p3i : ∀ (i : Nat), i < (wN T).length → ∀ (d w : Nat) (S1 : mS), w + d = 6 → HL (S1.1 10) (wN T) → HL (S1.1 11) ((wN T).map (dep T (rkv T T.1))) → ∃ y, xE 196 78 [some (.ref a), some (.int (nI i)), some (.int (nI w)), none] [] (pM h a (m0 S1 f)) = xE 196 68 [some (.ref a), some (.int (nI (i + 1))), some (.int (nI 6)), none] [] (pM h a (m0 (sH S1 y) f)) ∧ ∀ x, S1.2.2 = itr (fun w s => mx s (nval T sb ((wN T).getD i 0) w)) w x → y = itr (fun w s => mx s (nval T sb ((wN T).getD i 0) w)) 6 x := by
    intro i hi d
    induction d with
    | zero =>
      intro w S1 hw _ _
      have hw : w = 6 := by omega
      subst hw
      refine ⟨S1.2.2, ?_, fun x q => q⟩
      rw [xb196_78, if_neg (show ¬ nI 6 < (6 : Int32) by decide), nI_1, sH_id]
    | succ d ih =>
      intro w S1 hw h10 h11
      obtain ⟨y, z1, z2⟩ := ih (w + 1) (sH S1 (mx S1.2.2 (nval T sb ((wN T).getD i 0) w))) (by omega) h10 h11
      refine ⟨y, ?_, fun x q => z2 x ?_⟩
      · rw [xb196_78, if_pos (show nI w < (6 : Int32) from nI_lt (b := 6) (by omega) (by decide)), ml_gu, m_walkedOf hI hb hR h10 h11 hi (by omega), xcI_some, ml_gu, m_mix, xcV_some, nI_1]
        exact z1
      · rw [sH_h, itr_s, q]
  have p3 : ∀ (d i : Nat) (S1 : mS) (l2 : Option Value), i + d = (wN T).length → HL (S1.1 10) (wN T) → HL (S1.1 11) ((wN T).map (dep T (rkv T T.1))) → S1.2.1 12 = nI (wN T).length → ∃ y l2', xE 196 68 [some (.ref a), some (.int (nI i)), l2, none] [] (pM h a (m0 S1 f)) = xE 196 109 [some (.ref a), some (.int 0), l2', none] [] (pM h a (m0 (sH S1 y) f)) ∧ ∀ x, S1.2.2 = itr (fun i s => itr (fun w s => mx s (nval T sb ((wN T).getD i 0) w)) 6 s) i x → y = itr (fun i s => itr (fun w s => mx s (nval T sb ((wN T).getD i 0) w)) 6 s) (wN T).length x := by
    intro d
    induction d with
    | zero =>
      intro i S1 l2 hi _ _ h12
      have hi : i = (wN T).length := by omega
      subst hi
      refine ⟨S1.2.2, l2, ?_, fun x q => q⟩
      rw [xb196_68, a_i12, Option.bind_some, h12, if_neg (nI_nlt (Nat.le_refl _) (by omega)), sH_id]
    | succ d ih =>
      intro i S1 l2 hi h10 h11 h12
      obtain ⟨y, z1, z2⟩ := p3i i (by omega) 6 0 S1 (by decide) h10 h11
      obtain ⟨y2, l2', u1, u2⟩ := ih (i + 1) (sH S1 y) (some (.int (nI 6))) (by omega) h10 h11 h12
      refine ⟨y2, l2', ?_, fun x q => u2 x ?_⟩
      · rw [xb196_68, a_i12, Option.bind_some, h12, if_pos (nI_lt (by omega) (by omega))]
        exact Eq.trans (show _ = _ from z1) u1
      · rw [sH_h, itr_s]
        exact z2 _ (by rw [itr_0]; exact q)
  -- the shapes
  have p4b : ∀ (i s : Nat), PR sb s → ∀ (d w : Nat) (S1 : mS), w + d = 4 → ∃ y, xE 196 157 [some (.ref a), some (.int (nI i)), some (.int (nI s)), some (.int (nI w))] [] (pM h a (m0 S1 f)) = xE 196 109 [some (.ref a), some (.int (nI (i + 1))), some (.int (nI s)), some (.int (nI 4))] [] (pM h a (m0 (sH S1 y) f)) ∧ ∀ x, S1.2.2 = itr (fun w x => mx x (vvw (vw sb ch s) w)) w x → y = itr (fun w x => mx x (vvw (vw sb ch s) w)) 4 x := by
    intro i s hs d
    induction d with
    | zero =>
      intro w S1 hw
      have hw : w = 4 := by omega
      subst hw
      refine ⟨S1.2.2, ?_, fun x q => q⟩
      rw [xb196_157, if_neg (show ¬ nI 4 < (4 : Int32) by decide), nI_1, sH_id]
    | succ d ih =>
      intro w S1 hw
      obtain ⟨y, z1, z2⟩ := ih (w + 1) (sH S1 (mx S1.2.2 (vvw (vw sb ch s) w))) (by omega)
      refine ⟨y, ?_, fun x q => z2 x ?_⟩
      · rw [xb196_157, if_pos (show nI w < (4 : Int32) from nI_lt (b := 4) (by omega) (by decide)), ml_gu, m_viewOf hM hb hc hs, xcI_some, m_partv (vw_ok hb hc hs) (by omega), xcI_some, ml_gu, m_mix, xcV_some, nI_1]
        exact z1
      · rw [sH_h, itr_s, q]
  have p4a : ∀ (i s : Nat), PR sb s → ∀ (d w : Nat) (S1 : mS), w + d = 6 → ∃ y, xE 196 132 [some (.ref a), some (.int (nI i)), some (.int (nI s)), some (.int (nI w))] [] (pM h a (m0 S1 f)) = xE 196 157 [some (.ref a), some (.int (nI i)), some (.int (nI s)), some (.int 0)] [] (pM h a (m0 (sH S1 y) f)) ∧ ∀ x, S1.2.2 = itr (fun w x => mx x (vsh sb ht cl s w)) w x → y = itr (fun w x => mx x (vsh sb ht cl s w)) 6 x := by
    intro i s hs d
    induction d with
    | zero =>
      intro w S1 hw
      have hw : w = 6 := by omega
      subst hw
      refine ⟨S1.2.2, ?_, fun x q => q⟩
      rw [xb196_132, if_neg (show ¬ nI 6 < (6 : Int32) by decide), sH_id]
    | succ d ih =>
      intro w S1 hw
      obtain ⟨y, z1, z2⟩ := ih (w + 1) (sH S1 (mx S1.2.2 (vsh sb ht cl s w))) (by omega)
      refine ⟨y, ?_, fun x q => z2 x ?_⟩
      · rw [xb196_132, if_pos (show nI w < (6 : Int32) from nI_lt (b := 6) (by omega) (by decide)), ml_gu, m_told0 hM hb hc hs (by omega), xcI_some, ml_gu, m_mix, xcV_some, nI_1]
        exact z1
      · rw [sH_h, itr_s, q]
  have p4 : ∀ (d i : Nat) (S1 : mS) (l2 l3 : Option Value), i + d = (wS T).length → HL (S1.1 13) (wS T) → S1.2.1 14 = nI (wS T).length → ∃ y l2' l3', xE 196 109 [some (.ref a), some (.int (nI i)), l2, l3] [] (pM h a (m0 S1 f)) = xE 196 191 [some (.ref a), some (.int 0), l2', l3'] [] (pM h a (m0 (sH S1 y) f)) ∧ ∀ x, S1.2.2 = itr (fun i x => dgS sb ht cl ch ((wS T).getD i 0) x) i x → y = dgA T sb ht cl ch x := by
    intro d
    induction d with
    | zero =>
      intro i S1 l2 l3 hi _ h14
      have hi : i = (wS T).length := by omega
      subst hi
      refine ⟨S1.2.2, l2, l3, ?_, fun x q => by unfold dgA; exact q⟩
      rw [xb196_109, a_i14, Option.bind_some, h14, if_neg (nI_nlt (Nat.le_refl _) (by omega)), sH_id]
    | succ d ih =>
      intro i S1 l2 l3 hi h13 h14
      have hlt : i < (wS T).length := by omega
      have hg : (wS T).getD i 0 = (wS T)[i] := by rw [List.getD_eq_getElem?_getD, List.getElem?_eq_getElem hlt]; rfl
      have h13i : S1.1 13 i = nI ((wS T).getD i 0) := by rw [hg]; exact h13 i _ (List.getElem?_eq_getElem hlt)
      have hps : PR sb ((wS T).getD i 0) := by rw [hg]; exact hIp _ (slp _ (List.getElem_mem hlt)).1
      obtain ⟨y1, z1, z2⟩ := p4a i ((wS T).getD i 0) hps 6 0 (sH S1 (mx S1.2.2 (nI ((wS T).getD i 0)))) (by decide)
      obtain ⟨y2, u1, u2⟩ := p4b i ((wS T).getD i 0) hps 4 0 (sH S1 y1) (by decide)
      obtain ⟨y3, l2', l3', v1, v2⟩ := ih (i + 1) (sH S1 y2) (some (.int (nI ((wS T).getD i 0)))) (some (.int (nI 4))) (by omega) h13 h14
      refine ⟨y3, l2', l3', ?_, fun x q => v2 x ?_⟩
      · rw [xb196_109, a_i14, Option.bind_some, h14, if_pos (nI_lt hlt (by omega)), ml_f13, Option.bind_some, a_r13 h a S1 f (by omega), Option.bind_some, h13i, ml_gu, m_mix, xcV_some]
        exact (Eq.trans (show _ = _ from z1) (show _ = _ from u1)).trans v1
      · rw [sH_h, itr_s]
        have e1 := z2 (mx (itr (fun i x => dgS sb ht cl ch ((wS T).getD i 0) x) i x) (nI ((wS T).getD i 0))) (by rw [sH_h, itr_0, q])
        have e2 := u2 (itr (fun w x => mx x (vsh sb ht cl ((wS T).getD i 0) w)) 6 (mx (itr (fun i x => dgS sb ht cl ch ((wS T).getD i 0) x) i x) (nI ((wS T).getD i 0)))) (by rw [sH_h, itr_0]; exact e1)
        rw [e2]
        unfold dgS
        rfl
  -- the damage
  have p5i : ∀ (i : Nat), i < D.length → ∀ (l3 : Option Value) (d w : Nat) (S1 : mS), w + d = 4 → ∃ y, xE 196 205 [some (.ref a), some (.int (nI i)), some (.int (nI w)), l3] [] (pM h a (m0 S1 f)) = xE 196 191 [some (.ref a), some (.int (nI (i + 1))), some (.int (nI 4)), l3] [] (pM h a (m0 (sH S1 y) f)) ∧ ∀ x, S1.2.2 = itr (fun w x => mx x (vdm D i w)) w x → y = itr (fun w x => mx x (vdm D i w)) 4 x := by
    intro i hi l3 d
    induction d with
    | zero =>
      intro w S1 hw
      have hw : w = 4 := by omega
      subst hw
      refine ⟨S1.2.2, ?_, fun x q => q⟩
      rw [xb196_205, if_neg (show ¬ nI 4 < (4 : Int32) by decide), nI_1, sH_id]
    | succ d ih =>
      intro w S1 hw
      have hv : f (306 + i) = D.getD i 0 := DL_get hD.2 hi
      have hvd : vdm D i w = bval (D.getD i 0) (nI w) := if_pos hi
      obtain ⟨y, z1, z2⟩ := ih (w + 1) (sH S1 (mx S1.2.2 (vdm D i w))) (by omega)
      refine ⟨y, ?_, fun x q => z2 x ?_⟩
      · rw [xb196_205, if_pos (show nI w < (4 : Int32) from nI_lt (b := 4) (by omega) (by decide)), ml_gu, m_dbox f (by omega), xcI_some, hv, m_part (hk _ (getD_memI hi)) (by omega), xcI_some, ml_gu, ← hvd, m_mix, xcV_some, nI_1]
        exact z1
      · rw [sH_h, itr_s, q]
  have p5 : ∀ (d i : Nat) (S1 : mS) (l2 l3 : Option Value), i + d = D.length → ∃ y, xE 196 191 [some (.ref a), some (.int (nI i)), l2, l3] [] (pM h a (m0 S1 f)) = some (some (.long y), pM h a (m0 (sH S1 y) f)) ∧ ∀ x, S1.2.2 = itr (fun i x => itr (fun w x => mx x (vdm D i w)) 4 x) i x → y = dgD D x := by
    intro d
    induction d with
    | zero =>
      intro i S1 l2 l3 hi
      have hi : i = D.length := by omega
      subst hi
      have h1 : xfL (pM h a (m0 S1 f)) a 5 24 = some S1.2.2 := ml_l ..
      refine ⟨S1.2.2, ?_, fun x q => by unfold dgD; exact q⟩
      rw [xb196_191, ml_f0, Option.bind_some, m_r305, Option.bind_some, hD.1, if_neg (nI_nlt (Nat.le_refl _) (by omega)), h1, Option.bind_some, sH_id]
    | succ d ih =>
      intro i S1 l2 l3 hi
      obtain ⟨y, z1, z2⟩ := p5i i (by omega) l3 4 0 S1 (by decide)
      obtain ⟨y2, u1, u2⟩ := ih (i + 1) (sH S1 y) (some (.int (nI 4))) l3 (by omega)
      refine ⟨y2, ?_, fun x q => u2 x ?_⟩
      · rw [xb196_191, ml_f0, Option.bind_some, m_r305, Option.bind_some, hD.1, if_pos (nI_lt (by omega) (by omega))]
        exact Eq.trans (show _ = _ from z1) u1
      · rw [sH_h, itr_s]
        exact z2 _ (by rw [itr_0]; exact q)
  have hpl : xpf (pM h a (m0 S f)) a 5 24 (.long ((1757 : Int32).toInt64)) = some (pM h a (m0 (sH S ((1757 : Int32).toInt64)) f)) := ml_pl ..
  obtain ⟨S1, a1, a2, a3⟩ := p1 7 0 (sH S ((1757 : Int32).toInt64)) (by decide) (KH_sH _ _)
  have a3' := a3 ((1757 : Int32).toInt64) (by rw [sH_h, itr_0])
  obtain ⟨S2, b1, b2, b3⟩ := p2 4 0 S1 (by decide)
  have b3' := b3 S1.2.2 (by rw [itr_0])
  obtain ⟨S3, w1, w2, w3, w4, w5, w6, w7⟩ := m_walks (h := h) (a := a) (S := S2) hI hR hr
  rw [hWN] at w3 w4 w5
  rw [hWS] at w6 w7
  rw [show r = rkv T T.1 from (rkv_eq hr).symm] at w4
  obtain ⟨y4, l2', c1, c2⟩ := p3 (wN T).length 0 S3 none (by omega) w3 w4 w5
  have c2' := c2 S2.2.2 (by rw [itr_0, w2.2.2])
  obtain ⟨y5, l2'', l3', d1, d2⟩ := p4 (wS T).length 0 (sH S3 y4) l2' none (by omega) w6 w7
  have d2' := d2 y4 (by rw [itr_0, sH_h])
  obtain ⟨y6, e1, e2⟩ := p5 D.length 0 (sH S3 y5) l2'' l3' (by omega)
  have e2' := e2 y5 (by rw [itr_0, sH_h])
  refine ⟨sH S3 y6, ?_, KH_tr a2 (KH_tr b2 (KH_tr (SV_KH w2) (KH_sH _ _)))⟩
  have hroot : xri (pM h a (m0 S2 f)) 0 (a + 1) 304 = some (f 304) := m_r0 h a S2 f (i := 304) (by decide)
  unfold dgT
  rw [← a3', ← b3', ← c2', ← d2', ← e2', xb196, hpl, Option.bind_some]
  refine (Eq.trans (show _ = _ from a1) (show _ = _ from b1)).trans ?_
  rw [xb196_33, if_neg (show ¬ nI 4 < (4 : Int32) by decide), ml_f0, Option.bind_some, hroot, Option.bind_some, hR.1, ml_gu, w1, xcV_some]
  exact Eq.trans (show _ = _ from c1) (Eq.trans (show _ = _ from d1) (show _ = _ from e1))
end MDG
