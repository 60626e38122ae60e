/-! The class's tree: which of the two, the whole split, the twin gets its place -/
section CT
variable {h : xH} {a : Nat} {S : sS} {T : tS} {sb bx b : Nat → Int32} {x w k : Nat} {l1 l2 : List Nat}
theorem c_chosen (hR : RC T sb b S) {kx kw e left i kk : Nat} {g : Nat → Int32} (hx : T.2.1 x = some kx) (hw : T.2.1 w = some kw) (hl1 : T.2.2.1 x = l1) (hl2 : T.2.2.1 w = l2) (bx1 : b x = fbx g l1) (bx2 : b w = fbx g l2) (hi : i + left = 3) (hil : i < 3) (h5 : S.1 5 i = nI (off kk e)) (he : e < 16) (hbe : S.1 0 (off kk e) = g e) : xM 68 [.ref (a + 1), .int (nI (16 + x)), .int (nI (16 + w)), .int (nI i)] (pS h a S) = some (some (.int (nI (16 + if tof g l1 l2 e left = true then x else w))), pS h a S) := by
  obtain ⟨x16, -, x2, -, x4, x5, -⟩ := hR.2.2.1 x kx hx
  obtain ⟨w16, -, w2, -, w4, w5, -⟩ := hR.2.2.1 w kw hw
  rw [hl1] at x2 x5
  rw [hl2] at w2 w5
  rw [bx1] at x4
  rw [bx2] at w4
  have hsub : (3 : Int32) - nI i = nI left := by
    rw [show (3 : Int32) = nI 3 from rfl, pk_sub (by omega)]
    congr 1
    omega
  have c1 : nI l1.length + nI left = 2 ↔ l1.length + left = 2 := by
    rw [nI_add]; exact nI_eq (b := 2) (by omega) (by decide)
  have c2 : nI l2.length + nI left = 2 ↔ l2.length + left = 2 := by
    rw [nI_add]; exact nI_eq (b := 2) (by omega) (by decide)
  have rx0 : xri (pS h a S) 0 (a + 2) (nI (16 + x)) = some (fbx g l1) := by rw [c_r0 h a S (by omega), x4]
  have rw0 : xri (pS h a S) 0 (a + 2) (nI (16 + w)) = some (fbx g l2) := by rw [c_r0 h a S (by omega), w4]
  have rx3 : xri (pS h a S) 0 (a + 5) (nI (16 + x)) = some (nI l1.length) := by rw [c_r3 h a S (by omega), x2]
  have rw3 : xri (pS h a S) 0 (a + 5) (nI (16 + w)) = some (nI l2.length) := by rw [c_r3 h a S (by omega), w2]
  have re : xri (pS h a S) 0 (a + 2) (nI (off kk e)) = some (g e) := by rw [c_r0 h a S (off_lt he), hbe]
  have r5 : xri (pS h a S) 0 (a + 7) (nI i) = some (nI (off kk e)) := by rw [c_r5 h a S hil, h5]
  unfold tof
  rw [xb68]
  simp only [sl_t4, sl_t1, sl_t6, Option.bind_some, rx3, rw3, rx0, rw0, r5, re, hsub, c_growth, c_area, xcI_some]
  by_cases q1 : l1.length + left = 2
  · rw [if_pos (c1.mpr q1), if_pos q1, if_pos rfl]
  · rw [if_neg (fun z => q1 (c1.mp z)), if_neg q1]
    by_cases q2 : l2.length + left = 2
    · rw [if_pos (c2.mpr q2), if_pos q2, if_neg (by decide)]
    · rw [if_neg (fun z => q2 (c2.mp z)), if_neg q2]
      have fold : ∀ d : Int32, (if (!decide (0 < d)) = true then x else w) = if 0 < d then w else x := fun d => by
        by_cases q : 0 < d
        · rw [if_pos q, if_neg (by simp [q])]
        · rw [if_neg q, if_pos (by simp [q])]
      have e99 : ∀ d l4 l5 : Int32, xE 68 99 [some (.ref (a + 1)), some (.int (nI (16 + x))), some (.int (nI (16 + w))), some (.int (nI i)), some (.int l4), some (.int l5), some (.int d)] [] (pS h a S) = some (some (.int (nI (16 + if 0 < (if d = 0 then nI l1.length - nI l2.length else d) then w else x))), pS h a S) := fun d l4 l5 => by
        rw [xb68_99]
        simp only [sl_t4, Option.bind_some, rx3, rw3]
        by_cases d1 : d = 0
        · rw [if_pos d1, if_pos d1]
          split <;> rfl
        · rw [if_neg d1, if_neg d1]
          split <;> rfl
      rw [fold, e99, e99]
      by_cases d0 : cgr (fbx g l1) (g e) - cgr (fbx g l2) (g e) = 0
      · rw [if_pos d0, if_pos d0]
      · simp only [if_neg d0]
theorem c_deal (hX : HX T x w k) (hE : EN T sb) {l : List Nat} (hl : T.2.2.1 x = l) (l1' l3' : Int32) : ∀ (d i : Nat) (l1 l2 : List Nat) (b : Nat → Int32) (S : sS) (r : List Nat), i + d = 3 → r.length = d → (∀ j e, r[j]? = some e → S.1 5 (i + j) = nI (off k e)) → RC (hvT T x w k l1 l2) sb b S → b x = fbx (ebx T.2.1 sb bx x) l1 → b w = fbx (ebx T.2.1 sb bx x) l2 → (∀ n j, T.2.1 n = some j → n ≠ x → b n = bx n) → (l1 ++ (l2 ++ r)).Nodup → (∀ e, e ∈ r → e ∈ l) → l1.length + l2.length + r.length = 5 → 1 ≤ l1.length → 1 ≤ l2.length →
      ∃ S' b', xE 53 111 [some (.ref (a + 1)), some (.int l1'), some (.int (nI (16 + x))), some (.int l3'), some (.int (nI (16 + w))), some (.int (nI i))] [] (pS h a S) = xE 53 111 [some (.ref (a + 1)), some (.int l1'), some (.int (nI (16 + x))), some (.int l3'), some (.int (nI (16 + w))), some (.int (nI 3))] [] (pS h a S') ∧ RC (hvT T x w k (dst (ebx T.2.1 sb bx x) l1 l2 r).1 (dst (ebx T.2.1 sb bx x) l1 l2 r).2) sb b' S' ∧ b' x = fbx (ebx T.2.1 sb bx x) (dst (ebx T.2.1 sb bx x) l1 l2 r).1 ∧ b' w = fbx (ebx T.2.1 sb bx x) (dst (ebx T.2.1 sb bx x) l1 l2 r).2 ∧ (∀ n j, T.2.1 n = some j → n ≠ x → b' n = bx n) ∧ KP ALLQ S S' := by
  have hxw := HX_ne hX
  intro d
  induction d with
  | zero =>
    intro i l1 l2 b S r hi hr h5 hR hbx hbw hbo hn hm hlen len1 len2
    have hi : i = 3 := by omega
    subst hi
    have hr : r = [] := List.length_eq_zero_iff.mp hr
    subst hr
    exact ⟨S, b, rfl, hR, hbx, hbw, hbo, KP_rf _ S⟩
  | succ d ih =>
    intro i l1 l2 b S r hi hr h5 hR hbx hbw hbo hn hm hlen len1 len2
    cases r with
    | nil => cases hr
    | cons e r =>
      rw [List.length_cons] at hr hlen
      have hel : e ∈ T.2.2.1 x := by rw [hl]; exact hm e List.mem_cons_self
      have e16 := hX.2.2.1 e hel
      have hxe : k ≠ 0 → x ∉ T.2.2.1 x := fun hk q => (hX.2.2.2.1 hk x q).2.1 rfl
      have hx' : (hvT T x w k l1 l2).2.1 x = some k := (hv_ro hxw).trans hX.1
      have hEe : ∀ y, y = x ∨ y = w → ebx (hvT T x w k l1 l2).2.1 sb b y e = ebx T.2.1 sb bx x e := fun y hy => hv_E hE hX.1 hX.2.1 hxe hbo hy hel
      have h5e : S.1 5 i = nI (off k e) := h5 0 e rfl
      have hbe : S.1 0 (off k e) = ebx T.2.1 sb bx x e := by
        rw [← hEe x (Or.inl rfl)]
        refine RC_box hR hx' e16 (fun hk => ?_)
        obtain ⟨⟨j, hj⟩, -⟩ := hX.2.2.2.1 hk e hel
        exact ⟨j, (hv_ro (HX_ew hX hel hk)).trans hj⟩
      have hch := c_chosen (h := h) (a := a) (left := r.length + 1) (i := i) (kk := k) (g := ebx T.2.1 sb bx x) hR hx' hv_rw (hv_x hxw) hv_w hbx hbw (by omega) (by omega) h5e e16 hbe
      have hnn := List.nodup_append.mp hn
      have hn2 := List.nodup_append.mp hnn.2.1
      have he1 : e ∉ l1 := fun q => hnn.2.2 e q e (List.mem_append_right _ List.mem_cons_self) rfl
      have he2 : e ∉ l2 := fun q => hn2.2.2 e q e List.mem_cons_self rfl
      have hrd : xri (pS h a S) 0 (a + 7) (nI i) = some (nI (off k e)) := by rw [c_r5 h a S (by omega), h5e]
      rw [xb53_111, if_pos (show nI i < (3 : Int32) from nI_lt (b := 3) (by omega) (by decide)), sl_gt, hch, xcI_some, sl_t6, Option.bind_some, hrd, Option.bind_some, sl_gt, nI_1]
      by_cases ht : tof (ebx T.2.1 sb bx x) l1 l2 e (r.length + 1) = true
      · rw [if_pos ht]
        obtain ⟨S1, a1, a2, a3, a4⟩ := c_putx (h := h) (a := a) hX hR (by omega) hel he1 he2
        rw [hEe x (Or.inl rfl), hbx, ← fbx_snoc] at a2
        have hdst : dst (ebx T.2.1 sb bx x) l1 l2 (e :: r) = dst (ebx T.2.1 sb bx x) (l1 ++ [e]) l2 r := by
          rw [dst, if_pos ht]
        have hlen2 : (l1 ++ [e]).length = l1.length + 1 := by rw [List.length_append]; rfl
        have hp : (l1 ++ (l2 ++ e :: r)).Perm ((l1 ++ [e]) ++ (l2 ++ r)) := by
          rw [List.append_assoc]
          exact List.Perm.append_left _ List.perm_middle
        obtain ⟨S', b', z1, z2, z3, z4, z5, z6⟩ := ih (i + 1) (l1 ++ [e]) l2 _ S1 r (by omega) (by omega) (fun j y hy => by
            rw [a4, show i + 1 + j = i + (j + 1) by omega]; exact h5 (j + 1) y hy) a2 (up_s _ _ _) (by rw [up_n _ _ (fun q : w = x => hxw q.symm)]; exact hbw) (fun n j hn hnx => by rw [up_n _ _ hnx]; exact hbo n j hn hnx) (hp.nodup_iff.mp hn) (fun y hy => hm y (List.mem_cons_of_mem _ hy)) (by omega) (by omega) (by omega)
        rw [hdst]
        refine ⟨S', b', ?_, z2, z3, z4, z5, KP_tr a3 z6⟩
        rw [a1, xcV_some]
        exact z1
      · rw [if_neg ht]
        obtain ⟨S1, a1, a2, a3, a4⟩ := c_putw (h := h) (a := a) hX hR (by omega) hel he1 he2
        rw [hEe w (Or.inr rfl), hbw, ← fbx_snoc] at a2
        have hdst : dst (ebx T.2.1 sb bx x) l1 l2 (e :: r) = dst (ebx T.2.1 sb bx x) l1 (l2 ++ [e]) r := by
          rw [dst, if_neg ht]
        have hlen2 : (l2 ++ [e]).length = l2.length + 1 := by rw [List.length_append]; rfl
        have hp : (l1 ++ (l2 ++ e :: r)).Perm (l1 ++ ((l2 ++ [e]) ++ r)) := by
          rw [List.append_assoc]
          exact List.Perm.refl _
        obtain ⟨S', b', z1, z2, z3, z4, z5, z6⟩ := ih (i + 1) l1 (l2 ++ [e]) _ S1 r (by omega) (by omega) (fun j y hy => by
            rw [a4, show i + 1 + j = i + (j + 1) by omega]; exact h5 (j + 1) y hy) a2 (by rw [up_n _ _ hxw]; exact hbx) (up_s _ _ _) (fun n j hn hnx => by rw [up_n _ _ (fun q : n = w => by rw [q, hX.2.1] at hn; cases hn)]; exact hbo n j hn hnx) (hp.nodup_iff.mp hn) (fun y hy => hm y (List.mem_cons_of_mem _ hy)) (by omega) (by omega) (by omega)
        rw [hdst]
        refine ⟨S', b', ?_, z2, z3, z4, z5, KP_tr a3 z6⟩
        rw [a1, xcV_some]
        exact z1
theorem c_split {I : Nat → Prop} (hI : INVt T I) (hL : LBt T) (hR : RC T sb bx S) (hE : EN T sb) (hx : T.2.1 x = some k) (h5 : (T.2.2.1 x).length = 5) (hw : w = freeN T.2.1) {m1 m2 : List Nat} (hm : splt (ebx T.2.1 sb bx x) (T.2.2.1 x) = (m1, m2)) (s : Int32) (l4 l5 : Option Value) :
    ∃ S' b', xE 53 48 [some (.ref (a + 1)), some (.int s), some (.int (nI (16 + x))), some (.int (nI k)), l4, l5] [] (pS h a S) = xE 53 111 [some (.ref (a + 1)), some (.int s), some (.int (nI (16 + x))), some (.int (nI k)), some (.int (nI (16 + w))), some (.int (nI 3))] [] (pS h a S') ∧ RC (hvT T x w k m1 m2) sb b' S' ∧ b' x = fbx (ebx T.2.1 sb bx x) m1 ∧ b' w = fbx (ebx T.2.1 sb bx x) m2 ∧ (∀ n j, T.2.1 n = some j → n ≠ x → b' n = bx n) ∧ KP ALLQ S S' := by
  obtain ⟨f1, f2, f3⟩ := fr_spec hI hL
  obtain ⟨x16, k16, r2, r3, r4, r5, r6⟩ := hR.2.2.1 x k hx
  have hnew := c_newNode (h := h) (a := a) hR f1 f2 k
  rw [← hw] at f1 f2 f3 hnew
  have hX := HX_of hI hx f2
  have hxw := HX_ne hX
  have R0 := RC_new hR f1 k16 f2
  have hnd := (hI.2.2.1 x k hx).2
  have hxN : (newT T w k).2.1 x = some k := by
    show va_up T.2.1 w (some k) x = some k
    rw [up_n _ _ hxw]; exact hx
  generalize hl : T.2.2.1 x = l at h5 hm hnd r2
  have hlN : (newT T w k).2.2.1 x = l := by
    show va_up T.2.2.1 w [] x = l
    rw [up_n _ _ hxw]; exact hl
  have hbox : ∀ e, e ∈ l → (nwC S w k).1 0 (off k e) = ebx T.2.1 sb bx x e := fun e he => by
    rw [← hl] at he
    have e16 := hX.2.2.1 e he
    rw [nwC_0, pk_un]
    · exact RC_box hR hx e16 (fun hk => (hX.2.2.2.1 hk e he).1)
    · unfold off
      by_cases hk : k = 0
      · rw [if_pos hk]; omega
      · rw [if_neg hk]
        have := HX_ew hX he hk
        omega
  have hwo := c_worst (h := h) (a := a) (g := ebx T.2.1 sb bx x) R0 hxN hlN h5 hbox rfl
  have hpl := wpf_lt fun i j => cwa (ebx T.2.1 sb bx x (l.getD i 0)) (ebx T.2.1 sb bx x (l.getD j 0))
  generalize hpw : (wpf fun i j => cwa (ebx T.2.1 sb bx x (l.getD i 0)) (ebx T.2.1 sb bx x (l.getD j 0))) = p at hwo hpl
  have hs1 : sfst (ebx T.2.1 sb bx x) l = l.getD p.1 0 := by unfold sfst; rw [hpw]
  have hs2 : ssnd (ebx T.2.1 sb bx x) l = l.getD p.2 0 := by unfold ssnd; rw [hpw]
  obtain ⟨en1, en2, en3⟩ := sp_ends (g := ebx T.2.1 sb bx x) hnd h5
  obtain ⟨o1, o2⟩ := sp_oth (g := ebx T.2.1 sb bx x) hnd
  have o3 := sp_olen (g := ebx T.2.1 sb bx x) hnd h5
  have hso : soth (ebx T.2.1 sb bx x) l = l.filter (fun e => !(e == l.getD p.1 0) && !(e == l.getD p.2 0)) := by
    unfold soth
    rw [hs1, hs2]
  obtain ⟨S1, b1, c1, c2, c3, c4, c5, c6, c7⟩ := c_seed (h := h) (a := a) hX R0 hE hl h5 hnd hpl.1 hpl.2 hso o3
  obtain ⟨S2, b2, z1, z2, z3, z4, z5, z6⟩ := c_deal (h := h) (a := a) (bx := bx) hX hE hl s (nI k) 3 0 [l.getD p.1 0] [l.getD p.2 0] b1 S1 (soth (ebx T.2.1 sb bx x) l) (by decide) o3 (fun j e he => by
      rw [Nat.zero_add]
      exact c6 j (off k e) (by rw [List.getElem?_map, he]; rfl)) c2 c3 c4 c5
    (by
      show (l.getD p.1 0 :: l.getD p.2 0 :: soth (ebx T.2.1 sb bx x) l).Nodup
      rw [← hs1, ← hs2, List.nodup_cons, List.nodup_cons]
      refine ⟨fun q => ?_, fun q => ((o2 _).mp q).2.2 rfl, o1⟩
      rcases List.mem_cons.mp q with q | q
      · exact en3 q
      · exact ((o2 _).mp q).2.1 rfl)
    (fun e he => ((o2 e).mp he).1) (by rw [o3]; rfl) (Nat.le_refl 1) (Nat.le_refl 1)
  have hdst : dst (ebx T.2.1 sb bx x) [l.getD p.1 0] [l.getD p.2 0] (soth (ebx T.2.1 sb bx x) l) = (m1, m2) := by
    rw [← hm]
    unfold splt
    rw [hs1, hs2]
  rw [hdst] at z2 z3 z4
  refine ⟨S2, b2, ?_, z2, z3, z4, z5, KP_tr (KP_new ALLQ S w k) (KP_tr c7 z6)⟩
  rw [xb53_48, if_pos (show nI k < (16 : Int32) from nI_lt (b := 16) k16 (by decide)), if_neg (nI_m1 (16 + x) (by omega)), sl_t4, Option.bind_some, c_r3 h a S (by omega), Option.bind_some, r2, h5, if_neg (show ¬ nI 5 < (5 : Int32) by decide), sl_t3, Option.bind_some, c_r2 h a S (by omega), Option.bind_some, hR.2.1 x x16, hx, sl_gt]
  rw [show rkC (some k) = nI k from rfl, hnew, xcI_some, if_neg (nI_m1 (16 + w) (by omega)), sl_gt, hwo, xcI_some, sl_gt, c1, xcV_some]
  exact z1
end CT
section CH
variable {h : xH} {a : Nat} {S : sS} {T : tS} {sb bx : Nat → Int32}
theorem RC_ent (hR : RC T sb bx S) {p k : Nat} (hp : T.2.1 p = some k) {l' : List Nat} (hlen : l'.length = (T.2.2.1 p).length) (hmem : ∀ e, e ∈ l' → e ∈ T.2.2.1 p) {g : Nat → Int32} (hout : ∀ i, i < 5 * p ∨ 5 * p + 5 ≤ i → g i = S.1 4 i) (hin : ∀ i e, l'[i]? = some e → g (5 * p + i) = nI (off k e)) : RC (T.1, T.2.1, va_up T.2.2.1 p l', T.2.2.2) sb bx (sB S 4 g) := by
  obtain ⟨t1, t2, t3, t4⟩ := hR
  refine ⟨t1, fun m hm => by rw [sB_n _ _ (by decide)]; exact t2 m hm, fun m j hm => ?_, fun s hs => by rw [sB_n _ _ (by decide)]; exact t4 s hs⟩
  obtain ⟨q0, q00, q2, q3, q4, q5, q6⟩ := t3 m j hm
  rw [sB_s, sB_n _ _ (show (0 : Nat) ≠ 4 by decide), sB_n _ _ (show (1 : Nat) ≠ 4 by decide), sB_n _ _ (show (3 : Nat) ≠ 4 by decide)]
  by_cases e : m = p
  · subst e
    have hjk : k = j := by
      have hm' : T.2.1 m = some j := hm
      rw [hp] at hm'
      exact Option.some.inj hm'
    subst hjk
    have e0 : va_up T.2.2.1 m l' m = l' := up_s _ _ _
    refine ⟨q0, q00, ?_, q3, q4, ?_, fun i y hy => ?_⟩
    · show _ = nI (va_up T.2.2.1 m l' m).length
      rw [e0, hlen]; exact q2
    · show (va_up T.2.2.1 m l' m).length ≤ 5
      rw [e0, hlen]; exact q5
    · have hy' : (va_up T.2.2.1 m l' m)[i]? = some y := hy
      rw [e0] at hy'
      obtain ⟨i', hi'⟩ := List.mem_iff_getElem?.mp (hmem y (List.mem_of_getElem? hy'))
      obtain ⟨z1, z2, z3⟩ := q6 i' y hi'
      exact ⟨z1, hin i y hy', z3⟩
  · have e0 : va_up T.2.2.1 p l' m = T.2.2.1 m := up_n _ _ e
    refine ⟨q0, q00, ?_, q3, q4, ?_, fun i y hy => ?_⟩
    · show _ = nI (va_up T.2.2.1 p l' m).length
      rw [e0]; exact q2
    · show (va_up T.2.2.1 p l' m).length ≤ 5
      rw [e0]; exact q5
    · have hy' : (va_up T.2.2.1 p l' m)[i]? = some y := hy
      rw [e0] at hy'
      have hi : i < (T.2.2.1 m).length := (List.getElem?_eq_some_iff.mp hy').1
      obtain ⟨z1, z2, z3⟩ := q6 i y hy'
      exact ⟨z1, by rw [hout _ (by omega)]; exact z2, z3⟩
theorem KP_4 (Q : Nat → Prop) (S : sS) (g : Nat → Int32) : KP Q S (sB S 4 g) := ⟨fun j hj => sB_n _ _ (by omega), fun s _ => by rw [sB_n _ _ (by decide)], rfl, rfl, fun s _ _ => by rw [sB_n _ _ (by decide)]⟩
/-- the twin goes back till it stands behind x -/
theorem c_bub {p x w : Nat} {L : List Nat} (hp : p < 16) (hL : L.length ≤ 4) (hnd : L.Nodup) (hLx : x ∈ L) (h16 : ∀ e, e ∈ L → e < 16) (S : sS) : ∀ (d t : Nat) (g : Nat → Int32), t = L.idxOf x + 1 + d → t ≤ L.length → (∀ j e, j < t → L[j]? = some e → g (5 * p + j) = nI (16 + e)) → g (5 * p + t) = nI (16 + w) → (∀ j e, t ≤ j → L[j]? = some e → g (5 * p + (j + 1)) = nI (16 + e)) →
    ∃ g', xE 69 58 [some (.ref (a + 1)), some (.int (nI (16 + x))), some (.int (nI (16 + w))), some (.int (nI (16 + p))), some (.int (nI t))] [] (pS h a (sB S 4 g)) = some (none, pS h a (sB S 4 g')) ∧ (∀ j e, j < L.idxOf x + 1 → L[j]? = some e → g' (5 * p + j) = nI (16 + e)) ∧ g' (5 * p + (L.idxOf x + 1)) = nI (16 + w) ∧ (∀ j e, L.idxOf x + 1 ≤ j → L[j]? = some e → g' (5 * p + (j + 1)) = nI (16 + e)) ∧ (∀ i, i < 5 * p ∨ 5 * p + 5 ≤ i → g' i = g i) := by
  have hil := idx_lt hLx
  have hpl : ∀ (m : Nat) (hh : xH), xM 52 [.int (nI (16 + p)), .int (nI (m + 1) - 1)] hh = some (some (.int (nI (5 * p + m))), hh) := fun m hh => by rw [nI_pred, c_place]
  intro d
  induction d with
  | zero =>
    intro t g ht htl h1 h2 h3
    have ht : t = L.idxOf x + 1 := by omega
    subst ht
    have hx : g (5 * p + L.idxOf x) = nI (16 + x) := h1 _ x (by omega) (by rw [List.getElem?_eq_getElem hil, List.getElem_idxOf])
    refine ⟨g, ?_, h1, h2, h3, fun _ _ => rfl⟩
    rw [xb69_58, if_pos (show (0 : Int32) < nI (L.idxOf x + 1) from nI_lt (a := 0) (by omega) (by omega)), sl_t5, Option.bind_some, hpl, xcI_some, c_r4 h a _ (by omega), Option.bind_some, sB_s, if_pos hx]
  | succ d ih =>
    intro t g ht htl h1 h2 h3
    obtain ⟨t', rfl⟩ : ∃ t', t = t' + 1 := ⟨t - 1, by omega⟩
    have hlt : t' < L.length := by omega
    have hv := h1 t' L[t'] (by omega) (List.getElem?_eq_getElem hlt)
    have hne : L[t'] ≠ x := fun q => by
      have : L.idxOf L[t'] = t' := List.Nodup.idxOf_getElem hnd t' hlt
      rw [q] at this
      omega
    have hv16 := h16 _ (List.getElem_mem hlt)
    have x16 := h16 _ hLx
    generalize hy : L[t'] = y at hv hne hv16
    have hsB : ∀ g1 g2 : Nat → Int32, sB (sB S 4 g1) 4 g2 = sB S 4 g2 := fun g1 g2 => by unfold sB; rw [bx_uu]
    obtain ⟨g', z1, z2, z3, z4, z5⟩ := ih t' (upd (upd g (5 * p + (t' + 1)) (nI (16 + y))) (5 * p + t') (nI (16 + w))) (by omega) (by omega)
      (fun j e hj he => by rw [pk_un (by omega), pk_un (by omega)]; exact h1 j e (by omega) he) pk_us
      (fun j e hj he => by
        rw [pk_un (by omega)]
        by_cases q : j = t'
        · subst q
          rw [pk_us]
          rw [List.getElem?_eq_getElem hlt, hy] at he
          rw [Option.some.inj he]
        · rw [pk_un (by omega)]; exact h3 j e (by omega) he)
    refine ⟨g', ?_, z2, z3, z4, fun i hi => by rw [z5 i hi, pk_un (by omega), pk_un (by omega)]⟩
    rw [← z1]
    rw [xb69_58, if_pos (show (0 : Int32) < nI (t' + 1) from nI_lt (a := 0) (by omega) (by omega)), sl_t5, Option.bind_some, hpl, xcI_some, c_r4 h a _ (by omega), Option.bind_some, sB_s, hv, if_neg (fun q => hne (by have := nI_inj (by omega) (by omega) q; omega)), sl_t5, Option.bind_some, c_place, xcI_some, sl_t5, Option.bind_some, hpl, xcI_some, c_r4 h a _ (by omega), Option.bind_some, sB_s, hv, c_w4 h a _ (by omega), Option.bind_some, sl_t5, Option.bind_some, hpl, xcI_some, c_w4 h a _ (by omega), Option.bind_some, pk_m1]
    simp only [sB_s, hsB]
theorem c_hang2 (hR : RC T sb bx S) {p x w k : Nat} {L : List Nat} (hp : T.2.1 p = some (k + 1)) (hLe : T.2.2.1 p = L) (hl4 : L.length ≤ 4) (hnd : L.Nodup) (hxL : x ∈ L) (hw : ∃ j, T.2.1 w = some j) (hwp : w ≠ p) :
    ∃ S', xE 69 42 [some (.ref (a + 1)), some (.int (nI (16 + x))), some (.int (nI (16 + w))), some (.int (nI (16 + p))), none] [] (pS h a S) = some (none, pS h a S') ∧ RC (T.1, T.2.1, va_up T.2.2.1 p (insA x w L), va_up T.2.2.2.1 w (some p), T.2.2.2.2) sb (va_up bx p (cun (bx p) (bx w))) S' ∧ KP ALLQ S S' := by
  obtain ⟨jw, hjw⟩ := hw
  have w16 := RC_lt hR hjw
  have p16 := RC_lt hR hp
  obtain ⟨S1, a1, a2, a3, -⟩ := c_append (h := h) (a := a) (Q := ALLQ) hR hp (by rw [hLe]; exact hl4) w16 (fun _ => ⟨⟨jw, hjw⟩, hwp⟩) (fun q => absurd q (Nat.succ_ne_zero k))
  have heb : ebx T.2.1 sb bx p w = bx w := by
    unfold ebx
    rw [if_neg (by rw [hp]; intro z; cases z)]
  rw [heb, hLe] at a2
  rw [off_s] at a1
  have en1 : (insT0 T p L.length w (k + 1)).2.2.1 p = L ++ [w] := by
    show va_up T.2.2.1 p (insL L.length w (T.2.2.1 p)) p = _
    rw [up_s, hLe, insL_end]
  obtain ⟨-, -, s2, -, -, -, s6⟩ := a2.2.2.1 p (k + 1) hp
  rw [en1] at s2 s6
  have hll : (L ++ [w]).length = L.length + 1 := by rw [List.length_append]; rfl
  rw [hll] at s2
  have h16 : ∀ e, e ∈ L → e < 16 := fun e he => by
    obtain ⟨i, hi⟩ := List.mem_iff_getElem?.mp he
    exact ((hR.2.2.1 p _ hp).2.2.2.2.2.2 i e (by rw [hLe]; exact hi)).1
  have hil := idx_lt hxL
  have hS1 : sB S1 4 (S1.1 4) = S1 := by
    refine Prod.ext ?_ rfl
    funext j
    show va_up S1.1 4 (S1.1 4) j = S1.1 j
    by_cases q : j = 4
    · subst q; exact up_s _ _ _
    · exact up_n _ _ q
  obtain ⟨g', z1, z2, z3, z4, z5⟩ := c_bub (h := h) (a := a) (w := w) p16 hl4 hnd hxL h16 S1 (L.length - (L.idxOf x + 1)) L.length (S1.1 4) (by omega) (Nat.le_refl _)
    (fun j e hj he => by
      have := (s6 j e (by rw [List.getElem?_append_left hj]; exact he)).2.1
      rw [off_s] at this
      exact this)
    (by
      have := (s6 L.length w (by rw [List.getElem?_append_right (Nat.le_refl _), Nat.sub_self]; rfl)).2.1
      rw [off_s] at this
      exact this)
    (fun j e hj he => by
      have := (List.getElem?_eq_some_iff.mp he).1
      omega)
  rw [hS1] at z1
  have hins : insL (L.idxOf x + 1) w L = insA x w L := insL_A hxL
  have R2 := RC_ent a2 hp (l' := insA x w L) (g := g') (by rw [insA_len hxL, en1, hll]) (fun e he => by
      rw [en1]
      rcases (insA_mem hxL).mp he with q | q
      · exact List.mem_append_left _ q
      · exact List.mem_append_right _ (List.mem_singleton.mpr q)) z5 (fun i e he => by
      rw [off_s]
      rw [← hins] at he
      rcases insL_get (by omega) he with ⟨q1, q2⟩ | ⟨q1, q2⟩ | ⟨q1, q2⟩
      · exact z2 i e q1 q2
      · rw [q1, q2]; exact z3
      · have := z4 (i - 1) e (by omega) q2
        rw [show i - 1 + 1 = i by omega] at this
        exact this)
  refine ⟨sB S1 4 g', ?_, ?_, KP_tr a3 (KP_4 _ _ _)⟩
  · rw [xb69_42, sl_gt, a1, xcV_some, sl_t4, Option.bind_some, c_r3 h a S1 (by omega), Option.bind_some, s2, nI_pred]
    exact z1
  · refine RC_congr R2 rfl (fun _ => rfl) (fun n j hn => ⟨?_, ?_, rfl⟩)
    · show va_up T.2.2.1 p (insA x w L) n = va_up (va_up T.2.2.1 p (insL L.length w (T.2.2.1 p))) p (insA x w L) n
      rw [bx_uu]
    · show va_up T.2.2.2.1 w (some p) n = (insT0 T p L.length w (k + 1)).2.2.2.1 n
      rw [insT0_pa]
end CH
