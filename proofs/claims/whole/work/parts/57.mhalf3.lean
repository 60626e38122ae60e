/-! The reference's tree: halves, whole -/
section HW
variable {h : xH} {a : Nat} {S : mS} {T : tS} {sb bx : Nat → Int32} {x w k : Nat}
theorem hv_loop (hE : EN T sb) (hx : T.2.1 x = some k) (hw : T.2.1 w = none) (hxe : k ≠ 0 → x ∉ T.2.2.1 x) (hpa : ∀ e, e ∈ T.2.2.1 x → k ≠ 0 → e < 16 ∧ T.2.2.2.1 e = some x) {l : List Nat} (hl : T.2.2.1 x = l) (h5 : l.length = 5) (hnd : l.Nodup) {g : Nat → Int32} (hg : ∀ i, i < 5 → g i = nI (l.getD i 0)) {p : Nat × Nat} (hp1 : p.1 < 5) (hp2 : p.2 < 5) :
    ∀ (d i : Nat) (l1 l2 : List Nat) (b f : Nat → Int32) (l6 l7 : Option Value) (r : List Nat), i + d = 5 → r = (l.drop i).filter (fun e => !(e == l.getD p.1 0) && !(e == l.getD p.2 0)) → RM (hvT T x w k l1 l2) sb b f → BK (hvT T x w k l1 l2).2.1 sb b → b x = fbx (ebx T.2.1 sb bx x) l1 → b w = fbx (ebx T.2.1 sb bx x) l2 → (∀ n j, T.2.1 n = some j → n ≠ x → b n = bx n) → (l1 ++ (l2 ++ r)).Nodup → (∀ e, e ∈ l1 → e ∈ l) → (∀ e, e ∈ l2 → e ∈ l) → l1.length + l2.length + r.length = 5 → 1 ≤ l1.length → 1 ≤ l2.length → 2 ≤ l1.length + r.length → 2 ≤ l2.length + r.length →
      ∃ f' b', xE 140 95 [some (.ref a), some (.int (nI x)), some (.int (nI (5 * p.1 + p.2))), some (.int (nI w)), some (.int (nI r.length)), some (.int (nI i)), l6, l7] [] (pM h a (m0 (m7 S g) f)) = some (some (.int (nI w)), pM h a (m0 (m7 S g) f')) ∧ RM (hvT T x w k (dst (ebx T.2.1 sb bx x) l1 l2 r).1 (dst (ebx T.2.1 sb bx x) l1 l2 r).2) sb b' f' ∧ BK (va_up T.2.1 w (some k)) sb b' ∧ b' x = fbx (ebx T.2.1 sb bx x) (dst (ebx T.2.1 sb bx x) l1 l2 r).1 ∧ b' w = fbx (ebx T.2.1 sb bx x) (dst (ebx T.2.1 sb bx x) l1 l2 r).2 ∧ (∀ n j, T.2.1 n = some j → n ≠ x → b' n = bx n) ∧ FR f f' := by
  have hxw : x ≠ w := fun q => by rw [q, hw] at hx; cases hx
  have hdiv : nI (5 * p.1 + p.2) / (5 : Int32) = nI p.1 := by
    rw [show (5 : Int32) = nI 5 from rfl, pk_div (by omega) (by decide) (by decide)]
    congr 1
    omega
  have hrem : nI (5 * p.1 + p.2) - nI (5 * p.1 + p.2) / (5 : Int32) * (5 : Int32) = nI p.2 := by
    rw [show (5 : Int32) = nI 5 from rfl, pk_rem (by omega) (by decide) (by decide)]
    congr 1
    omega
  intro d
  induction d with
  | zero =>
    intro i l1 l2 b f l6 l7 r hi hr hR hB hbx hbw hbo hn m1 m2 hlen len1 len2 g1 g2
    have hi : i = 5 := by omega
    subst hi
    rw [List.drop_eq_nil_of_le (by omega)] at hr
    subst hr
    refine ⟨f, b, ?_, hR, hB, hbx, hbw, hbo, FR_rf f⟩
    rw [xb140_95, if_neg (show ¬ nI 5 < (5 : Int32) by decide)]
  | succ d ih =>
    intro i l1 l2 b f l6 l7 r hi hr hR hB hbx hbw hbo hn m1 m2 hlen len1 len2 g1 g2
    have hil : i < l.length := by omega
    have hgd : l.getD i 0 = l[i] := by
      rw [List.getD_eq_getElem?_getD, List.getElem?_eq_getElem hil]; rfl
    rw [List.drop_eq_getElem_cons hil] at hr
    by_cases q1 : i = p.1
    · have hskip : r = (l.drop (i + 1)).filter (fun e => !(e == l.getD p.1 0) && !(e == l.getD p.2 0)) := by
        rw [hr, List.filter_cons, if_neg]
        rw [← q1, hgd]
        simp
      obtain ⟨f', b', z1, z2⟩ := ih (i + 1) l1 l2 b f l6 l7 r (by omega) hskip hR hB hbx hbw hbo hn m1 m2 hlen len1 len2 g1 g2
      refine ⟨f', b', ?_, z2⟩
      rw [xb140_95, if_pos (show nI i < (5 : Int32) from nI_lt (b := 5) (by omega) (by decide)), if_pos (by rw [hdiv, q1]), nI_1]
      exact z1
    · by_cases q2 : i = p.2
      · have hskip : r = (l.drop (i + 1)).filter (fun e => !(e == l.getD p.1 0) && !(e == l.getD p.2 0)) := by
          rw [hr, List.filter_cons, if_neg]
          rw [← q2, hgd]
          simp
        obtain ⟨f', b', z1, z2⟩ := ih (i + 1) l1 l2 b f l6 l7 r (by omega) hskip hR hB hbx hbw hbo hn m1 m2 hlen len1 len2 g1 g2
        refine ⟨f', b', ?_, z2⟩
        rw [xb140_95, if_pos (show nI i < (5 : Int32) from nI_lt (b := 5) (by omega) (by decide)), if_neg (by rw [hdiv]; exact fun q => q1 (nI_inj (by omega) (by omega) q)), if_pos (by rw [hrem, q2]), nI_1]
        exact z1
      · have hne1 : l[i] ≠ l.getD p.1 0 := fun q => q1 (nd_getD hnd hil (by omega) (by rw [hgd]; exact q))
        have hne2 : l[i] ≠ l.getD p.2 0 := fun q => q2 (nd_getD hnd hil (by omega) (by rw [hgd]; exact q))
        rw [List.filter_cons, if_pos (show (!(l[i] == l.getD p.1 0) && !(l[i] == l.getD p.2 0)) = true by rw [beq_false_of_ne hne1, beq_false_of_ne hne2]; rfl)] at hr
        have hel : l[i] ∈ l := List.getElem_mem hil
        have hgi : g i = nI l[i] := by rw [hg i (by omega), hgd]
        generalize l[i] = e at *
        generalize hr' : (l.drop (i + 1)).filter (fun e => !(e == l.getD p.1 0) && !(e == l.getD p.2 0)) = r' at hr
        subst hr
        have hexT : e ∈ T.2.2.1 x := by rw [hl]; exact hel
        have hx' : (hvT T x w k l1 l2).2.1 x = some k := (hv_ro hxw).trans hx
        have hEe : ebx (hvT T x w k l1 l2).2.1 sb b x e = ebx T.2.1 sb bx x e := hv_E hE hx hw hxe hbo (Or.inl rfl) hexT
        have hee0 := EE_of hE hx hexT
        have hee : EE (hvT T x w k l1 l2) sb x e := ⟨fun q => hee0.1 ((hv_ro hxw).symm.trans q), fun q => by
          obtain ⟨j, hj⟩ := hee0.2 (fun z => q ((hv_ro hxw).trans z))
          exact ⟨j, (hv_ro (fun z : e = w => by rw [z, hw] at hj; cases hj)).trans hj⟩⟩
        have hew : k ≠ 0 → e ≠ w := fun hk z => by
          obtain ⟨j, hj⟩ := hee0.2 (fun q => by rw [hx] at q; exact hk (Option.some.inj q))
          rw [z, hw] at hj
          cases hj
        have hbe : bok0 (ebx T.2.1 sb bx x e) := by rw [← hEe]; exact ebx_ok' hB hee
        have hnn := List.nodup_append.mp hn
        have hn2 := List.nodup_append.mp hnn.2.1
        have he1 : e ∉ l1 := fun q => hnn.2.2 e q e (List.mem_append_right _ List.mem_cons_self) rfl
        have he2 : e ∉ l2 := fun q => hn2.2.2 e q e List.mem_cons_self rfl
        simp only [List.length_cons] at hlen g1 g2
        have hcom := m_comes (h := h) (a := a) (S := m7 S g) (x := x) (w := w) (e := e) (left := r'.length + 1) (g := ebx T.2.1 sb bx x) hR hB hx' hv_rw (by rw [hv_x hxw]; exact hbx) (by rw [hv_w]; exact hbw) hbe (by rw [hv_x hxw]; omega) (by rw [hv_w]; omega) (by omega)
        rw [hv_x hxw, hv_w] at hcom
        have hn_x := (hR.2.2.1 x k hx').2.2.1
        have hn_w := (hR.2.2.1 w k hv_rw).2.2.1
        rw [hv_x hxw] at hn_x
        rw [hv_w] at hn_w
        have x16 := RM_lt hR hx'
        have w16 := RM_lt hR hv_rw
        have hhead : xE 140 95 [some (.ref a), some (.int (nI x)), some (.int (nI (5 * p.1 + p.2))), some (.int (nI w)), some (.int (nI (e :: r').length)), some (.int (nI i)), l6, l7] [] (pM h a (m0 (m7 S g) f)) = (if (if tof (ebx T.2.1 sb bx x) l1 l2 e (r'.length + 1) = true then (1 : Int32) else 0) = 0 then xcV (xM 133 [.ref a, .int (nI w), .int (nI l2.length), .int (nI e)] (pM h a (m0 (m7 S g) f))) (fun h11 => xgu h11 a 5 (xcV (xM 130 [.ref a, .int (nI w)] h11) fun h12 => xE 140 95 [some (.ref a), some (.int (nI x)), some (.int (nI (5 * p.1 + p.2))), some (.int (nI w)), some (.int (nI r'.length)), some (.int (nI (i + 1))), some (.int (if tof (ebx T.2.1 sb bx x) l1 l2 e (r'.length + 1) = true then (1 : Int32) else 0)), some (.int (nI w))] [] h12)) else xcV (xM 133 [.ref a, .int (nI x), .int (nI l1.length), .int (nI e)] (pM h a (m0 (m7 S g) f))) (fun h11 => xgu h11 a 5 (xcV (xM 130 [.ref a, .int (nI x)] h11) fun h12 => xE 140 95 [some (.ref a), some (.int (nI x)), some (.int (nI (5 * p.1 + p.2))), some (.int (nI w)), some (.int (nI r'.length)), some (.int (nI (i + 1))), some (.int (if tof (ebx T.2.1 sb bx x) l1 l2 e (r'.length + 1) = true then (1 : Int32) else 0)), some (.int (nI x))] [] h12))) := by
          rw [xb140_95, if_pos (show nI i < (5 : Int32) from nI_lt (b := 5) (by omega) (by decide)), if_neg (by rw [hdiv]; exact fun q => q1 (nI_inj (by omega) (by omega) q)), if_neg (by rw [hrem]; exact fun q => q2 (nI_inj (by omega) (by omega) q)), ml_f7, Option.bind_some, m_r7 h a S f g (by omega), Option.bind_some, hgi, ml_gu, m_entryBox' hR hB hx' hee, xcI_some, hEe, ml_gu, show (e :: r').length = r'.length + 1 from rfl, hcom, xcI_some, ml_gu, m_n2 h a _ f (by omega), xcI_some, hn_w, ml_gu, m_n2 h a _ f (by omega), xcI_some, hn_x, ml_f7]
          simp only [Option.bind_some, m_r7 h a S f g (show i < 5 by omega), hgi, ml_gu, pk_m1, nI_1]
        rw [hhead]
        by_cases ht : tof (ebx T.2.1 sb bx x) l1 l2 e (r'.length + 1) = true
        · rw [if_pos ht, if_neg (show ¬ (1 : Int32) = 0 by decide)]
          obtain ⟨f1, a1, a2, a3⟩ := m_putx (h := h) (a := a) (S := m7 S g) (e := e) hR hxw hx (by omega) (fun hk => (hpa e hexT hk).1) hew he2 (fun hk => (hpa e hexT hk).2)
          have mm1 : ∀ z, z ∈ l1 ++ [e] → z ∈ l := fun z hz => (List.mem_append.mp hz).elim (m1 z) (fun q => by rw [List.mem_singleton.mp q]; exact hel)
          obtain ⟨f2, b1, b2, b3, b4, b5⟩ := hv_bx (h := h) (a := a) (S := m7 S g) (l1 := l1 ++ [e]) (l2 := l2) a2 hE hB hx hw hxe (by rw [hl]; exact mm1) (by rw [hl]; exact m2) hbo (Or.inl rfl) (hv_x hxw)
          have hdst : dst (ebx T.2.1 sb bx x) l1 l2 (e :: r') = dst (ebx T.2.1 sb bx x) (l1 ++ [e]) l2 r' := by
            rw [dst, if_pos ht]
          have hlen2 : (l1 ++ [e]).length = l1.length + 1 := by rw [List.length_append]; rfl
          have hp : (l1 ++ (l2 ++ e :: r')).Perm ((l1 ++ [e]) ++ (l2 ++ r')) := by
            rw [List.append_assoc]
            exact List.Perm.append_left _ List.perm_middle
          have hge : 2 ≤ l2.length + r'.length := by
            refine Classical.byContradiction fun q => ?_
            have e1 : l2.length + (r'.length + 1) = 2 := by omega
            have e2 : l1.length + (r'.length + 1) ≠ 2 := by omega
            unfold tof at ht
            rw [if_neg e2, if_pos e1] at ht
            cases ht
          obtain ⟨f', b', z1, z2, z3, z4, z5, z6, z7⟩ := ih (i + 1) (l1 ++ [e]) l2 _ f2 (some (.int 1)) (some (.int (nI x))) r' (by omega) hr'.symm b2 b3 (up_s _ _ _) (by rw [up_n _ _ (fun q : w = x => hxw q.symm)]; exact hbw) b4 (hp.nodup_iff.mp hn) mm1 m2 (by omega) (by omega) (by omega) (by omega) hge
          rw [hdst]
          refine ⟨f', b', ?_, z2, z3, z4, z5, z6, FR_tr a3 (FR_tr b5 z7)⟩
          rw [a1, xcV_some, ml_gu, b1, xcV_some]
          exact z1
        · rw [if_neg ht, if_pos rfl]
          obtain ⟨f1, a1, a2, a3⟩ := m_putw (h := h) (a := a) (S := m7 S g) (e := e) hR (by omega) (fun hk => (hpa e hexT hk).1) hew
          have mm2 : ∀ z, z ∈ l2 ++ [e] → z ∈ l := fun z hz => (List.mem_append.mp hz).elim (m2 z) (fun q => by rw [List.mem_singleton.mp q]; exact hel)
          obtain ⟨f2, b1, b2, b3, b4, b5⟩ := hv_bx (h := h) (a := a) (S := m7 S g) (l1 := l1) (l2 := l2 ++ [e]) a2 hE hB hx hw hxe (by rw [hl]; exact m1) (by rw [hl]; exact mm2) hbo (Or.inr rfl) hv_w
          have hdst : dst (ebx T.2.1 sb bx x) l1 l2 (e :: r') = dst (ebx T.2.1 sb bx x) l1 (l2 ++ [e]) r' := by
            rw [dst, if_neg ht]
          have hlen2 : (l2 ++ [e]).length = l2.length + 1 := by rw [List.length_append]; rfl
          have hp : (l1 ++ (l2 ++ e :: r')).Perm (l1 ++ ((l2 ++ [e]) ++ r')) := by
            rw [List.append_assoc]
            exact List.Perm.refl _
          have hge : 2 ≤ l1.length + r'.length := by
            refine Classical.byContradiction fun q => ?_
            have e1 : l1.length + (r'.length + 1) = 2 := by omega
            unfold tof at ht
            rw [if_pos e1] at ht
            exact ht rfl
          obtain ⟨f', b', z1, z2, z3, z4, z5, z6, z7⟩ := ih (i + 1) l1 (l2 ++ [e]) _ f2 (some (.int 0)) (some (.int (nI w))) r' (by omega) hr'.symm b2 b3 (by rw [up_n _ _ hxw]; exact hbx) (up_s _ _ _) b4 (hp.nodup_iff.mp hn) m1 mm2 (by omega) (by omega) (by omega) hge (by omega)
          rw [hdst]
          refine ⟨f', b', ?_, z2, z3, z4, z5, z6, FR_tr a3 (FR_tr b5 z7)⟩
          rw [a1, xcV_some, ml_gu, b1, xcV_some]
          exact z1
end HW
