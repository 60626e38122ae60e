/-! The reference's tree: the root is lowered, a shape goes -/
theorem RM_pa {T : tS} {sb bx f : Nat → Int32} (hR : RM T sb bx f) {c : Nat} (hc : c < 16) : RM (T.1, T.2.1, T.2.2.1, va_up T.2.2.2.1 c none, T.2.2.2.2) sb bx (upd f (64 + 10 * c + 3) (-1)) := by
  obtain ⟨r1, r2, r3, r4⟩ := hR
  refine ⟨by rw [pk_un (by omega)]; exact r1, fun m hm => by rw [pk_un (by omega)]; exact r2 m hm, fun m j hm => ?_, fun s hs hb => by rw [pk_un (by omega)]; exact r4 s hs hb⟩
  obtain ⟨q0, q1, q2, q3, q4, q5, q6⟩ := r3 m j hm
  refine ⟨q0, by rw [pk_un (by omega)]; exact q1, by rw [pk_un (by omega)]; exact q2, ?_, by rw [pk_un (by omega)]; exact q4, q5, fun i x hx => ?_⟩
  · show _ = paI (va_up T.2.2.2.1 c none m)
    by_cases e : m = c
    · subst e; rw [pk_us, up_s]; rfl
    · rw [pk_un (by omega), up_n _ _ e]; exact q3
  · have hi : i < (T.2.2.1 m).length := (List.getElem?_eq_some_iff.mp hx).1
    rw [pk_un (by omega)]
    exact q6 i x hx
theorem RM_same {T : tS} {sb bx f : Nat → Int32} (hR : RM T sb bx f) {i : Nat} {v : Int32} (hv : f i = v) : RM T sb bx (upd f i v) := by
  have : upd f i v = f := by
    funext j
    by_cases e : j = i
    · rw [e, pk_us, hv]
    · rw [pk_un e]
  rw [this]; exact hR
section MLo
variable {h : xH} {a : Nat} {sb : Nat → Int32}
theorem m_low (l1 l2 : Int32) (l3 : Option Value) : ∀ (d : Nat) {S : mS} {T : tS} {f bx : Nat → Int32} {r : Nat} {I : Nat → Prop}, INVt T I → LBx T T.1 → UBt T 4 → T.2.1 T.1 = some r → r < d → RM T sb bx f → BK T.2.1 sb bx → (∀ n j, T.2.1 n = some j → Con T.2.1 T.2.2.1 sb bx n) →
    ∃ f', xE 146 72 [some (.ref a), some (.int l1), some (.int l2), l3, none] [] (pM h a (m0 S f)) = xE 146 157 [some (.ref a), some (.int l1), some (.int l2), l3, none] [] (pM h a (m0 S f')) ∧ RM (lowT d T) sb bx f' ∧ BK (lowT d T).2.1 sb bx ∧ (∀ n j, (lowT d T).2.1 n = some j → Con (lowT d T).2.1 (lowT d T).2.2.1 sb bx n) ∧ FR f f' := by
  intro d
  induction d with
  | zero => exact fun _ _ _ _ hd => absurd hd (Nat.not_lt_zero _)
  | succ d ih =>
    intro S T f bx r I hI hL hU hr hd hR hB hC
    obtain ⟨t16, r1, r2, r3, r4, r5, r6⟩ := hR.2.2.1 T.1 r hr
    have hrow : ∀ g : Nat → Int32, xri (pM h a (m0 S g)) 0 (a + 1) 304 = some (g 304) := fun g => m_r0 h a S g (i := 304) (by decide)
    unfold lowT
    rw [xb146_72, ml_f0, Option.bind_some, hrow, Option.bind_some, hR.1, ml_gu, m_n1 h a S f (by omega), xcI_some, r1]
    cases r with
    | zero =>
      rw [if_pos rfl, if_neg (show ¬ (1 : Int32) = 0 by decide), if_neg (fun q => q.1 hr)]
      exact ⟨f, rfl, hR, hB, hC, FR_rf f⟩
    | succ k =>
      rw [if_neg (show ¬ k + 1 = 0 by omega), if_pos rfl, ml_f0, Option.bind_some, hrow, Option.bind_some, hR.1, ml_gu, m_n2 h a S f (by omega), xcI_some, r2]
      have hne0 : T.2.1 T.1 ≠ some 0 := by rw [hr]; intro z; cases z
      by_cases hc : (T.2.2.1 T.1).length = 1
      · obtain ⟨c, he⟩ : ∃ c, T.2.2.1 T.1 = [c] := List.length_eq_one_iff.mp hc
        have c1 := hI.2.2.2.1 T.1 k c hr (by rw [he]; exact List.mem_singleton.mpr rfl)
        have hcr : c ≠ T.1 := fun q => by rw [q, hI.2.1] at c1; cases c1.2
        have c16 := (hI.2.2.1 c k c1.1).1
        have f5 : f (64 + 10 * T.1 + (5 + 0)) = nI c := r6 0 c (by rw [he]; rfl)
        rw [if_pos (show nI (T.2.2.1 T.1).length = (1 : Int32) by rw [hc]; rfl), if_pos ⟨hne0, hc⟩, he]
        show ∃ f', _ = _ ∧ RM (lowT d (loT T c)) sb bx f' ∧ BK (lowT d (loT T c)).2.1 sb bx ∧ (∀ n j, (lowT d (loT T c)).2.1 n = some j → Con (lowT d (loT T c)).2.1 (lowT d (loT T c)).2.2.1 sb bx n) ∧ FR f f'
        have R1 := RM_pa (RM_root (RM_free hR t16) c) c16
        generalize hF1 : upd f (64 + 10 * T.1 + 0) 0 = F1 at R1
        have R2 : RM (loT T c) sb bx (upd (upd F1 304 (nI c)) (64 + 10 * c + 3) (-1)) := R1
        have rk_i : ∀ n j, (loT T c).2.1 n = some j → T.2.1 n = some j ∧ n ≠ T.1 := fun n j hn => by
          have hn' : va_up T.2.1 T.1 none n = some j := hn
          by_cases e : n = T.1
          · rw [e, up_s] at hn'; cases hn'
          · rw [up_n _ _ e] at hn'; exact ⟨hn', e⟩
        have hge : ∀ n j, T.2.1 n = some j → n ≠ T.1 → 2 ≤ (T.2.2.1 n).length := fun n j hn hne => by
          rcases hL.1 n j hn hne with q | ⟨q, -⟩
          · exact q
          · exact absurd q hne
        have hrc : (loT T c).2.1 (loT T c).1 = some k := by
          show va_up T.2.1 T.1 none c = some k
          rw [up_n _ _ hcr]; exact c1.1
        obtain ⟨f', z1, z2, z3, z4, z5⟩ := ih (S := S) (T := loT T c) (I := I) (INV_low hI hr he) ⟨fun n j hn hne => Or.inl (hge n j (rk_i n j hn).1 (rk_i n j hn).2), fun j hj => by
            have := hge c k c1.1 hcr
            show 1 ≤ (T.2.2.1 c).length
            omega⟩ (fun n j hn => hU n j (rk_i n j hn).1) hrc (by omega) R2 ⟨hB.1, fun n j hn => hB.2 n j (rk_i n j hn).1⟩ (fun n j hn => Con_gen (rk := T.2.1) (bx := bx) (m := n) (hC n j (rk_i n j hn).1) (by rw [hn, (rk_i n j hn).1]) (fun _ _ _ => rfl))
        refine ⟨f', ?_, z2, z3, z4, FR_tr (fun i hi => ?_) z5⟩
        · have F5 : F1 (64 + 10 * T.1 + (5 + 0)) = nI c := by rw [← hF1, pk_un (by omega)]; exact f5
          have F304 : F1 304 = nI T.1 := by rw [← hF1, pk_un (by omega)]; exact hR.1
          have hw : xwi (pM h a (m0 S F1)) 0 (a + 1) 304 (nI c) = some (pM h a (m0 S (upd F1 304 (nI c)))) := m_w0 h a S F1 (i := 304) (by decide) (nI c)
          rw [ml_f0, Option.bind_some, hrow, Option.bind_some, hR.1, ml_gu, m_t0 h a S f (by omega), xcV_some, hF1, ml_f0, Option.bind_some, Option.bind_some, hrow, Option.bind_some, F304, ml_gu, m_n5 h a S F1 (by omega), xcI_some, F5, hw, Option.bind_some, ml_f0, Option.bind_some, hrow, Option.bind_some, pk_us, ml_gu, m_t3 h a S _ (by omega), xcV_some]
          exact z1
        · rw [pk_un (by omega), pk_un (by omega), ← hF1, pk_un (by omega)]
      · rw [if_neg (show ¬ nI (T.2.2.1 T.1).length = (1 : Int32) from fun q => hc (nI_inj (b := 1) (by omega) (by decide) q)), if_neg (fun q => hc q.2)]
        exact ⟨f, rfl, hR, hB, hC, FR_rf f⟩
/-- the noted shapes come again -/
theorem m_again (l1 l2 : Int32) (nt : List Nat) : ∀ (l : List Nat) (i : Nat) {S : mS} {T : tS} {f bx : Nat → Int32} {J : Nat → Prop}, nt.drop i = l → i ≤ nt.length → nt.length ≤ 16 → INVt T (fun t => J t ∧ t ∉ l) → LBt T → UBt T 4 → l.Nodup → (∀ t, t ∈ l → J t ∧ t < 16) → (∀ t, J t → sb t ≠ 0) → RM T sb bx f → BK T.2.1 sb bx → (∀ n j, T.2.1 n = some j → Con T.2.1 T.2.2.1 sb bx n) → HL (S.1 15) nt →
    ∃ S' f' bx', xE 146 195 [some (.ref a), some (.int l1), some (.int l2), some (.int (nI nt.length)), some (.int (nI i))] [] (pM h a (m0 S f)) = some (none, pM h a (m0 S' f')) ∧ SC S S' ∧ RM (insAll sb T l) sb bx' f' ∧ BK (insAll sb T l).2.1 sb bx' ∧ (∀ n j, (insAll sb T l).2.1 n = some j → Con (insAll sb T l).2.1 (insAll sb T l).2.2.1 sb bx' n) ∧ FR f f'
  | [], i, S, T, f, bx, J, hdr, hil, h16, hI, hL, hU, hnd, hl, hs, hR, hB, hC, h15 => by
    have : nt.length ≤ i := List.drop_eq_nil_iff.mp hdr
    refine ⟨S, f, bx, ?_, SC_rf S, hR, hB, hC, FR_rf f⟩
    rw [xb146_195, if_neg (nI_nlt (by omega) (by omega))]
  | s :: l, i, S, T, f, bx, J, hdr, hil, h16, hI, hL, hU, hnd, hl, hs, hR, hB, hC, h15 => by
    have hlt : i < nt.length := Classical.byContradiction fun q => by
      rw [List.drop_eq_nil_of_le (by omega)] at hdr
      cases hdr
    rw [List.drop_eq_getElem_cons hlt] at hdr
    injection hdr with hd1 hd2
    have hn' := List.nodup_cons.mp hnd
    obtain ⟨a1, a2, a3⟩ := insT_ok sb hI hL hU (hl s List.mem_cons_self).2 (fun q => q.2 List.mem_cons_self)
    obtain ⟨S1, f1, b1, c1, c2, c3, c4, c5, c6⟩ := m_shapeComes (h := h) (a := a) (S := S) (s := s) (fun t ht => ht.elim (fun q => hs t q.1) (fun q => by rw [q]; exact hs s (hl s List.mem_cons_self).1)) hI hL hU hR hB hC (hl s List.mem_cons_self).2 (fun q => q.2 List.mem_cons_self)
    obtain ⟨S2, f2, b2, e1, e2, e3, e4, e5, e6⟩ := m_again l1 l2 nt l (i + 1) (S := S1) (J := J) hd2 (by omega) h16 (INVt_congr a1 fun t => by
      constructor
      · rintro (q | rfl)
        · exact ⟨q.1, fun z => q.2 (List.mem_cons_of_mem _ z)⟩
        · exact ⟨(hl t List.mem_cons_self).1, hn'.1⟩
      · intro q
        by_cases e : t = s
        · exact Or.inr e
        · exact Or.inl ⟨q.1, fun z => (List.mem_cons.mp z).elim e q.2⟩) a2 a3 hn'.2 (fun t ht => hl t (List.mem_cons_of_mem _ ht)) hs c3 c4 c5 (by rw [c2.1 15 (by decide) (by decide)]; exact h15)
    refine ⟨S2, f2, b2, ?_, SC_tr (SC7_SC c2) e2, e3, e4, e5, FR_tr c6 e6⟩
    rw [xb146_195, if_pos (nI_lt hlt (by omega)), ml_f15, Option.bind_some, a_r15 h a S f (by omega), Option.bind_some, h15 i _ (List.getElem?_eq_getElem hlt), hd1, ml_gu, c1, xcV_some, nI_1]
    exact e1
theorem m_shapeGoes {S : mS} {T : tS} {f bx : Nat → Int32} {I : Nat → Prop} {s : Nat} (hs : ∀ t, I t → sb t ≠ 0) (hI : INVt T I) (hL : LBt T) (hU : UBt T 4) (hR : RM T sb bx f) (hB : BK T.2.1 sb bx) (hC : ∀ n j, T.2.1 n = some j → Con T.2.1 T.2.2.1 sb bx n) (hIs : I s) :
    ∃ S' f' bx', xM 146 [.ref a, .int (nI s)] (pM h a (m0 S f)) = some (none, pM h a (m0 S' f')) ∧ SC S S' ∧ RM (insAll sb (remT T s) (remC T s).2) sb bx' f' ∧ BK (insAll sb (remT T s) (remC T s).2).2.1 sb bx' ∧ (∀ n j, (insAll sb (remT T s) (remC T s).2).2.1 n = some j → Con (insAll sb (remT T s) (remC T s).2).2.1 (insAll sb (remT T s) (remC T s).2).2.2.1 sb bx' n) ∧ FR f f' := by
  obtain ⟨⟨r, hr, hr16, -⟩, -⟩ := id hI
  obtain ⟨sp0, sp1⟩ := hI.2.2.2.2.2.2 s hIs
  have s16 := (hI.2.2.2.2.1 _ s sp0 sp1).1
  have x16 := (hI.2.2.1 _ _ sp0).1
  have hleaf := m_leafOf (h := h) (a := a) (S := S) hI hR hIs s16
  obtain ⟨F1, t1, t2, t3⟩ := m_takesOut (h := h) (a := a) (S := S) hR sp0 (fun c hc => by have := (hI.2.2.2.2.1 _ c sp0 hc).1; omega) sp1
  have R1 : RM (cutT T s) sb bx F1 := t2
  have hIc : INVt (cutT T s) (fun t => I t ∧ t ≠ s) := INV_cut hI hIs
  have hEc : EN (cutT T s) sb := EN_of hIc (fun t ht => hs t ht.1)
  have en_x : (cutT T s).2.2.1 (T.2.2.2.2 s) = (T.2.2.1 (T.2.2.2.2 s)).erase s := up_s _ _ _
  have en_o : ∀ n, n ≠ T.2.2.2.2 s → (cutT T s).2.2.1 n = T.2.2.1 n := fun n q => up_n _ _ q
  obtain ⟨F2, b2, u1, u2, u3, u4, u5⟩ := m_boxesUp (h := h) (a := a) (S := S) hIc hEc (r := r) hr 17 (nI (T.2.2.2.2 s)) R1 hB sp0 (fun n j hn hnx => Con_gen (rk := T.2.1) (bx := bx) (m := n) (by rw [en_o n hnx]; exact hC n j hn) rfl (fun _ _ _ => rfl)) (by omega)
  have hLx : LBx (cutT T s) (T.2.2.2.2 s) := ⟨fun n j hn hne => by
      show 2 ≤ ((cutT T s).2.2.1 n).length ∨ _
      rw [en_o n hne]; exact hL n j hn, fun j hj => by
      have hj' : T.2.1 (T.2.2.2.2 s) = some (j + 1) := hj
      rw [sp0] at hj'
      cases hj'⟩
  have hUc : UBt (cutT T s) 4 := fun n j hn => by
    show ((cutT T s).2.2.1 n).length ≤ 4
    by_cases e : n = T.2.2.2.2 s
    · rw [e, en_x]
      have := er_len sp1
      have := hU _ _ sp0
      omega
    · rw [en_o n e]; exact hU n j hn
  obtain ⟨S3, F3, b3, l2', l3', v1, v2, v3, v4, v5, v6, v7, v8⟩ := m_climb (h := h) (a := a) (sb := sb) (nI s) 17 (S := sI S 16 0) (nt := []) none hIc (fun t q => absurd q List.not_mem_nil) (fun t q => absurd q List.not_mem_nil) List.nodup_nil hLx hUc hr sp0 (by omega) u2 u3 u4 (fun t ht => hs t ht.1) (HL_nil _) (by rw [sI_s]; rfl)
  obtain ⟨c1, c2, c3, c4, c5, r', c6, c7⟩ := remC_ok hI hL hU hIs
  have hnt16 : (remC T s).2.length ≤ 16 := by
    have := nd_len c2 (l2 := List.range 16) (fun t ht => List.mem_range.mpr (by
      have h1 := hI.2.2.2.2.2.2 t (c3 t ht).1
      exact (hI.2.2.2.2.1 _ t h1.1 h1.2).1))
    rw [List.length_range] at this
    exact this
  obtain ⟨F4, w1, w2, w3, w4, w5⟩ := m_low (h := h) (a := a) (nI s) l2' l3' 17 (S := S3) c1 c5 c4 c7 (by omega) v3 v4 v5
  obtain ⟨d1, d2, d3⟩ := remT_ok hI hL hU hIs
  have hrow : ∀ g : Nat → Int32, xri (pM h a (m0 S3 g)) 0 (a + 1) 304 = some (g 304) := fun g => m_r0 h a S3 g (i := 304) (by decide)
  have w2' : RM (remT T s) sb b3 F4 := w2
  obtain ⟨⟨rr, hrr, hrr16, -⟩, -⟩ := id d1
  obtain ⟨q16, q1, q2, q3, q4, q5, q6⟩ := w2'.2.2.1 _ _ hrr
  have h157 : ∃ F5, xE 146 157 [some (.ref a), some (.int (nI s)), some (.int l2'), l3', none] [] (pM h a (m0 S3 F4)) = xE 146 195 [some (.ref a), some (.int (nI s)), some (.int l2'), some (.int (nI (remC T s).2.length)), some (.int 0)] [] (pM h a (m0 S3 F5)) ∧ RM (remT T s) sb b3 F5 ∧ FR F4 F5 := by
    have v7' : S3.2.1 16 = nI (remC T s).2.length := v7
    by_cases c : ((remT T s).2.2.1 (remT T s).1).length = 0
    · have hr0 : rr = 0 := by
        rcases d2 _ _ hrr with q | q
        · omega
        · exact q.2
      rw [if_pos hr0] at q1
      refine ⟨upd F4 (64 + 10 * (remT T s).1 + 1) 1, ?_, RM_same w2' q1, FR_upd _ _ (by omega) (by omega)⟩
      rw [xb146_157, ml_f0, Option.bind_some, hrow, Option.bind_some, w2'.1, ml_gu, m_n2 h a S3 F4 (by omega), xcI_some, q2, if_pos (show nI ((remT T s).2.2.1 (remT T s).1).length = (0 : Int32) by rw [c]; rfl), ml_f0, Option.bind_some, hrow, Option.bind_some, w2'.1, ml_gu, m_t1 h a S3 F4 (by omega), xcV_some, a_i16, Option.bind_some, v7']
    · refine ⟨F4, ?_, w2', FR_rf F4⟩
      rw [xb146_157, ml_f0, Option.bind_some, hrow, Option.bind_some, w2'.1, ml_gu, m_n2 h a S3 F4 (by omega), xcI_some, q2, if_neg (show ¬ nI ((remT T s).2.2.1 (remT T s).1).length = (0 : Int32) from fun q => c (nI_inj (b := 0) (by omega) (by decide) q)), a_i16, Option.bind_some, v7']
  obtain ⟨F5, x1, x2, x3⟩ := h157
  obtain ⟨S6, F6, b6, y1, y2, y3, y4, y5, y6⟩ := m_again (h := h) (a := a) (sb := sb) (nI s) l2' (remC T s).2 (remC T s).2 0 (S := S3) (J := fun t => I t ∧ t ≠ s) rfl (Nat.zero_le _) hnt16 d1 d2 d3 c2 (fun t ht => ⟨c3 t ht, by
      have h1 := hI.2.2.2.2.2.2 t (c3 t ht).1
      exact (hI.2.2.2.2.1 _ t h1.1 h1.2).1⟩) (fun t ht => hs t ht.1) x2 w3 w4 v6
  have hsc : SC S (sI S 16 0) := ⟨fun _ _ _ => rfl, fun k hk => sI_n S (k := 16) 0 (fun q => by subst q; cases hk), rfl⟩
  refine ⟨S6, F6, b6, ?_, SC_tr (SC_tr hsc v2) y2, y3, y4, y5, FR_tr t3 (FR_tr u5 (FR_tr v8 (FR_tr w5 (FR_tr x3 y6))))⟩
  rw [xb146, ml_gu, hleaf, xcI_some, ml_gu, t1, xcV_some, ml_gu, xb131, u1, xcV_some, a_p16, Option.bind_some]
  exact ((v1.trans w1).trans x1).trans y1
end MLo
