/-! Orders on a scene: a shape moves, a shape goes -/
theorem cnt_cut {p : Nat → Bool} {m : Nat} : ∀ n, m ≤ n → (∀ t, m ≤ t → p t = false) → cnt p n = cnt p m
  | 0, h, _ => by rw [show m = 0 by omega]
  | n + 1, h, hp => by
    by_cases e : m = n + 1
    · rw [e]
    · show cnt p n + (if p n = true then 1 else 0) = cnt p m
      rw [hp n (by omega), cnt_cut n (by omega) hp]
      rfl
theorem remC_len {T : tS} {I : Nat → Prop} (hI : INVt T I) (hL : LBt T) (hU : UBt T 4) {s : Nat} (hs : I s) : (remC T s).2.length ≤ 16 ∧ ∀ t, t ∈ (remC T s).2 → (I t ∧ t ≠ s) ∧ t < 16 := by
  obtain ⟨c1, c2, c3, -⟩ := remC_ok hI hL hU hs
  have h16 : ∀ t, t ∈ (remC T s).2 → t < 16 := fun t ht => by
    have h1 := hI.2.2.2.2.2.2 t (c3 t ht).1
    exact (hI.2.2.2.2.1 _ t h1.1 h1.2).1
  have := nd_len c2 (l2 := List.range 16) (fun t ht => List.mem_range.mpr (h16 t ht))
  rw [List.length_range] at this
  exact ⟨this, fun t ht => ⟨c3 t ht, h16 t ht⟩⟩
theorem CSh_KC {sb : Nat → Int32} {ht cl : Nat → Nat} {S S' : sS} (hS : CSh sb ht cl S) (hk : KC S S') : CSh sb ht cl S' := ⟨fun s hs => by rw [hk.2.1 s hs]; exact hS.1 s hs, fun s hs => by rw [hk.1 9 (by decide), hk.1 10 (by decide)]; exact hS.2 s hs⟩
theorem CDm_KC {D : List Int32} {S S' : sS} (hD : CDm D S) (hk : KC S S') : CDm D S' := ⟨by rw [hk.2.2]; exact hD.1, by rw [hk.1 8 (by decide)]; exact hD.2⟩
theorem CSh_sb {sb : Nat → Int32} {ht cl : Nat → Nat} {S : sS} (hS : CSh sb ht cl S) {s : Nat} (hs : s < 16) {b : Int32} (hp : ∀ t, PR (va_up sb s b) t → PR sb t) : CSh (va_up sb s b) ht cl (sB S 0 (upd (S.1 0) s b)) := ⟨fun t ht' => by
  rw [sB_s]
  by_cases e : t = s
  · subst e; rw [pk_us, up_s]
  · rw [pk_un e, up_n _ _ e]; exact hS.1 t ht', fun t hq => by
  rw [sB_n _ _ (by decide), sB_n _ _ (by decide)]; exact hS.2 t (hp t hq)⟩
theorem lt_clamp {x : Int32} {i : Nat} (h : i < x.toNatClampNeg) (h16 : x.toNatClampNeg ≤ 16) (h0 : ¬ x < 0) : nI i < x := by
  obtain ⟨j, hj, rfl⟩ := nI_of h0
  rw [nI_clamp hj] at h h16
  exact nI_lt h hj
theorem op_move {σ : gT} (hW : WF σ) (i x y w v : Int32) : ∃ r σ', OPr σ r σ' ∧ OPc 35 [.int i, .int x, .int y, .int w, .int v] σ r σ' ∧ OPm 154 [.int i, .int x, .int y, .int w, .int v] σ r σ' := by
  obtain ⟨T, sb, ht, cl, ch, D⟩ := σ
  have hW' := hW
  obtain ⟨hI, hL, hU, hbk, hht, hch, hDk, hDl⟩ := hW'
  dsimp only at hI hL hU hbk hht hch hDk hDl
  rcases sh_dec sb ht cl i with ⟨s, hs, rfl⟩ | ⟨hc, hm⟩
  · rcases bx_make x y w v with ⟨b, hb, e0, e109, e110⟩ | ⟨e0, e109⟩
    · have s16 := hs.1
      have hbn := bok_ne0 hb
      have hap : ∀ t, t < 16 → aff sb ch s t = true → sb t ≠ 0 := fun t _ q => aff_pr q
      have hPR : ∀ t, PR (va_up sb s b) t ↔ PR sb t := fun t => by
        unfold PR
        by_cases e : t = s
        · rw [e, up_s]; exact ⟨fun _ => hs, fun _ => ⟨s16, hbn⟩⟩
        · rw [up_n _ _ e]
      have hbk' : ∀ t, va_up sb s b t ≠ 0 → bok (va_up sb s b t) := fun t hb' => by
        by_cases e : t = s
        · subst e; rw [up_s]; exact hb
        · rw [up_n _ _ e] at hb' ⊢; exact hbk t hb'
      have hch' : CHI (va_up sb s b) cl ch := fun t hp => by
        obtain ⟨z1, z2⟩ := hch t ((hPR t).mp hp)
        exact ⟨z1, z2.imp id fun q => ⟨(hPR _).mpr q.1, q.2⟩⟩
      have hap' : ∀ t, t < 16 → aff sb ch s t = true → va_up sb s b t ≠ 0 := fun t ht' q => ((hPR t).mpr ⟨ht', aff_pr q⟩).2
      obtain ⟨r1, r2, r3⟩ := remT_ok hI hL hU hs
      obtain ⟨c1, c2, c3, -⟩ := remC_ok hI hL hU hs
      obtain ⟨n1, n2⟩ := remC_len hI hL hU hs
      obtain ⟨j1, j2, j3⟩ := insAll_ok sb (remC T s).2 (J := fun t => PR sb t ∧ t ≠ s) r1 r2 r3 c2 n2
      have hns : ¬ (PR sb s ∧ s ≠ s) := fun q => q.2 rfl
      obtain ⟨k1, k2, k3⟩ := insT_ok (va_up sb s b) j1 j2 j3 s16 hns
      have hJ : ∀ t, (PR sb t ∧ t ≠ s) ∨ t = s ↔ PR (va_up sb s b) t := fun t => by
        rw [hPR]
        constructor
        · rintro (q | rfl)
          · exact q.1
          · exact hs
        · intro q
          by_cases e : t = s
          · exact Or.inr e
          · exact Or.inl ⟨q, e⟩
      have hsx : ∀ t, (PR sb t ∧ t ≠ s) ∨ t = s → va_up sb s b t ≠ 0 := fun t q => ((hJ t).mp q).2
      obtain ⟨d1, d2⟩ := dvs_ok (p := aff sb ch s) hbk hch hap hDl hDk 16 (Nat.le_refl _)
      obtain ⟨d3, d4⟩ := dvs_ok (p := aff sb ch s) hbk' hch' hap' d1 d2 16 (Nat.le_refl _)
      generalize hT2 : insAll sb (remT T s) (remC T s).2 = T2 at j1 j2 j3 k1 k2 k3
      have hcnt : cnt (fun n => ((insT (va_up sb s b) T2 s).2.1 n).isSome) 24 = cnt (fun n => ((insT (va_up sb s b) T2 s).2.1 n).isSome) 16 := cnt_cut 24 (by decide) (fun n hn => by
        cases hq : (insT (va_up sb s b) T2 s).2.1 n with
        | none => rfl
        | some k => have := (k1.2.2.1 n k hq).1; omega)
      have hcl := cnt_le (fun n => ((insT (va_up sb s b) T2 s).2.1 n).isSome) 16
      refine ⟨nI (cnt (fun n => ((insT (va_up sb s b) T2 s).2.1 n).isSome) 16), (insT (va_up sb s b) T2 s, va_up sb s b, ht, cl, ch, dvs (va_up sb s b) ch (aff sb ch s) (dvs sb ch (aff sb ch s) D 16) 16), ⟨⟨INVt_congr k1 hJ, k2, k3, hbk', fun t hp => hht t ((hPR t).mp hp), hch', d4, d3⟩, Or.inr ⟨_, by omega, rfl⟩⟩, fun h a S hS => ?_, fun h a S f hM => ?_⟩
      · obtain ⟨hT, hSh, hDm⟩ := hS
        dsimp only at hT hSh hDm
        obtain ⟨S1, y1, y2, y3⟩ := c_damageViews (h := h) (a := a) hbk hch hap hDl hDk hSh hDm
        obtain ⟨bx, g1, g2⟩ := CTr_KD hT y2
        obtain ⟨S2, b2, t1, t2, t3, t4, t5, t6⟩ := c_takeOut (h := h) (a := a) (sb := sb) (I := PR sb) (fun t q => q.2) hI hL hU g1 g2 hs
        have hSh2 := CSh_KC (CSh_KD hSh y2) t6
        have hDm2 := CDm_KC y3 t6
        obtain ⟨S3, u1, u2, u3⟩ := c_again (h := h) (a := a) (sb := sb) (fun ii hh => xE 35 51 [some (.ref a), some (.int (nI s)), some (.int x), some (.int y), some (.int w), some (.int v), some (.int b), some (.int (nI (mk (aff sb ch s) 16))), some (.int ii)] [] hh) (fun ii S q1 q2 q3 => by
            show xE 35 51 [some (.ref a), some (.int (nI s)), some (.int x), some (.int y), some (.int w), some (.int v), some (.int b), some (.int (nI (mk (aff sb ch s) 16))), some (.int (nI ii))] [] (pS h a S) = _
            rw [xb35_51, sl_s0, Option.bind_some, sl_t9, Option.bind_some, if_pos (lt_clamp q1 q2 q3), Option.bind_some, Option.bind_some, sl_t8, Option.bind_some, c_r7 h a S (by omega), Option.bind_some, sl_gt, nI_1]) (remC T s).2 (remC T s).2 0 (J := fun t => PR sb t ∧ t ≠ s) List.drop_zero (Nat.zero_le _) n1 r1 r2 r3 c2 n2 (fun t q => q.1.2) ⟨b2, t2, t3⟩ t4 t5
        rw [hT2] at u2
        obtain ⟨b3, v1, v2⟩ := u2
        have hSh3 := CSh_KC hSh2 (KP_KC u3)
        have hDm3 := CDm_KC hDm2 (KP_KC u3)
        have hSh4 := CSh_sb hSh3 s16 (b := b) (fun t q => (hPR t).mp q)
        have R4 := RC_sb v1 s16 b
        obtain ⟨S5, b5, w1, w2, w3, w4⟩ := c_put (h := h) (a := a) (sb := va_up sb s b) (s := s) (I := fun t => PR sb t ∧ t ≠ s) hsx j1 j2 j3 R4 (fun n j hn => Con_sb j1 hns b hn (v2 n j hn)) s16 hns
        have hSh5 := CSh_KC hSh4 (KP_KC w4)
        have hDm5 : CDm (dvs sb ch (aff sb ch s) D 16) S5 := CDm_KC (S := sB S3 0 (upd (S3.1 0) s b)) ⟨hDm3.1, by rw [sB_n _ _ (by decide)]; exact hDm3.2⟩ (KP_KC w4)
        obtain ⟨S6, z1, z2, z3⟩ := c_damageViews (h := h) (a := a) hbk' hch' hap' d1 d2 hSh5 hDm5
        have hT6 := CTr_KD (T := insT (va_up sb s b) T2 s) (sb := va_up sb s b) ⟨b5, w2, w3⟩ z2
        obtain ⟨b6, x1, x2⟩ := hT6
        refine ⟨S6, ?_, ⟨b6, x1, x2⟩, CSh_KD hSh5 z2, z3⟩
        have h31 : S3.2 1 = nI (remC T s).2.length := by rw [u3.2.2.1]; exact t5
        have u1' : xE 35 51 [some (.ref a), some (.int (nI s)), some (.int x), some (.int y), some (.int w), some (.int v), some (.int b), some (.int (nI (mk (aff sb ch s) 16))), some (.int 0)] [] (pS h a S2) = xE 35 51 [some (.ref a), some (.int (nI s)), some (.int x), some (.int y), some (.int w), some (.int v), some (.int b), some (.int (nI (mk (aff sb ch s) 16))), some (.int (nI (remC T s).2.length))] [] (pS h a S3) := u1
        rw [xb35, e0, xcI_some, sl_gu, c_hasY hSh hs, xcI_some, if_neg one_ne, if_neg hbn, sl_gu, c_affected hSh hch hs, xcI_some, sl_gu, y1, xcV_some, sl_s0, Option.bind_some, sl_gt, t1, xcV_some, u1', xb35_51, sl_s0, Option.bind_some, sl_t9, Option.bind_some, h31, if_neg (nI_nlt (Nat.le_refl _) (by omega)), sl_s2, Option.bind_some, c_w0 h a S3 (by omega), Option.bind_some, sl_s0, Option.bind_some, sl_gt, w1, xcV_some, sl_gu, z1, xcV_some, sl_s0, Option.bind_some, sl_gt, c_summary0 x1, xcI_some]
      · obtain ⟨⟨bx, hR, hB, hC⟩, hSh, hDm⟩ := hM
        dsimp only at hR hB hC hSh hDm
        obtain ⟨S1, l1, l2, l3⟩ := m_looksAhead (h := h) (a := a) (S := S) hSh hbk hch s16
        obtain ⟨S2, f2, b2, g1, g2, g3, g4, g5, g6⟩ := m_shapeGoes (h := h) (a := a) (S := S1) (I := PR sb) (fun t q => q.2) hI hL hU hR hB hC hs
        rw [hT2] at g3 g4 g5
        have hSh2 := MSh_FR hSh g6
        have hDm2 := MD_FR hDm g6
        have hSh3 : MSh (va_up sb s b) ht cl (upd f2 (4 * s + 1) b) := by
          refine ⟨fun t ht' => ?_, fun t hp => ?_⟩
          · rw [pk_un (by omega), hSh2.1 t ht']
            by_cases e : t = s
            · subst e; rw [up_s, if_neg hbn, if_neg hs.2]
            · rw [up_n _ _ e]
          · have hq := hSh2.2 t ((hPR t).mp hp)
            rw [pk_un (show 4 * t + 2 ≠ 4 * s + 1 by omega), pk_un (show 4 * t + 3 ≠ 4 * s + 1 by omega)]
            by_cases e : t = s
            · subst e; rw [pk_us, up_s]; exact ⟨rfl, hq.2⟩
            · rw [pk_un (by omega), up_n _ _ e]; exact hq
        obtain ⟨S3, f4, b4, q1, q2, q3, q4, q5, q6⟩ := m_shapeComes (h := h) (a := a) (S := S2) (I := fun t => PR sb t ∧ t ≠ s) hsx j1 j2 j3 (RM_sb g3 s16 b) (⟨hbk', g4.2⟩ : BK T2.2.1 (va_up sb s b) b2) (fun n j hn => Con_sb j1 hns b hn (g5 n j hn)) s16 hns
        have hSh4 := MSh_FR hSh3 q6
        have hDm4 : MD f4 D := MD_FR (MD_lo hDm2 (fun i hi => pk_un (by omega))) q6
        have e17 : ∀ k, k = 17 ∨ k = 18 → S3.1 k = S1.1 k := fun k hk => by
          rw [q2.1 k (by omega) (by omega), g2.1 k (by rcases hk with rfl | rfl <;> rfl) (by omega)]
        obtain ⟨f5, p1, p2, p3⟩ := m_looksBehind (h := h) (a := a) (S := S3) (vb := fun t => if aff sb ch s t = true then vw sb ch t else 0) (q := aff sb ch s) hSh4 hbk' hch' hDm4 hDl hDk (fun t ht' => by
          show bok0 (if aff sb ch s t = true then vw sb ch t else 0)
          by_cases e : aff sb ch s t = true
          · rw [if_pos e]; exact vw_ok hbk hch ⟨ht', aff_pr e⟩
          · rw [if_neg e]; exact Or.inl rfl) (fun t ht' => by rw [e17 17 (Or.inl rfl)]; exact (l3 t ht').2) (fun t ht' => by rw [e17 18 (Or.inr rfl)]; exact (l3 t ht').1)
        rw [dav_dvs (sb := sb) (ch := ch) (p := aff sb ch s) 16 (fun t _ => rfl), dvs_ext (sb' := va_up sb s b) (ch' := ch) (q := aff sb ch s) 16 (fun t ht' => by
          cases hq : aff sb ch s t with
          | false => rfl
          | true => rw [decide_eq_true (hap' t ht' hq)]; rfl) (fun _ _ _ => rfl)] at p3
        have R5 := RM_FD q3 p2
        refine ⟨S3, f5, ?_, KM_tr (LK_KM l2) (KM_tr (SC_KM g2) (SC_KM (SC7_SC q2))), ⟨b4, R5, q4, q5⟩, MSh_FD hSh4 p2, p3⟩
        rw [xb154, ml_gu, m_isY hSh hs, xcI_some, if_neg one_ne, e109, xcI_some, if_neg one_ne, ml_gu, l1, xcV_some, ml_gu, g1, xcV_some, ml_f0, Option.bind_some, e110, xcI_some, m_wS1 h a S2 f2 s16, Option.bind_some, ml_gu, q1, xcV_some, ml_gu, p1, xcV_some, ml_gu, m_nodes R5, xcI_some, hcnt]
    · refine op_ref hW (r := -2) (Or.inl rfl) (fun h a S hS => ?_) (fun h a S f hM => ?_)
      · rw [xb35, e0, xcI_some, sl_gu, c_hasY hS.2.1 hs, xcI_some, if_neg one_ne, if_pos rfl]
      · rw [xb154, ml_gu, m_isY hM.2.1 hs, xcI_some, if_neg one_ne, e109, xcI_some, if_pos rfl]
  · refine op_ref hW (r := -2) (Or.inl rfl) (fun h a S hS => ?_) (fun h a S f hM => ?_)
    · rcases bx_make x y w v with ⟨b, hb, e0, e109, e110⟩ | ⟨e0, e109⟩
      · rw [xb35, e0, xcI_some, sl_gu, hc h a S hS.2.1, xcI_some, if_pos rfl]
      · rw [xb35, e0, xcI_some, sl_gu, hc h a S hS.2.1, xcI_some, if_pos rfl]
    · rw [xb154, ml_gu, hm h a S f hM.2.1, xcI_some, if_pos rfl]
theorem no_cl {sb : Nat → Int32} {cl : Nat → Nat} {ch : Nat → List Nat} (hc : CHI sb cl ch) {s : Nat} (hn : ∀ t, PR sb t → cl t ≠ s) : ∀ (k t : Nat), (ch t).length ≤ k → PR sb t → s ∉ ch t
  | k, t, hk, hp => by
    rcases (hc t hp).2 with ⟨-, q⟩ | ⟨q1, q2⟩
    · rw [q]; exact List.not_mem_nil
    · have hl : (ch t).length = (ch (cl t)).length + 1 := by rw [q2]; rfl
      cases k with
      | zero => omega
      | succ k =>
        rw [q2]
        intro z
        rcases List.mem_cons.mp z with z | z
        · exact hn t hp z.symm
        · exact no_cl hc hn k (cl t) (by omega) q1 z
theorem cnt_zero {p : Nat → Bool} : ∀ {n : Nat}, cnt p n = 0 ↔ ∀ t, t < n → p t = false
  | 0 => ⟨fun _ t ht => absurd ht (Nat.not_lt_zero _), fun _ => rfl⟩
  | n + 1 => by
    have ih := cnt_zero (p := p) (n := n)
    constructor
    · intro h t ht
      unfold cnt at h
      by_cases e : t = n
      · subst e
        cases hq : p t with
        | false => rfl
        | true => rw [if_pos hq] at h; omega
      · exact ih.mp (by omega) t (by omega)
    · intro h
      unfold cnt
      rw [ih.mpr fun t ht => h t (by omega), h n (by omega)]
      rfl
theorem op_away {σ : gT} (hW : WF σ) (i : Int32) : ∃ r σ', OPr σ r σ' ∧ OPc 38 [.int i] σ r σ' ∧ OPm 157 [.int i] σ r σ' := by
  obtain ⟨T, sb, ht, cl, ch, D⟩ := σ
  have hW' := hW
  obtain ⟨hI, hL, hU, hbk, hht, hch, hDk, hDl⟩ := hW'
  dsimp only at hI hL hU hbk hht hch hDk hDl
  rcases sh_dec sb ht cl i with ⟨s, hs, rfl⟩ | ⟨hc, hm⟩
  · have s16 := hs.1
    have hcle := cnt_le (fun t => decide (sb t ≠ 0 ∧ cl t = s)) 16
    by_cases c0 : cnt (fun t => decide (sb t ≠ 0 ∧ cl t = s)) 16 = 0
    · have hnc : ∀ t, PR sb t → cl t ≠ s := fun t hp q => by
        have := cnt_zero.mp c0 t hp.1
        exact absurd (⟨hp.2, q⟩ : sb t ≠ 0 ∧ cl t = s) (of_decide_eq_false this)
      have haff : ∀ t, t < 16 → (aff sb ch s t = true ↔ t = s) := fun t ht' => by
        unfold aff
        rw [decide_eq_true_iff]
        constructor
        · rintro ⟨q1, q2 | q2⟩
          · exact q2
          · exact absurd q2 (no_cl hch hnc _ t (Nat.le_refl _) ⟨ht', q1⟩)
        · rintro rfl
          exact ⟨hs.2, Or.inl rfl⟩
      have hPR : ∀ t, PR (va_up sb s 0) t ↔ PR sb t ∧ t ≠ s := fun t => by
        unfold PR
        by_cases e : t = s
        · rw [e, up_s]; exact ⟨fun q => absurd rfl q.2, fun q => absurd rfl q.2⟩
        · rw [up_n _ _ e]; exact ⟨fun q => ⟨q, e⟩, fun q => q.1⟩
      have hbk' : ∀ t, va_up sb s 0 t ≠ 0 → bok (va_up sb s 0 t) := fun t hb' => by
        by_cases e : t = s
        · subst e; rw [up_s] at hb'; exact absurd rfl hb'
        · rw [up_n _ _ e] at hb' ⊢; exact hbk t hb'
      have hch' : CHI (va_up sb s 0) cl ch := fun t hp => by
        have hp' := (hPR t).mp hp
        obtain ⟨z1, z2⟩ := hch t hp'.1
        exact ⟨z1, z2.imp id fun q => ⟨(hPR _).mpr ⟨q.1, hnc t hp'.1⟩, q.2⟩⟩
      obtain ⟨r1, r2, r3⟩ := remT_ok hI hL hU hs
      obtain ⟨c1, c2, c3, -⟩ := remC_ok hI hL hU hs
      obtain ⟨n1, n2⟩ := remC_len hI hL hU hs
      obtain ⟨j1, j2, j3⟩ := insAll_ok (va_up sb s 0) (remC T s).2 (J := fun t => PR sb t ∧ t ≠ s) r1 r2 r3 c2 n2
      have hns : ¬ ((PR sb s ∧ s ≠ s) ∧ s ∉ (remC T s).2) := fun q => q.1.2 rfl
      obtain ⟨d1, d2⟩ := dadd_ok hDl hDk (vw_ok hbk hch hs)
      have hcl2 := cnt_le (fun t => decide (va_up sb s 0 t ≠ 0)) 16
      refine ⟨nI (cnt (fun t => decide (va_up sb s 0 t ≠ 0)) 16), (insAll (va_up sb s 0) (remT T s) (remC T s).2, va_up sb s 0, ht, cl, ch, dadd D (vw sb ch s)), ⟨⟨INVt_congr j1 fun t => (hPR t).symm, j2, j3, hbk', fun t hp => hht t ((hPR t).mp hp).1, hch', d2, d1⟩, Or.inr ⟨_, by omega, rfl⟩⟩, fun h a S hS => ?_, fun h a S f hM => ?_⟩
      · obtain ⟨hT, hSh, hDm⟩ := hS
        dsimp only at hT hSh hDm
        obtain ⟨S1, y1, y2, y3, y4⟩ := c_add (h := h) (a := a) hDm.1 hDm.2 hDl (vw sb ch s)
        obtain ⟨bx, g1, g2⟩ := CTr_KD hT y2
        obtain ⟨S2, b2, t1, t2, t3, t4, t5, t6⟩ := c_takeOut (h := h) (a := a) (sb := sb) (I := PR sb) (fun t q => q.2) hI hL hU g1 g2 hs
        have hSh2 := CSh_KC (CSh_KD hSh y2) t6
        have hDm2 : CDm (dadd D (vw sb ch s)) S2 := CDm_KC ⟨y3, y4⟩ t6
        have hSh3 := CSh_sb hSh2 s16 (b := 0) (fun t q => ((hPR t).mp q).1)
        have R3 := RC_sb t2 s16 0
        obtain ⟨S3, u1, u2, u3⟩ := c_again (h := h) (a := a) (sb := va_up sb s 0) (fun ii hh => xE 38 51 [some (.ref a), some (.int (nI s)), some (.int ii)] [] hh) (fun ii S q1 q2 q3 => by
            show xE 38 51 [some (.ref a), some (.int (nI s)), some (.int (nI ii))] [] (pS h a S) = _
            rw [xb38_51, sl_s0, Option.bind_some, sl_t9, Option.bind_some, if_pos (lt_clamp q1 q2 q3), Option.bind_some, Option.bind_some, sl_t8, Option.bind_some, c_r7 h a S (by omega), Option.bind_some, sl_gt, nI_1]) (remC T s).2 (remC T s).2 0 (S := sB S2 0 (upd (S2.1 0) s 0)) (J := fun t => PR sb t ∧ t ≠ s) List.drop_zero (Nat.zero_le _) n1 r1 r2 r3 c2 n2 (fun t q => ((hPR t).mpr q).2) ⟨b2, R3, fun n j hn => Con_sb r1 hns 0 hn (t3 n j hn)⟩ (by rw [sB_n _ _ (by decide)]; exact t4) t5
        have hSh4 := CSh_KC hSh3 (KP_KC u3)
        have hDm4 : CDm (dadd D (vw sb ch s)) S3 := CDm_KC (S := sB S2 0 (upd (S2.1 0) s 0)) ⟨hDm2.1, by rw [sB_n _ _ (by decide)]; exact hDm2.2⟩ (KP_KC u3)
        have h31 : S3.2 1 = nI (remC T s).2.length := by rw [u3.2.2.1]; exact t5
        have u1' : xE 38 51 [some (.ref a), some (.int (nI s)), some (.int 0)] [] (pS h a (sB S2 0 (upd (S2.1 0) s 0))) = xE 38 51 [some (.ref a), some (.int (nI s)), some (.int (nI (remC T s).2.length))] [] (pS h a S3) := u1
        refine ⟨S3, ?_, u2, hSh4, hDm4⟩
        rw [xb38, sl_gu, c_hasY hSh hs, xcI_some, if_neg one_ne, sl_gu, c_clippedBy hSh hch s16, xcI_some, c0, if_neg (show ¬ (0 : Int32) < nI 0 by decide), sl_s1, Option.bind_some, sl_gu, c_viewOf hSh hch hs, xcI_some, sl_gd, y1, xcV_some, sl_s0, Option.bind_some, sl_gt, t1, xcV_some, sl_s2, Option.bind_some, c_w0 h a S2 (by omega), Option.bind_some, u1', xb38_51, sl_s0, Option.bind_some, sl_t9, Option.bind_some, h31, if_neg (nI_nlt (Nat.le_refl _) (by omega)), sl_gu, c_shapeCount hSh4, xcI_some]
      · obtain ⟨⟨bx, hR, hB, hC⟩, hSh, hDm⟩ := hM
        dsimp only at hR hB hC hSh hDm
        obtain ⟨S1, l1, l2, l3⟩ := m_looksAhead (h := h) (a := a) (S := S) hSh hbk hch s16
        obtain ⟨S2, f2, b2, g1, g2, g3, g4, g5, g6⟩ := m_shapeGoes2 (h := h) (a := a) (S := S1) (sb' := va_up sb s 0) (I := PR sb) (fun t q => q.2) hI hL hU hR hB hC hs (fun t q => up_n _ _ q) (up_s _ _ _)
        have hSh2 := MSh_FR hSh g6
        have hDm2 := MD_FR hDm g6
        have hw : ∀ (f : Nat → Int32) (k : Nat), k < 4 → xwi (pM h a (m0 S2 f)) 0 (a + 1) (4 * nI s + nI k) 0 = some (pM h a (m0 S2 (upd f (4 * s + k) 0))) := fun f k hk => by
          rw [show (4 : Int32) = nI 4 from rfl, pk_mul, nI_add, m_w0 h a S2 f (by omega)]
        have hloop : ∀ (f : Nat → Int32) (k : Nat), k < 4 → xE 157 34 [some (.ref a), some (.int (nI s)), some (.int (nI k))] [] (pM h a (m0 S2 f)) = xE 157 34 [some (.ref a), some (.int (nI s)), some (.int (nI (k + 1)))] [] (pM h a (m0 S2 (upd f (4 * s + k) 0))) := fun f k hk => by
          rw [xb157_34, if_pos (show nI k < (4 : Int32) from nI_lt (b := 4) hk (by decide)), ml_f0, Option.bind_some, hw f k hk, Option.bind_some, nI_1]
        generalize hf3 : upd (upd (upd (upd f2 (4 * s + 0) 0) (4 * s + 1) 0) (4 * s + 2) 0) (4 * s + 3) 0 = f3
        have h34 : xE 157 34 [some (.ref a), some (.int (nI s)), some (.int 0)] [] (pM h a (m0 S2 f2)) = xE 157 34 [some (.ref a), some (.int (nI s)), some (.int (nI 4))] [] (pM h a (m0 S2 f3)) := by
          refine Eq.trans (show _ = _ from hloop f2 0 (by decide)) ?_
          rw [hloop _ 1 (by decide), hloop _ 2 (by decide), hloop _ 3 (by decide), hf3]
        have f3o : ∀ j, j ≠ 4 * s + 0 → j ≠ 4 * s + 1 → j ≠ 4 * s + 2 → j ≠ 4 * s + 3 → f3 j = f2 j := fun j q0 q1 q2 q3 => by
          rw [← hf3, pk_un q3, pk_un q2, pk_un q1, pk_un q0]
        have f3z : f3 (4 * s + 0) = 0 := by rw [← hf3, pk_un (by omega), pk_un (by omega), pk_un (by omega), pk_us]
        have hSh3 : MSh (va_up sb s 0) ht cl f3 := by
          refine ⟨fun t ht' => ?_, fun t hp => ?_⟩
          · by_cases e : t = s
            · subst e; rw [f3z, up_s, if_pos rfl]
            · rw [f3o _ (by omega) (by omega) (by omega) (by omega), up_n _ _ e]; exact hSh2.1 t ht'
          · have hp' := (hPR t).mp hp
            rw [f3o _ (by omega) (by omega) (by omega) (by omega), f3o _ (by omega) (by omega) (by omega) (by omega), f3o _ (by omega) (by omega) (by omega) (by omega), up_n _ _ hp'.2]
            exact hSh2.2 t hp'.1
        have R3 : RM (insAll (va_up sb s 0) (remT T s) (remC T s).2) (va_up sb s 0) b2 f3 := RM_lo g3 (fun j q1 q2 => f3o j (by omega) (by omega) (by omega) (by omega)) (fun t ht' hb' => (hSh3.2 t ⟨ht', hb'⟩).1)
        have hDm3 : MD f3 D := MD_lo hDm2 (fun j hj => f3o j (by omega) (by omega) (by omega) (by omega))
        obtain ⟨f5, p1, p2, p3⟩ := m_looksBehind (h := h) (a := a) (S := S2) (vb := fun t => if aff sb ch s t = true then vw sb ch t else 0) (q := aff sb ch s) hSh3 hbk' hch' hDm3 hDl hDk (fun t ht' => by
          show bok0 (if aff sb ch s t = true then vw sb ch t else 0)
          by_cases e : aff sb ch s t = true
          · rw [if_pos e]; exact vw_ok hbk hch ⟨ht', aff_pr e⟩
          · rw [if_neg e]; exact Or.inl rfl) (fun t ht' => by rw [g2.1 17 rfl (by decide)]; exact (l3 t ht').2) (fun t ht' => by rw [g2.1 18 rfl (by decide)]; exact (l3 t ht').1)
        rw [dav_dvs (sb := sb) (ch := ch) (p := aff sb ch s) 16 (fun t _ => rfl), dvs_one (s := s) haff 16 (Nat.le_refl _) s16, dvs_none 16 (fun t ht' => by
          cases hq : aff sb ch s t with
          | false => rfl
          | true =>
            have := (haff t ht').mp hq
            rw [this, up_s]; rfl)] at p3
        refine ⟨S2, f5, ?_, KM_tr (LK_KM l2) (SC_KM g2), MTr_FD ⟨b2, R3, g4, g5⟩ p2, MSh_FD hSh3 p2, p3⟩
        rw [xb157, ml_gu, m_isY hSh hs, xcI_some, if_neg one_ne, ml_gu, m_clippedBy hSh hch s16, xcI_some, c0, if_neg (show ¬ (0 : Int32) < nI 0 by decide), ml_gu, l1, xcV_some, ml_gu, g1, xcV_some, h34, xb157_34, if_neg (show ¬ nI 4 < (4 : Int32) by decide), ml_gu, p1, xcV_some, ml_gu, m_shapes (MSh_FD hSh3 p2), xcI_some]
    · refine op_ref hW (r := -3) (Or.inr (Or.inl rfl)) (fun h a S hS => ?_) (fun h a S f hM => ?_)
      · rw [xb38, sl_gu, c_hasY hS.2.1 hs, xcI_some, if_neg one_ne, sl_gu, c_clippedBy hS.2.1 hch s16, xcI_some, if_pos (show (0 : Int32) < nI (cnt (fun t => decide (sb t ≠ 0 ∧ cl t = s)) 16) from nI_lt (a := 0) (by omega) (by omega))]
      · rw [xb157, ml_gu, m_isY hM.2.1 hs, xcI_some, if_neg one_ne, ml_gu, m_clippedBy hM.2.1 hch s16, xcI_some, if_pos (show (0 : Int32) < nI (cnt (fun t => decide (sb t ≠ 0 ∧ cl t = s)) 16) from nI_lt (a := 0) (by omega) (by omega))]
  · refine op_ref hW (r := -2) (Or.inl rfl) (fun h a S hS => ?_) (fun h a S f hM => ?_)
    · rw [xb38, sl_gu, hc h a S hS.2.1, xcI_some, if_pos rfl]
    · rw [xb157, ml_gu, hm h a S f hM.2.1, xcI_some, if_pos rfl]
