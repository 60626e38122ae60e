/-! Orders on a scene: a shape is lifted, clipped; the damage is drawn -/
section SHD
variable {sb : Nat → Int32} {ht cl : Nat → Nat} {ch : Nat → List Nat}
theorem sh_dec (sb : Nat → Int32) (ht cl : Nat → Nat) (x : Int32) : (∃ j, PR sb j ∧ x = nI j) ∨ ((∀ (h : xH) (a : Nat) (S : sS), CSh sb ht cl S → xM 32 [.ref a, .int x] (pS h a S) = some (some (.int 0), pS h a S)) ∧ ∀ (h : xH) (a : Nat) (S : mS) (f : Nat → Int32), MSh sb ht cl f → xM 120 [.ref a, .int x] (pM h a (m0 S f)) = some (some (.int 0), pM h a (m0 S f))) := by
  rcases pk_ix x (n := 16) (by decide) with q | q | ⟨j, hj, rfl⟩
  · exact Or.inr ⟨fun h a S _ => c_hasX S (Or.inl q), fun h a S f _ => m_isShapeX (Or.inl q)⟩
  · exact Or.inr ⟨fun h a S _ => c_hasX S (Or.inr q), fun h a S f _ => m_isShapeX (Or.inr q)⟩
  · by_cases c : sb j = 0
    · exact Or.inr ⟨fun h a S hS => by rw [c_hasN hS hj, if_pos c], fun h a S f hM => by rw [m_isShapeN hM hj, if_pos c]⟩
    · exact Or.inl ⟨j, ⟨hj, c⟩, rfl⟩
theorem c_hasY {h : xH} {a : Nat} {S : sS} (hS : CSh sb ht cl S) {s : Nat} (hs : PR sb s) : xM 32 [.ref a, .int (nI s)] (pS h a S) = some (some (.int 1), pS h a S) := by rw [c_hasN hS hs.1, if_neg hs.2]
theorem m_isY {h : xH} {a : Nat} {S : mS} {f : Nat → Int32} (hM : MSh sb ht cl f) {s : Nat} (hs : PR sb s) : xM 120 [.ref a, .int (nI s)] (pM h a (m0 S f)) = some (some (.int 1), pM h a (m0 S f)) := by rw [m_isShapeN hM hs.1, if_neg hs.2]
theorem aff_pr {s t : Nat} (hq : aff sb ch s t = true) : sb t ≠ 0 := by
  unfold aff at hq
  exact (of_decide_eq_true hq).1
theorem one_ne : ¬ (1 : Int32) = 0 := by decide
end SHD
theorem op_lift {σ : gT} (hW : WF σ) (x z : Int32) : ∃ r σ', OPr σ r σ' ∧ OPc 36 [.int x, .int z] σ r σ' ∧ OPm 155 [.int x, .int z] σ r σ' := by
  obtain ⟨T, sb, ht, cl, ch, D⟩ := σ
  have hW' := hW
  obtain ⟨hI, hL, hU, hbk, hht, hch, hDk, hDl⟩ := hW'
  dsimp only at hI hL hU hbk hht hch hDk hDl
  rcases sh_dec sb ht cl x with ⟨s, hs, rfl⟩ | ⟨hc, hm⟩
  · by_cases cz : (0 : Int32) ≤ z ∧ z ≤ 99
    · obtain ⟨zz, hz, rfl⟩ := nI_of2 (n := 99) (M := 99) (by decide) (Int32.not_lt.mpr cz.1) cz.2
      have s16 := hs.1
      have hh := hht s hs
      have hap : ∀ t, t < 16 → aff sb ch s t = true → sb t ≠ 0 := fun t _ q => aff_pr q
      obtain ⟨d1, d2⟩ := dvs_ok (p := aff sb ch s) hbk hch hap hDl hDk 16 (Nat.le_refl _)
      obtain ⟨d3, d4⟩ := dvs_ok (p := aff sb ch s) hbk hch hap d1 d2 16 (Nat.le_refl _)
      refine ⟨nI (ht s), (T, sb, va_up ht s zz, cl, ch, dvs sb ch (aff sb ch s) (dvs sb ch (aff sb ch s) D 16) 16), ⟨⟨hI, hL, hU, hbk, fun t hp => ?_, hch, d4, d3⟩, Or.inr ⟨ht s, by omega, rfl⟩⟩, fun h a S hS => ?_, fun h a S f hM => ?_⟩
      · show va_up ht s zz t < 100
        by_cases e : t = s
        · subst e; rw [up_s]; omega
        · rw [up_n _ _ e]; exact hht t hp
      · obtain ⟨hT, hSh, hDm⟩ := hS
        dsimp only at hT hSh hDm
        obtain ⟨S1, y1, y2, y3⟩ := c_damageViews (h := h) (a := a) hbk hch hap hDl hDk hSh hDm
        have hSh1 := CSh_KD hSh y2
        have hSh2 : CSh sb (va_up ht s zz) cl (sB S1 9 (upd (S1.1 9) s (nI zz))) := by
          refine ⟨fun t ht' => by rw [sB_n _ _ (by decide)]; exact hSh1.1 t ht', fun t hp => ?_⟩
          rw [sB_s, sB_n _ _ (by decide)]
          by_cases e : t = s
          · subst e; rw [pk_us, up_s]; exact ⟨rfl, (hSh1.2 t hp).2⟩
          · rw [pk_un e, up_n _ _ e]; exact hSh1.2 t hp
        have hDm2 : CDm (dvs sb ch (aff sb ch s) D 16) (sB S1 9 (upd (S1.1 9) s (nI zz))) := ⟨y3.1, by rw [sB_n _ _ (by decide)]; exact y3.2⟩
        obtain ⟨S3, z1, z2, z3⟩ := c_damageViews (h := h) (a := a) hbk hch hap d1 d2 hSh2 hDm2
        have hT2 : CTr T sb (sB S1 9 (upd (S1.1 9) s (nI zz))) := by
          obtain ⟨bx, g1, g2⟩ := CTr_KD hT y2
          exact ⟨bx, RC_rows g1 (fun j hj => sB_n _ _ (by omega)) rfl, g2⟩
        refine ⟨S3, ?_, CTr_KD hT2 z2, CSh_KD hSh2 z2, z3⟩
        rw [xb36, sl_gu, c_hasY hSh hs, xcI_some, if_neg one_ne, if_neg (Int32.not_lt.mpr cz.1), if_neg (Int32.not_lt.mpr cz.2), sl_s3, Option.bind_some, c_r9 h a S s16, Option.bind_some, (hSh.2 s hs).1, sl_gu, c_affected hSh hch hs, xcI_some, sl_gu, y1, xcV_some, sl_s3, Option.bind_some, c_w9 h a S1 s16, Option.bind_some, sl_gu, z1, xcV_some]
      · obtain ⟨hT, hSh, hDm⟩ := hM
        dsimp only at hT hSh hDm
        generalize hf1 : upd f (4 * s + 2) (nI zz) = f1
        have f1o : ∀ i, i ≠ 4 * s + 2 → f1 i = f i := fun i q => by rw [← hf1, pk_un q]
        have hSh1 : MSh sb (va_up ht s zz) cl f1 := by
          refine ⟨fun t ht' => by rw [f1o _ (by omega)]; exact hSh.1 t ht', fun t hp => ?_⟩
          rw [f1o (4 * t + 1) (by omega), f1o (4 * t + 3) (by omega)]
          by_cases e : t = s
          · subst e; rw [← hf1, pk_us, up_s]; exact ⟨(hSh.2 t hp).1, rfl, (hSh.2 t hp).2.2⟩
          · rw [f1o _ (by omega), up_n _ _ e]; exact hSh.2 t hp
        have hT1 : MTr T sb f1 := by
          obtain ⟨bx, g1, g2⟩ := hT
          exact ⟨bx, RM_lo g1 (fun i q1 q2 => f1o i (by omega)) (fun t ht' hb' => by rw [f1o _ (by omega)]; exact (hSh.2 t ⟨ht', hb'⟩).1), g2⟩
        obtain ⟨S1, k1, k2, k3⟩ := m_looksAhead (h := h) (a := a) (S := S) hSh1 hbk hch s16
        obtain ⟨f4, l1, l2, l3⟩ := m_looksBehind (h := h) (a := a) (S := S1) (vb := fun t => if aff sb ch s t = true then vw sb ch t else 0) (q := aff sb ch s) hSh1 hbk hch (MD_lo hDm (fun i hi => f1o i (by omega))) hDl hDk (fun t ht' => by
          show bok0 (if aff sb ch s t = true then vw sb ch t else 0)
          by_cases e : aff sb ch s t = true
          · rw [if_pos e]; exact vw_ok hbk hch ⟨ht', aff_pr e⟩
          · rw [if_neg e]; exact Or.inl rfl) (fun t ht' => (k3 t ht').2) (fun t ht' => (k3 t ht').1)
        rw [dav_dvs (sb := sb) (ch := ch) (p := aff sb ch s) 16 (fun t _ => rfl), dvs_ext (sb' := sb) (ch' := ch) (q := aff sb ch s) 16 (fun t ht' => by
          cases hq : aff sb ch s t with
          | false => rfl
          | true => rw [decide_eq_true (aff_pr hq)]; rfl) (fun _ _ _ => rfl)] at l3
        refine ⟨S1, f4, ?_, LK_KM k2, MTr_FD hT1 l2, MSh_FD hSh1 l2, l3⟩
        rw [xb155, ml_gu, m_isY hSh hs, xcI_some, if_neg one_ne, m_in_y cz.1 cz.2, xcI_some, if_neg one_ne, ml_gu, m_s2 h a S f s16, xcI_some, (hSh.2 s hs).2.1, ml_f0, Option.bind_some, m_wS2 h a S f s16, Option.bind_some, hf1, ml_gu, k1, xcV_some, ml_gu, l1, xcV_some]
    · refine op_ref hW (r := -2) (Or.inl rfl) (fun h a S hS => ?_) (fun h a S f hM => ?_)
      · rw [xb36, sl_gu, c_hasY hS.2.1 hs, xcI_some, if_neg one_ne]
        by_cases d : z < 0
        · rw [if_pos d]
        · rw [if_neg d, if_pos (Classical.byContradiction fun q => cz ⟨Int32.not_lt.mp d, Int32.not_lt.mp q⟩)]
      · rw [xb155, ml_gu, m_isY hM.2.1 hs, xcI_some, if_neg one_ne, m_in_n cz, xcI_some, if_pos rfl]
  · refine op_ref hW (r := -2) (Or.inl rfl) (fun h a S hS => ?_) (fun h a S f hM => ?_)
    · rw [xb36, sl_gu, hc h a S hS.2.1, xcI_some, if_pos rfl]
    · rw [xb155, ml_gu, hm h a S f hM.2.1, xcI_some, if_pos rfl]
-- a clip is set
def upc (s : Nat) (tc : List Nat) : List Nat → List Nat
  | [] => []
  | x :: r => if x = s then x :: tc else x :: upc s tc r
theorem upc_out {s : Nat} {tc : List Nat} : ∀ {l : List Nat}, s ∉ l → upc s tc l = l
  | [], _ => rfl
  | x :: r, h => by
    unfold upc
    rw [if_neg (fun q => h (by rw [q]; exact List.mem_cons_self)), upc_out fun q => h (List.mem_cons_of_mem _ q)]
def chc (s u : Nat) (ch : Nat → List Nat) : Nat → List Nat := fun w => if w = s then (if u = 16 then [] else u :: ch u) else upc s (if u = 16 then [] else u :: ch u) (ch w)
theorem chi_clip {sb : Nat → Int32} {cl : Nat → Nat} {ch : Nat → List Nat} (hc : CHI sb cl ch) {s u : Nat} (hu : u = 16 ∨ (PR sb u ∧ s ∉ u :: ch u)) : CHI sb (va_up cl s u) (chc s u ch) := fun t hp => by
  by_cases e : t = s
  · subst e
    rw [up_s]
    have e0 : chc t u ch t = if u = 16 then [] else u :: ch u := if_pos rfl
    rcases hu with q | ⟨q1, q2⟩
    · subst q; exact ⟨Nat.le_refl _, Or.inl ⟨rfl, by rw [e0]; rfl⟩⟩
    · have u16 := q1.1
      refine ⟨by omega, Or.inr ⟨q1, ?_⟩⟩
      rw [e0, if_neg (by omega)]
      have hne : u ≠ t := fun z => q2 (by rw [z]; exact List.mem_cons_self)
      have e1 : chc t u ch u = upc t (if u = 16 then [] else u :: ch u) (ch u) := if_neg hne
      rw [e1, upc_out fun z => q2 (List.mem_cons_of_mem _ z)]
  · rw [up_n _ _ e]
    have e0 : ∀ w, w ≠ s → chc s u ch w = upc s (if u = 16 then [] else u :: ch u) (ch w) := fun w hw => if_neg hw
    obtain ⟨z1, z2⟩ := hc t hp
    refine ⟨z1, z2.imp (fun q => ⟨q.1, by rw [e0 t e, q.2]; rfl⟩) (fun q => ⟨q.1, ?_⟩)⟩
    rw [e0 t e, q.2]
    by_cases ec : cl t = s
    · have e2 : chc s u ch (cl t) = if u = 16 then [] else u :: ch u := if_pos ec
      rw [e2]
      show (if cl t = s then cl t :: _ else _) = _
      rw [if_pos ec]
    · rw [e0 _ ec]
      show (if cl t = s then _ else cl t :: upc s _ (ch (cl t))) = _
      rw [if_neg ec]
theorem op_clip {σ : gT} (hW : WF σ) (x y : Int32) : ∃ r σ', OPr σ r σ' ∧ OPc 37 [.int x, .int y] σ r σ' ∧ OPm 156 [.int x, .int y] σ r σ' := by
  obtain ⟨T, sb, ht, cl, ch, D⟩ := σ
  have hW' := hW
  obtain ⟨hI, hL, hU, hbk, hht, hch, hDk, hDl⟩ := hW'
  dsimp only at hI hL hU hbk hht hch hDk hDl
  rcases sh_dec sb ht cl x with ⟨s, hs, rfl⟩ | ⟨hc, hm⟩
  · have s16 := hs.1
    have hcl := (hch s hs).1
    have hap : ∀ t, t < 16 → aff sb ch s t = true → sb t ≠ 0 := fun t _ q => aff_pr q
    have main : ∀ u, (u = 16 ∨ (PR sb u ∧ s ∉ u :: ch u)) →
        (∀ (h : xH) (a : Nat) (S : sS), CSh sb ht cl S → xM 37 [.ref a, .int (nI s), .int (nI u)] (pS h a S) = xE 37 49 [some (.ref a), some (.int (nI s)), some (.int (nI u)), some (.int (nI (mk (aff sb ch s) 16))), none] [] (pS h a S)) →
        (∀ (h : xH) (a : Nat) (S : mS) (f : Nat → Int32), MSh sb ht cl f → xM 156 [.ref a, .int (nI s), .int (nI u)] (pM h a (m0 S f)) = xE 156 43 [some (.ref a), some (.int (nI s)), some (.int (nI u)), none] [] (pM h a (m0 S f))) →
        ∃ r σ', OPr (T, sb, ht, cl, ch, D) r σ' ∧ OPc 37 [.int (nI s), .int (nI u)] (T, sb, ht, cl, ch, D) r σ' ∧ OPm 156 [.int (nI s), .int (nI u)] (T, sb, ht, cl, ch, D) r σ' := by
      intro u hu hcc hmm
      have hch' := chi_clip hch hu
      obtain ⟨d1, d2⟩ := dvs_ok (p := aff sb ch s) hbk hch hap hDl hDk 16 (Nat.le_refl _)
      obtain ⟨d3, d4⟩ := dvs_ok (p := aff sb ch s) hbk hch' hap d1 d2 16 (Nat.le_refl _)
      refine ⟨nI (cl s), (T, sb, ht, va_up cl s u, chc s u ch, dvs sb (chc s u ch) (aff sb ch s) (dvs sb ch (aff sb ch s) D 16) 16), ⟨⟨hI, hL, hU, hbk, hht, hch', d4, d3⟩, Or.inr ⟨cl s, by omega, rfl⟩⟩, fun h a S hS => ?_, fun h a S f hM => ?_⟩
      · obtain ⟨hT, hSh, hDm⟩ := hS
        dsimp only at hT hSh hDm
        obtain ⟨S1, y1, y2, y3⟩ := c_damageViews (h := h) (a := a) hbk hch hap hDl hDk hSh hDm
        have hSh1 := CSh_KD hSh y2
        have hSh2 : CSh sb ht (va_up cl s u) (sB S1 10 (upd (S1.1 10) s (nI u))) := by
          refine ⟨fun t ht' => by rw [sB_n _ _ (by decide)]; exact hSh1.1 t ht', fun t hp => ?_⟩
          rw [sB_s, sB_n _ _ (by decide)]
          by_cases e : t = s
          · subst e; rw [pk_us, up_s]; exact ⟨(hSh1.2 t hp).1, rfl⟩
          · rw [pk_un e, up_n _ _ e]; exact hSh1.2 t hp
        have hDm2 : CDm (dvs sb ch (aff sb ch s) D 16) (sB S1 10 (upd (S1.1 10) s (nI u))) := ⟨y3.1, by rw [sB_n _ _ (by decide)]; exact y3.2⟩
        obtain ⟨S3, z1, z2, z3⟩ := c_damageViews (h := h) (a := a) hbk hch' hap d1 d2 hSh2 hDm2
        have hT2 : CTr T sb (sB S1 10 (upd (S1.1 10) s (nI u))) := by
          obtain ⟨bx, g1, g2⟩ := CTr_KD hT y2
          exact ⟨bx, RC_rows g1 (fun j hj => sB_n _ _ (by omega)) rfl, g2⟩
        refine ⟨S3, ?_, CTr_KD hT2 z2, CSh_KD hSh2 z2, z3⟩
        rw [hcc h a S hSh, xb37_49, sl_s4, Option.bind_some, c_r10 h a S s16, Option.bind_some, (hSh.2 s hs).2, sl_gu, y1, xcV_some, sl_s4, Option.bind_some, c_w10 h a S1 s16, Option.bind_some, sl_gu, z1, xcV_some]
      · obtain ⟨hT, hSh, hDm⟩ := hM
        dsimp only at hT hSh hDm
        obtain ⟨S1, k1, k2, k3⟩ := m_looksAhead (h := h) (a := a) (S := S) hSh hbk hch s16
        generalize hf1 : upd f (4 * s + 3) (nI u) = f1
        have f1o : ∀ i, i ≠ 4 * s + 3 → f1 i = f i := fun i q => by rw [← hf1, pk_un q]
        have hSh1 : MSh sb ht (va_up cl s u) f1 := by
          refine ⟨fun t ht' => by rw [f1o _ (by omega)]; exact hSh.1 t ht', fun t hp => ?_⟩
          rw [f1o (4 * t + 1) (by omega), f1o (4 * t + 2) (by omega)]
          by_cases e : t = s
          · subst e; rw [← hf1, pk_us, up_s]; exact ⟨(hSh.2 t hp).1, (hSh.2 t hp).2.1, rfl⟩
          · rw [f1o _ (by omega), up_n _ _ e]; exact hSh.2 t hp
        have hT1 : MTr T sb f1 := by
          obtain ⟨bx, g1, g2⟩ := hT
          exact ⟨bx, RM_lo g1 (fun i q1 q2 => f1o i (by omega)) (fun t ht' hb' => by rw [f1o _ (by omega)]; exact (hSh.2 t ⟨ht', hb'⟩).1), g2⟩
        obtain ⟨f4, l1, l2, l3⟩ := m_looksBehind (h := h) (a := a) (S := S1) (vb := fun t => if aff sb ch s t = true then vw sb ch t else 0) (q := aff sb ch s) hSh1 hbk hch' (MD_lo hDm (fun i hi => f1o i (by omega))) hDl hDk (fun t ht' => by
          show bok0 (if aff sb ch s t = true then vw sb ch t else 0)
          by_cases e : aff sb ch s t = true
          · rw [if_pos e]; exact vw_ok hbk hch ⟨ht', aff_pr e⟩
          · rw [if_neg e]; exact Or.inl rfl) (fun t ht' => (k3 t ht').2) (fun t ht' => (k3 t ht').1)
        rw [dav_dvs (sb := sb) (ch := ch) (p := aff sb ch s) 16 (fun t _ => rfl), dvs_ext (sb' := sb) (ch' := chc s u ch) (q := aff sb ch s) 16 (fun t ht' => by
          cases hq : aff sb ch s t with
          | false => rfl
          | true => rw [decide_eq_true (aff_pr hq)]; rfl) (fun _ _ _ => rfl)] at l3
        refine ⟨S1, f4, ?_, LK_KM k2, MTr_FD hT1 l2, MSh_FD hSh1 l2, l3⟩
        rw [hmm h a S f hSh, xb156_43, ml_gu, m_s3 h a S f s16, xcI_some, (hSh.2 s hs).2.2, ml_gu, k1, xcV_some, ml_f0, Option.bind_some, m_wS3 h a S1 f s16, Option.bind_some, hf1, ml_gu, l1, xcV_some]
    by_cases c16 : y = 16
    · subst c16
      refine main 16 (Or.inl rfl) (fun h a S hSh => ?_) (fun h a S f hSh => ?_)
      · rw [xb37, sl_gu, c_hasY hSh hs, xcI_some, if_neg one_ne, if_pos (show nI 16 = (16 : Int32) from rfl), xb37_25, sl_gu, c_affected hSh hch hs, xcI_some, if_pos (show nI 16 = (16 : Int32) from rfl)]
      · rw [xb156, ml_gu, m_isY hSh hs, xcI_some, if_neg one_ne, if_pos (show nI 16 = (16 : Int32) from rfl), xb156_25, if_pos (show nI 16 = (16 : Int32) from rfl)]
    · rcases sh_dec sb ht cl y with ⟨u, hu, rfl⟩ | ⟨hc, hm⟩
      · have u16 := hu.1
        have hbit := mk_bit (aff sb ch s) u16
        have e : s ∈ u :: ch u ↔ aff sb ch s u = true := by
          unfold aff
          rw [decide_eq_true_iff]
          exact ⟨fun q => ⟨hu.2, (List.mem_cons.mp q).imp (fun y => y.symm) id⟩, fun q => q.2.elim (fun y => by rw [y]; exact List.mem_cons_self) (fun y => List.mem_cons_of_mem _ y)⟩
        by_cases ca : aff sb ch s u = true
        · refine op_ref hW (r := -3) (Or.inr (Or.inl rfl)) (fun h a S hS => ?_) (fun h a S f hM => ?_)
          · rw [xb37, sl_gu, c_hasY hS.2.1 hs, xcI_some, if_neg one_ne, if_neg c16, sl_gu, c_hasY hS.2.1 hu, xcI_some, if_neg one_ne, xb37_25, sl_gu, c_affected hS.2.1 hch hs, xcI_some, if_neg c16, if_pos (hbit.mpr ca)]
          · rw [xb156, ml_gu, m_isY hM.2.1 hs, xcI_some, if_neg one_ne, if_neg c16, ml_gu, m_isY hM.2.1 hu, xcI_some, if_neg one_ne, xb156_25, if_neg c16, ml_gu, m_dependsOn hM.2.1 hch hu s16, xcI_some, if_pos ca, if_neg one_ne]
        · refine main u (Or.inr ⟨hu, fun q => ca (e.mp q)⟩) (fun h a S hSh => ?_) (fun h a S f hSh => ?_)
          · rw [xb37, sl_gu, c_hasY hSh hs, xcI_some, if_neg one_ne, if_neg c16, sl_gu, c_hasY hSh hu, xcI_some, if_neg one_ne, xb37_25, sl_gu, c_affected hSh hch hs, xcI_some, if_neg c16, if_neg (fun q => ca (hbit.mp q))]
          · rw [xb156, ml_gu, m_isY hSh hs, xcI_some, if_neg one_ne, if_neg c16, ml_gu, m_isY hSh hu, xcI_some, if_neg one_ne, xb156_25, if_neg c16, ml_gu, m_dependsOn hSh hch hu s16, xcI_some, if_neg ca, if_pos rfl]
      · refine op_ref hW (r := -2) (Or.inl rfl) (fun h a S hS => ?_) (fun h a S f hM => ?_)
        · rw [xb37, sl_gu, c_hasY hS.2.1 hs, xcI_some, if_neg one_ne, if_neg c16, sl_gu, hc h a S hS.2.1, xcI_some, if_pos rfl]
        · rw [xb156, ml_gu, m_isY hM.2.1 hs, xcI_some, if_neg one_ne, if_neg c16, ml_gu, hm h a S f hM.2.1, xcI_some, if_pos rfl]
  · refine op_ref hW (r := -2) (Or.inl rfl) (fun h a S hS => ?_) (fun h a S f hM => ?_)
    · rw [xb37, sl_gu, hc h a S hS.2.1, xcI_some, if_pos rfl]
    · rw [xb156, ml_gu, hm h a S f hM.2.1, xcI_some, if_pos rfl]
def OPd (σ : gT) (r : Int32) (σ' : gT) : Prop := ∀ (h : xH) (a : Nat) (S : sS), CSc σ S → ∃ S', xM 16 [.ref (a + 10)] (pS h a S) = some (some (.int r), pS h a S') ∧ CSc σ' S'
theorem op_drawn {σ : gT} (hW : WF σ) : ∃ r σ', OPr σ r σ' ∧ OPd σ r σ' ∧ OPm 158 [] σ r σ' := by
  obtain ⟨T, sb, ht, cl, ch, D⟩ := σ
  obtain ⟨hI, hL, hU, hbk, hht, hch, hDk, hDl⟩ := hW
  dsimp only at hI hL hU hbk hht hch hDk hDl
  refine ⟨nI D.length, (T, sb, ht, cl, ch, []), ⟨⟨hI, hL, hU, hbk, hht, hch, fun b q => absurd q List.not_mem_nil, Nat.zero_le _⟩, Or.inr ⟨D.length, by omega, rfl⟩⟩, fun h a S hS => ?_, fun h a S f hM => ?_⟩
  · obtain ⟨⟨bx, hR, hC⟩, hSh, hDm⟩ := hS
    dsimp only at hR hC hSh hDm
    have hsJ : ∀ v : Int32, xpf (pS h a S) (a + 10) 0 1 (.int v) = some (pS h a (sJ S 2 v)) := fun v => sl_pd1 ..
    refine ⟨sJ S 2 0, ?_, ⟨bx, RC_rows hR (fun _ _ => rfl) (sJ_n _ _ (by decide)), hC⟩, hSh, ⟨sJ_s _ _ _, fun i b q => by cases q⟩⟩
    rw [xb16, sl_d1, Option.bind_some, hDm.1, hsJ, Option.bind_some]
  · obtain ⟨hT, hSh, hDm⟩ := hM
    dsimp only at hT hSh hDm
    have hfd : FD f (upd f 305 0) := fun i hi => pk_un (by omega)
    refine ⟨S, upd f 305 0, ?_, KM_rf S, MTr_FD hT hfd, MSh_FD hSh hfd, ⟨pk_us, fun i b q => by cases q⟩⟩
    rw [xb158, ml_f0, Option.bind_some, m_r305, Option.bind_some, hDm.1, Option.bind_some, m_w305, Option.bind_some]
