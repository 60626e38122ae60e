/-! Boxes of four numbers; a shape's box changes while it is out of the tree; noted shapes come again -/
section SBX
variable {T : tS} {sb sb' bx : Nat → Int32} {s : Nat}
theorem RM_sbx {f : Nat → Int32} (hR : RM T sb bx f) (hq : ∀ t, t ≠ s → sb' t = sb t) (hq0 : sb' s = 0) : RM T sb' bx f := ⟨hR.1, hR.2.1, hR.2.2.1, fun t ht hb => by
  have hts : t ≠ s := fun q => hb (by rw [q]; exact hq0)
  rw [hq t hts] at hb ⊢
  exact hR.2.2.2 t ht hb⟩
theorem BK_sbx {rk : Nat → Option Nat} (hB : BK rk sb bx) (hq : ∀ t, t ≠ s → sb' t = sb t) (hq0 : sb' s = 0) : BK rk sb' bx := ⟨fun t hb => by
  have hts : t ≠ s := fun q => hb (by rw [q]; exact hq0)
  rw [hq t hts] at hb ⊢
  exact hB.1 t hb, hB.2⟩
theorem Con_sbx {I : Nat → Prop} (hI : INVt T I) (hs : ¬ I s) (hq : ∀ t, t ≠ s → sb' t = sb t) {n j : Nat} (hn : T.2.1 n = some j) (hc : Con T.2.1 T.2.2.1 sb bx n) : Con T.2.1 T.2.2.1 sb' bx n := by
  unfold Con at hc ⊢
  rw [hc]
  refine fbx_congr fun e he => ?_
  unfold ebx
  by_cases h0 : T.2.1 n = some 0
  · rw [if_pos h0, if_pos h0]
    exact (hq e (fun q => hs (q ▸ (hI.2.2.2.2.1 n e h0 he).2.1))).symm
  · rw [if_neg h0, if_neg h0]
end SBX
section MLo2
variable {h : xH} {a : Nat} {sb : Nat → Int32}
theorem m_shapeGoes2 {sb' : Nat → Int32} {S : mS} {T : tS} {f bx : Nat → Int32} {I : Nat → Prop} {s : Nat} (hs : ∀ t, I t → sb t ≠ 0) (hI : INVt T I) (hL : LBt T) (hU : UBt T 4) (hR : RM T sb bx f) (hB : BK T.2.1 sb bx) (hC : ∀ n j, T.2.1 n = some j → Con T.2.1 T.2.2.1 sb bx n) (hIs : I s) (hq : ∀ t, t ≠ s → sb' t = sb t) (hq0 : sb' s = 0) :
    ∃ S' f' bx', xM 146 [.ref a, .int (nI s)] (pM h a (m0 S f)) = some (none, pM h a (m0 S' f')) ∧ SC S S' ∧ RM (insAll sb' (remT T s) (remC T s).2) sb' bx' f' ∧ BK (insAll sb' (remT T s) (remC T s).2).2.1 sb' bx' ∧ (∀ n j, (insAll sb' (remT T s) (remC T s).2).2.1 n = some j → Con (insAll sb' (remT T s) (remC T s).2).2.1 (insAll sb' (remT T s) (remC T s).2).2.2.1 sb' bx' n) ∧ FR f f' := by
  obtain ⟨⟨r, hr, hr16, -⟩, -⟩ := id hI
  obtain ⟨sp0, sp1⟩ := hI.2.2.2.2.2.2 s hIs
  have s16 := (hI.2.2.2.2.1 _ s sp0 sp1).1
  have x16 := (hI.2.2.1 _ _ sp0).1
  have hleaf := m_leafOf (h := h) (a := a) (S := S) hI hR hIs s16
  obtain ⟨F1, t1, t2, t3⟩ := m_takesOut (h := h) (a := a) (S := S) hR sp0 (fun c hc => by have := (hI.2.2.2.2.1 _ c sp0 hc).1; omega) sp1
  have R1 : RM (cutT T s) sb bx F1 := t2
  have hIc : INVt (cutT T s) (fun t => I t ∧ t ≠ s) := INV_cut hI hIs
  have hEc : EN (cutT T s) sb := EN_of hIc (fun t ht => hs t ht.1)
  have en_x : (cutT T s).2.2.1 (T.2.2.2.2 s) = (T.2.2.1 (T.2.2.2.2 s)).erase s := up_s _ _ _
  have en_o : ∀ n, n ≠ T.2.2.2.2 s → (cutT T s).2.2.1 n = T.2.2.1 n := fun n q => up_n _ _ q
  obtain ⟨F2, b2, u1, u2, u3, u4, u5⟩ := m_boxesUp (h := h) (a := a) (S := S) hIc hEc (r := r) hr 17 (nI (T.2.2.2.2 s)) R1 hB sp0 (fun n j hn hnx => Con_gen (rk := T.2.1) (bx := bx) (m := n) (by rw [en_o n hnx]; exact hC n j hn) rfl (fun _ _ _ => rfl)) (by omega)
  have hLx : LBx (cutT T s) (T.2.2.2.2 s) := ⟨fun n j hn hne => by
      show 2 ≤ ((cutT T s).2.2.1 n).length ∨ _
      rw [en_o n hne]; exact hL n j hn, fun j hj => by
      have hj' : T.2.1 (T.2.2.2.2 s) = some (j + 1) := hj
      rw [sp0] at hj'
      cases hj'⟩
  have hUc : UBt (cutT T s) 4 := fun n j hn => by
    show ((cutT T s).2.2.1 n).length ≤ 4
    by_cases e : n = T.2.2.2.2 s
    · rw [e, en_x]
      have := er_len sp1
      have := hU _ _ sp0
      omega
    · rw [en_o n e]; exact hU n j hn
  obtain ⟨S3, F3, b3, l2', l3', v1, v2, v3, v4, v5, v6, v7, v8⟩ := m_climb (h := h) (a := a) (sb := sb) (nI s) 17 (S := sI S 16 0) (nt := []) none hIc (fun t q => absurd q List.not_mem_nil) (fun t q => absurd q List.not_mem_nil) List.nodup_nil hLx hUc hr sp0 (by omega) u2 u3 u4 (fun t ht => hs t ht.1) (HL_nil _) (by rw [sI_s]; rfl)
  obtain ⟨c1, c2, c3, c4, c5, r', c6, c7⟩ := remC_ok hI hL hU hIs
  have hnt16 : (remC T s).2.length ≤ 16 := by
    have := nd_len c2 (l2 := List.range 16) (fun t ht => List.mem_range.mpr (by
      have h1 := hI.2.2.2.2.2.2 t (c3 t ht).1
      exact (hI.2.2.2.2.1 _ t h1.1 h1.2).1))
    rw [List.length_range] at this
    exact this
  obtain ⟨F4, w1, w2, w3, w4, w5⟩ := m_low (h := h) (a := a) (nI s) l2' l3' 17 (S := S3) c1 c5 c4 c7 (by omega) v3 v4 v5
  obtain ⟨d1, d2, d3⟩ := remT_ok hI hL hU hIs
  have hrow : ∀ g : Nat → Int32, xri (pM h a (m0 S3 g)) 0 (a + 1) 304 = some (g 304) := fun g => m_r0 h a S3 g (i := 304) (by decide)
  have w2' : RM (remT T s) sb b3 F4 := w2
  obtain ⟨⟨rr, hrr, hrr16, -⟩, -⟩ := id d1
  obtain ⟨q16, q1, q2, q3, q4, q5, q6⟩ := w2'.2.2.1 _ _ hrr
  have h157 : ∃ F5, xE 146 157 [some (.ref a), some (.int (nI s)), some (.int l2'), l3', none] [] (pM h a (m0 S3 F4)) = xE 146 195 [some (.ref a), some (.int (nI s)), some (.int l2'), some (.int (nI (remC T s).2.length)), some (.int 0)] [] (pM h a (m0 S3 F5)) ∧ RM (remT T s) sb b3 F5 ∧ FR F4 F5 := by
    have v7' : S3.2.1 16 = nI (remC T s).2.length := v7
    by_cases c : ((remT T s).2.2.1 (remT T s).1).length = 0
    · have hr0 : rr = 0 := by
        rcases d2 _ _ hrr with q | q
        · omega
        · exact q.2
      rw [if_pos hr0] at q1
      refine ⟨upd F4 (64 + 10 * (remT T s).1 + 1) 1, ?_, RM_same w2' q1, FR_upd _ _ (by omega) (by omega)⟩
      rw [xb146_157, ml_f0, Option.bind_some, hrow, Option.bind_some, w2'.1, ml_gu, m_n2 h a S3 F4 (by omega), xcI_some, q2, if_pos (show nI ((remT T s).2.2.1 (remT T s).1).length = (0 : Int32) by rw [c]; rfl), ml_f0, Option.bind_some, hrow, Option.bind_some, w2'.1, ml_gu, m_t1 h a S3 F4 (by omega), xcV_some, a_i16, Option.bind_some, v7']
    · refine ⟨F4, ?_, w2', FR_rf F4⟩
      rw [xb146_157, ml_f0, Option.bind_some, hrow, Option.bind_some, w2'.1, ml_gu, m_n2 h a S3 F4 (by omega), xcI_some, q2, if_neg (show ¬ nI ((remT T s).2.2.1 (remT T s).1).length = (0 : Int32) from fun q => c (nI_inj (b := 0) (by omega) (by decide) q)), a_i16, Option.bind_some, v7']
  obtain ⟨F5, x1, x2, x3⟩ := h157
  obtain ⟨S6, F6, b6, y1, y2, y3, y4, y5, y6⟩ := m_again (h := h) (a := a) (sb := sb') (nI s) l2' (remC T s).2 (remC T s).2 0 (S := S3) (J := fun t => I t ∧ t ≠ s) rfl (Nat.zero_le _) hnt16 d1 d2 d3 c2 (fun t ht => ⟨c3 t ht, by
      have h1 := hI.2.2.2.2.2.2 t (c3 t ht).1
      exact (hI.2.2.2.2.1 _ t h1.1 h1.2).1⟩) (fun t ht => by rw [hq t ht.2]; exact hs t ht.1) (RM_sbx x2 hq hq0) (BK_sbx w3 hq hq0) (fun n j hn => Con_sbx d1 (fun z => z.1.2 rfl) hq hn (w4 n j hn)) v6
  have hsc : SC S (sI S 16 0) := ⟨fun _ _ _ => rfl, fun k hk => sI_n S (k := 16) 0 (fun q => by subst q; cases hk), rfl⟩
  refine ⟨S6, F6, b6, ?_, SC_tr (SC_tr hsc v2) y2, y3, y4, y5, FR_tr t3 (FR_tr u5 (FR_tr v8 (FR_tr w5 (FR_tr x3 y6))))⟩
  rw [xb146, ml_gu, hleaf, xcI_some, ml_gu, t1, xcV_some, ml_gu, xb131, u1, xcV_some, a_p16, Option.bind_some]
  exact ((v1.trans w1).trans x1).trans y1
end MLo2
section BMK
theorem i_le63 (x : Int32) : x < 64 ↔ x ≤ 63 := by
  rw [Int32.lt_iff_toInt_lt, Int32.le_iff_toInt_le, show (64 : Int32).toInt = 64 by decide, show (63 : Int32).toInt = 63 by decide]
  omega
theorem i_le0 {x y : Int32} : ¬ x < y ↔ y ≤ x := Int32.not_lt
/-- the box of four numbers: the same on both sides, or none -/
theorem bx_make (x y w v : Int32) : (∃ b, bok b ∧ (∀ hp, xM 0 [.int x, .int y, .int w, .int v] hp = some (some (.int b), hp)) ∧ (∀ hp, xM 109 [.int x, .int y, .int w, .int v] hp = some (some (.int 1), hp)) ∧ ∀ hp, xM 110 [.int x, .int y, .int (x + w), .int (y + v)] hp = some (some (.int b), hp)) ∨ ((∀ hp, xM 0 [.int x, .int y, .int w, .int v] hp = some (some (.int 0), hp)) ∧ ∀ hp, xM 109 [.int x, .int y, .int w, .int v] hp = some (some (.int 0), hp)) := by
  by_cases c1 : (0 : Int32) ≤ x ∧ x ≤ 63
  · by_cases c2 : (0 : Int32) ≤ y ∧ y ≤ 63
    · by_cases c3 : (1 : Int32) ≤ w ∧ w ≤ 64 - x
      · by_cases c4 : (1 : Int32) ≤ v ∧ v ≤ 64 - y
        · refine Or.inl ?_
          obtain ⟨l, hl, rfl⟩ := nI_of2 (n := 63) (M := 63) (by decide) (Int32.not_lt.mpr c1.1) c1.2
          obtain ⟨t, ht, rfl⟩ := nI_of2 (n := 63) (M := 63) (by decide) (Int32.not_lt.mpr c2.1) c2.2
          have e1 : (64 : Int32) - nI l = nI (64 - l) := by rw [show (64 : Int32) = nI 64 from rfl, pk_sub (by omega)]
          have e2 : (64 : Int32) - nI t = nI (64 - t) := by rw [show (64 : Int32) = nI 64 from rfl, pk_sub (by omega)]
          have w0 : ¬ w < 0 := Int32.not_lt.mpr (Int32.le_trans (by decide) c3.1)
          have v0 : ¬ v < 0 := Int32.not_lt.mpr (Int32.le_trans (by decide) c4.1)
          rw [e1] at c3
          rw [e2] at c4
          obtain ⟨w', hw, rfl⟩ := nI_of2 (n := 64 - l) (M := nI (64 - l)) (by rw [nI_toInt (by omega)]) w0 c3.2
          obtain ⟨v', hv, rfl⟩ := nI_of2 (n := 64 - t) (M := nI (64 - t)) (by rw [nI_toInt (by omega)]) v0 c4.2
          have hw1 : 1 ≤ w' := (nI_leI (a := 1) (by decide) (by omega)).mp c3.1
          have hv1 : 1 ≤ v' := (nI_leI (a := 1) (by decide) (by omega)).mp c4.1
          have hpk : bpk (nI l) (nI t) (nI l + nI w') (nI t + nI v') = nI (bnum l t (l + w') (t + v')) := by
            rw [nI_add, nI_add, bpk_nI (by omega) (by omega) (by omega) (by omega)]
          refine ⟨nI (bnum l t (l + w') (t + v')), ⟨l, t, l + w', t + v', by omega, by omega, by omega, by omega, rfl⟩, fun hp => ?_, fun hp => ?_, fun hp => ?_⟩
          · rw [xb0, if_neg (Int32.not_lt.mpr c1.1), if_pos ((i_le63 _).mpr c1.2), if_neg (Int32.not_lt.mpr c2.1), if_pos ((i_le63 _).mpr c2.2), if_neg (Int32.not_lt.mpr c3.1), e1, if_neg (Int32.not_lt.mpr c3.2), if_neg (Int32.not_lt.mpr c4.1), e2, if_neg (Int32.not_lt.mpr c4.2), c_pack, xcI_some, hpk]
          · rw [xb109, m_in_y c1.1 c1.2, xcI_some, if_neg (show ¬ (1 : Int32) = 0 by decide), m_in_y c2.1 c2.2, xcI_some, if_neg (show ¬ (1 : Int32) = 0 by decide), e1, m_in_y c3.1 c3.2, xcI_some, if_neg (show ¬ (1 : Int32) = 0 by decide), e2, m_in_y c4.1 c4.2, xcI_some, if_neg (show ¬ (1 : Int32) = 0 by decide)]
          · rw [m_box, hpk]
        · refine Or.inr ⟨fun hp => ?_, fun hp => ?_⟩
          · rw [xb0, if_neg (Int32.not_lt.mpr c1.1), if_pos ((i_le63 _).mpr c1.2), if_neg (Int32.not_lt.mpr c2.1), if_pos ((i_le63 _).mpr c2.2), if_neg (Int32.not_lt.mpr c3.1), if_neg (Int32.not_lt.mpr c3.2)]
            by_cases d : v < 1
            · rw [if_pos d]
            · rw [if_neg d, if_pos (Classical.byContradiction fun q => c4 ⟨Int32.not_lt.mp d, Int32.not_lt.mp q⟩)]
          · rw [xb109, m_in_y c1.1 c1.2, xcI_some, if_neg (show ¬ (1 : Int32) = 0 by decide), m_in_y c2.1 c2.2, xcI_some, if_neg (show ¬ (1 : Int32) = 0 by decide), m_in_y c3.1 c3.2, xcI_some, if_neg (show ¬ (1 : Int32) = 0 by decide), m_in_n c4, xcI_some, if_pos rfl]
      · refine Or.inr ⟨fun hp => ?_, fun hp => ?_⟩
        · rw [xb0, if_neg (Int32.not_lt.mpr c1.1), if_pos ((i_le63 _).mpr c1.2), if_neg (Int32.not_lt.mpr c2.1), if_pos ((i_le63 _).mpr c2.2)]
          by_cases d : w < 1
          · rw [if_pos d]
          · rw [if_neg d, if_pos (Classical.byContradiction fun q => c3 ⟨Int32.not_lt.mp d, Int32.not_lt.mp q⟩)]
        · rw [xb109, m_in_y c1.1 c1.2, xcI_some, if_neg (show ¬ (1 : Int32) = 0 by decide), m_in_y c2.1 c2.2, xcI_some, if_neg (show ¬ (1 : Int32) = 0 by decide), m_in_n c3, xcI_some, if_pos rfl]
    · refine Or.inr ⟨fun hp => ?_, fun hp => ?_⟩
      · rw [xb0, if_neg (Int32.not_lt.mpr c1.1), if_pos ((i_le63 _).mpr c1.2)]
        by_cases d : y < 0
        · rw [if_pos d]
        · rw [if_neg d, if_neg (fun q => c2 ⟨Int32.not_lt.mp d, (i_le63 _).mp q⟩)]
      · rw [xb109, m_in_y c1.1 c1.2, xcI_some, if_neg (show ¬ (1 : Int32) = 0 by decide), m_in_n c2, xcI_some, if_pos rfl]
  · refine Or.inr ⟨fun hp => ?_, fun hp => ?_⟩
    · rw [xb0]
      by_cases d : x < 0
      · rw [if_pos d]
      · rw [if_neg d, if_neg (fun q => c1 ⟨Int32.not_lt.mp d, (i_le63 _).mp q⟩)]
    · rw [xb109, m_in_n c1, xcI_some, if_pos rfl]
end BMK
section CAG
variable {h : xH} {a : Nat} {sb : Nat → Int32}
/-- a shape's box is written while it is out of the tree -/
theorem RC_sb {T : tS} {bx : Nat → Int32} {S : sS} (hR : RC T sb bx S) {s : Nat} (hs : s < 16) (b : Int32) : RC T (va_up sb s b) bx (sB S 0 (upd (S.1 0) s b)) := by
  obtain ⟨r1, r2, r3, r4⟩ := hR
  refine ⟨r1, fun m hm => by rw [sB_n _ _ (by decide)]; exact r2 m hm, fun m j hm => ?_, fun t ht => ?_⟩
  · obtain ⟨q0, q00, q2, q3, q4, q5, q6⟩ := r3 m j hm
    rw [sB_s, sB_n _ _ (show (1 : Nat) ≠ 0 by decide), sB_n _ _ (show (3 : Nat) ≠ 0 by decide), sB_n _ _ (show (4 : Nat) ≠ 0 by decide)]
    exact ⟨q0, q00, q2, q3, by rw [pk_un (by omega)]; exact q4, q5, q6⟩
  · rw [sB_s]
    by_cases e : t = s
    · subst e; rw [pk_us, up_s]
    · rw [pk_un e, up_n _ _ e]; exact r4 t ht
theorem RM_sb {T : tS} {bx f : Nat → Int32} (hR : RM T sb bx f) {s : Nat} (hs : s < 16) (b : Int32) : RM T (va_up sb s b) bx (upd f (4 * s + 1) b) := by
  obtain ⟨r1, r2, r3, r4⟩ := hR
  refine ⟨by rw [pk_un (by omega)]; exact r1, fun m hm => by rw [pk_un (by omega)]; exact r2 m hm, fun m j hm => ?_, fun t ht hb => ?_⟩
  · obtain ⟨q0, q1, q2, q3, q4, q5, q6⟩ := r3 m j hm
    refine ⟨q0, by rw [pk_un (by omega)]; exact q1, by rw [pk_un (by omega)]; exact q2, by rw [pk_un (by omega)]; exact q3, by rw [pk_un (by omega)]; exact q4, q5, fun i e he => ?_⟩
    rw [pk_un (by omega)]; exact q6 i e he
  · by_cases e : t = s
    · subst e; rw [pk_us, up_s]
    · rw [up_n _ _ e] at hb ⊢
      rw [pk_un (by omega)]; exact r4 t ht hb
theorem Con_sb {T : tS} {bx : Nat → Int32} {I : Nat → Prop} (hI : INVt T I) {s : Nat} (hs : ¬ I s) (b : Int32) {n j : Nat} (hn : T.2.1 n = some j) (hc : Con T.2.1 T.2.2.1 sb bx n) : Con T.2.1 T.2.2.1 (va_up sb s b) bx n := Con_sbx hI hs (fun t ht => up_n _ _ ht) hn hc
/-- the noted shapes are put again -/
theorem c_again (G : Int32 → xH → Option xR) (hG : ∀ (i : Nat) (S : sS), i < (S.2 1).toNatClampNeg → (S.2 1).toNatClampNeg ≤ 16 → ¬ S.2 1 < 0 → G (nI i) (pS h a S) = xcV (xM 53 [.ref (a + 1), .int (S.1 7 i)] (pS h a S)) fun h7 => G (nI (i + 1)) h7) (nt : List Nat) : ∀ (l : List Nat) (i : Nat) {S : sS} {T : tS} {J : Nat → Prop}, nt.drop i = l → i ≤ nt.length → nt.length ≤ 16 → INVt T (fun t => J t ∧ t ∉ l) → LBt T → UBt T 4 → l.Nodup → (∀ t, t ∈ l → J t ∧ t < 16) → (∀ t, J t → sb t ≠ 0) → CTr T sb S → HL (S.1 7) nt → S.2 1 = nI nt.length →
    ∃ S', G (nI i) (pS h a S) = G (nI nt.length) (pS h a S') ∧ CTr (insAll sb T l) sb S' ∧ KP ALLQ S S'
  | [], i, S, T, J, hdr, hil, h16, hI, hL, hU, hnd, hl, hs, hR, h7, h1 => by
    have : nt.length ≤ i := List.drop_eq_nil_iff.mp hdr
    have hi : i = nt.length := by omega
    subst hi
    exact ⟨S, rfl, hR, KP_rf _ S⟩
  | s :: l, i, S, T, J, hdr, hil, h16, hI, hL, hU, hnd, hl, hs, hR, h7, h1 => by
    have hlt : i < nt.length := Classical.byContradiction fun q => by
      rw [List.drop_eq_nil_of_le (by omega)] at hdr
      cases hdr
    rw [List.drop_eq_getElem_cons hlt] at hdr
    injection hdr with hd1 hd2
    have hn' := List.nodup_cons.mp hnd
    obtain ⟨bx, hR, hC⟩ := hR
    obtain ⟨a1, a2, a3⟩ := insT_ok sb hI hL hU (hl s List.mem_cons_self).2 (fun q => q.2 List.mem_cons_self)
    obtain ⟨S1, b1, c1, c2, c3, c4⟩ := c_put (h := h) (a := a) (s := s) (fun t ht => ht.elim (fun q => hs t q.1) (fun q => by rw [q]; exact hs s (hl s List.mem_cons_self).1)) hI hL hU hR hC (hl s List.mem_cons_self).2 (fun q => q.2 List.mem_cons_self)
    obtain ⟨S2, e1, e2, e3⟩ := c_again G hG nt l (i + 1) (S := S1) (J := J) hd2 (by omega) h16 (INVt_congr a1 fun t => by
      constructor
      · rintro (q | rfl)
        · exact ⟨q.1, fun z => q.2 (List.mem_cons_of_mem _ z)⟩
        · exact ⟨(hl t List.mem_cons_self).1, hn'.1⟩
      · intro q
        by_cases e : t = s
        · exact Or.inr e
        · exact Or.inl ⟨q.1, fun z => (List.mem_cons.mp z).elim e q.2⟩) a2 a3 hn'.2 (fun t ht => hl t (List.mem_cons_of_mem _ ht)) hs ⟨b1, c2, c3⟩ (by rw [c4.1 7 (by decide)]; exact h7) (by rw [c4.2.2.1]; exact h1)
    refine ⟨S2, ?_, e2, KP_tr c4 e3⟩
    have hcl : (S.2 1).toNatClampNeg = nt.length := by rw [h1, nI_clamp (by omega)]
    rw [hG i S (by omega) (by omega) (by rw [h1]; exact nI_pos (by omega)), h7 i s (by rw [List.getElem?_eq_getElem hlt, hd1]), c1, xcV_some]
    exact e1
theorem c_summary0 {T : tS} {bx : Nat → Int32} {S : sS} (hR : RC T sb bx S) : xM 57 [.ref (a + 1), .int 0] (pS h a S) = some (some (.int (nI (cnt (fun n => (T.2.1 n).isSome) 16))), pS h a S) := by
  have loop : ∀ (d n : Nat) (l3 l4 : Int32), n + d = 16 → xE 57 11 [some (.ref (a + 1)), some (.int 0), some (.int (nI (cnt (fun n => (T.2.1 n).isSome) n))), some (.int l3), some (.int l4), some (.int (nI (16 + n)))] [] (pS h a S) = some (some (.int (nI (cnt (fun n => (T.2.1 n).isSome) 16))), pS h a S) := by
    intro d
    induction d with
    | zero =>
      intro n l3 l4 hn
      have hn : n = 16 := by omega
      subst hn
      rw [xb57_11, if_neg (show ¬ nI (16 + 16) < (32 : Int32) by decide), if_pos rfl]
    | succ d ih =>
      intro n l3 l4 hn
      have n16 : n < 16 := by omega
      have hrk : xri (pS h a S) 0 (a + 4) (nI (16 + n)) = some (rkC (T.2.1 n)) := by rw [c_r2 h a S (by omega), hR.2.1 n n16]
      have h32 : ∀ c : Int32, c = nI (cnt (fun n => (T.2.1 n).isSome) (n + 1)) → xE 57 32 [some (.ref (a + 1)), some (.int 0), some (.int c), some (.int l3), some (.int l4), some (.int (nI (16 + n)))] [] (pS h a S) = some (some (.int (nI (cnt (fun n => (T.2.1 n).isSome) 16))), pS h a S) := fun c hc => by
        subst hc
        rw [xb57_32, sl_t3, Option.bind_some, hrk, Option.bind_some, nI_1]
        by_cases q : rkC (T.2.1 n) = 0
        · rw [if_pos q, sl_t1, Option.bind_some, c_r0 h a S (by omega), Option.bind_some, c_area, xcI_some]
          exact ih (n + 1) _ _ (by omega)
        · rw [if_neg q]
          exact ih (n + 1) _ _ (by omega)
      rw [xb57_11, if_pos (show nI (16 + n) < (32 : Int32) from nI_lt (b := 32) (by omega) (by decide)), sl_t3, Option.bind_some, hrk, Option.bind_some]
      cases hk : T.2.1 n with
      | none =>
        rw [if_pos (show rkC none = -1 from rfl)]
        refine h32 _ ?_
        show _ = nI (cnt (fun n => (T.2.1 n).isSome) n + if (T.2.1 n).isSome = true then 1 else 0)
        rw [hk]; rfl
      | some k =>
        rw [if_neg (rkC_m1 (hR.2.2.1 n k hk).2.1), nI_1]
        refine h32 _ ?_
        show _ = nI (cnt (fun n => (T.2.1 n).isSome) n + if (T.2.1 n).isSome = true then 1 else 0)
        rw [hk]; rfl
  rw [xb57]
  exact loop 16 0 0 0 (by decide)
end CAG
