/-! Steps of both objects: changes, counts, bytes, back, the checksum -/
section CHG
variable {A : aT}
theorem s_shape (hA : AW A) (a1 a2 a3 a4 a5 : Int32) : QR 74 159 [.int a1, .int a2, .int a3, .int a4, .int a5] A := by
  obtain ⟨r, σ', hO, hC, hM⟩ := op_add hA.1 a1 a2 a3 a4 a5
  exact ⟨r, stl A r σ', AW_stl hA hO, fun X M h hh hc => by rw [xb74]; exact c_call hA hO hC hh hc, fun h M hR => by rw [xb159]; exact m_call hA hO hM h hR⟩
theorem s_moves (hA : AW A) (a1 a2 a3 a4 a5 : Int32) : QR 75 160 [.int a1, .int a2, .int a3, .int a4, .int a5] A := by
  obtain ⟨r, σ', hO, hC, hM⟩ := op_move hA.1 a1 a2 a3 a4 a5
  exact ⟨r, stl A r σ', AW_stl hA hO, fun X M h hh hc => by rw [xb75]; exact c_call hA hO hC hh hc, fun h M hR => by rw [xb160]; exact m_call hA hO hM h hR⟩
theorem s_lifts (hA : AW A) (a1 a2 : Int32) : QR 76 161 [.int a1, .int a2] A := by
  obtain ⟨r, σ', hO, hC, hM⟩ := op_lift hA.1 a1 a2
  exact ⟨r, stl A r σ', AW_stl hA hO, fun X M h hh hc => by rw [xb76]; exact c_call hA hO hC hh hc, fun h M hR => by rw [xb161]; exact m_call hA hO hM h hR⟩
theorem s_clips (hA : AW A) (a1 a2 : Int32) : QR 77 162 [.int a1, .int a2] A := by
  obtain ⟨r, σ', hO, hC, hM⟩ := op_clip hA.1 a1 a2
  exact ⟨r, stl A r σ', AW_stl hA hO, fun X M h hh hc => by rw [xb77]; exact c_call hA hO hC hh hc, fun h M hR => by rw [xb162]; exact m_call hA hO hM h hR⟩
theorem s_removes (hA : AW A) (a1 : Int32) : QR 78 163 [.int a1] A := by
  obtain ⟨r, σ', hO, hC, hM⟩ := op_away hA.1 a1
  exact ⟨r, stl A r σ', AW_stl hA hO, fun X M h hh hc => by rw [xb78]; exact c_call hA hO hC hh hc, fun h M hR => by rw [xb163]; exact m_call hA hO hM h hR⟩
theorem c_calld (hA : AW A) {σ' : gT} {r : Int32} (hO : OPr A.1 r σ') (hC : OPd A.1 r σ') {X : hD} {M : mS} {h : xH} (hh : HS X M h) (hc : CL X A) : ∃ X' h', xM 79 [.ref 0] h = some (some (.int r), h') ∧ HS X' M h' ∧ CL X' (stl A r σ') := by
  obtain ⟨hp, hcc, hn, hk⟩ := hc
  have p5 := hp.1 5 (by decide)
  have p6 := hp.1 6 (by decide)
  have hne : X.1 5 ≠ X.1 6 := fun q => by have := hp.2 5 6 (by decide) (by decide) q; omega
  obtain ⟨S', c1, c2⟩ := c_copyFrom (h := h) p5 p6 hne (hh.2.2.2.2.2.1 _ p5) (X.2.2.1 (X.1 6))
  rw [X_S hh p6] at c1
  have H1 := HS_scene hh p6 S'
  have hn1 : va_up X.2.2.1 (X.1 6) S' (X.1 5) = X.2.2.1 (X.1 5) := up_n _ _ hne
  obtain ⟨S2, d1, d2⟩ := hC (pS h (X.1 6) S') (X.1 5) (X.2.2.1 (X.1 5)) hn
  have hid := X_S H1 p5
  dsimp only at hid
  rw [hn1] at hid
  have g1 := sl_s1 (pS h (X.1 6) S') (X.1 5) (X.2.2.1 (X.1 5))
  have g2 := sl_gd (pS h (X.1 6) S') (X.1 5) (X.2.2.1 (X.1 5))
  rw [hid] at d1 g1 g2
  have H2 := HS_scene H1 p5 S2
  dsimp only at H2
  obtain ⟨X3, h3, e1, e2, e3⟩ := settle_c (X := (X.1, X.2.1, va_up (va_up X.2.2.1 (X.1 6) S') (X.1 5) S2, X.2.2.2)) hA hO H2 hp hcc (by dsimp only; rw [up_s]; exact d2) (by dsimp only; rw [up_n _ _ (fun q => hne q.symm), up_s]; exact c2 A.1 hA.1 hn) (fun k hk' => by
    have k5 : k < 5 := by have := hA.2.1; omega
    have n5 : X.1 k ≠ X.1 5 := fun q => by have := hp.2 k 5 (by omega) (by decide) q; omega
    have n6 : X.1 k ≠ X.1 6 := fun q => by have := hp.2 k 6 (by omega) (by decide) q; omega
    dsimp only
    rw [up_n _ _ n5, up_n _ _ n6]
    exact hk k hk')
  refine ⟨X3, h3, ?_, e2, e3⟩
  have z0 := X_0 H1
  dsimp only at z0
  rw [xb79, X_1 hh, Option.bind_some, X_0 hh, Option.bind_some, X_sg hh p6, c1, xcV_some, z0, Option.bind_some, g1, Option.bind_some, g2, d1, xcI_some, X_g H2, e1, xcI_some]
theorem s_drawn (hA : AW A) : QR 79 164 [] A := by
  obtain ⟨r, σ', hO, hC, hM⟩ := op_drawn hA.1
  exact ⟨r, stl A r σ', AW_stl hA hO, fun X M h hh hc => c_calld hA hO hC hh hc, fun h M hR => by rw [xb164]; exact m_call hA hO hM h hR⟩
/-- the counts -/
def vtd (A : aT) (k : Nat) : Int32 := if k = 3 then nI A.2.2.2.1 else if k = 4 then nI A.2.1 else if k = 5 then nI (cnt (fun t => decide (A.1.2.1 t ≠ 0)) 16) else if k = 6 then nI A.1.2.2.2.2.2.length else A.2.2.2.2.2 k
theorem told_A {S : mS} (hR : RFc S A) {k : Nat} (hk : k < 7) : told S A.1.2.1 A.1.2.2.2.2.2 k = vtd A k := by
  obtain ⟨g1, g2, g3, -⟩ := hR
  unfold told vtd
  rw [g1, g2]
  by_cases c3 : k = 3
  · rw [if_pos c3, if_pos c3]
  · rw [if_neg c3, if_neg c3]
    by_cases c4 : k = 4
    · rw [if_pos c4, if_pos c4]
    · rw [if_neg c4, if_neg c4]
      by_cases c5 : k = 5
      · rw [if_pos c5, if_pos c5]
      · rw [if_neg c5, if_neg c5]
        by_cases c6 : k = 6
        · rw [if_pos c6, if_pos c6]
        · rw [if_neg c6, if_neg c6]
          exact g3 k (by omega)
theorem c_countOf {X : hD} {M : mS} {h : xH} (hh : HS X M h) (hc : CL X A) {k : Nat} (hk : k < 7) : xM 96 [.ref 0, .int (nI k)] h = some (some (.int (vtd A k)), h) := by
  obtain ⟨hp, ⟨c1, c2, c3, c4, c5, -⟩, hn, -⟩ := hc
  have p5 := hp.1 5 (by decide)
  have hid := X_S hh p5
  rw [xb96]
  rcases (show k = 0 ∨ k = 1 ∨ k = 2 ∨ k = 3 ∨ k = 4 ∨ k = 5 ∨ k = 6 by omega) with rfl | rfl | rfl | rfl | rfl | rfl | rfl
  · rw [if_pos (show nI 0 = (0 : Int32) from rfl), X_7 hh, Option.bind_some, c3]; rfl
  · rw [if_neg (show ¬ nI 1 = (0 : Int32) by decide), if_pos (show nI 1 = (1 : Int32) from rfl), X_8 hh, Option.bind_some, c4]; rfl
  · rw [if_neg (show ¬ nI 2 = (0 : Int32) by decide), if_neg (show ¬ nI 2 = (1 : Int32) by decide), if_pos (show nI 2 = (2 : Int32) from rfl), X_9 hh, Option.bind_some, c5]; rfl
  · rw [if_neg (show ¬ nI 3 = (0 : Int32) by decide), if_neg (show ¬ nI 3 = (1 : Int32) by decide), if_neg (show ¬ nI 3 = (2 : Int32) by decide), if_pos (show nI 3 = (3 : Int32) from rfl), X_5 hh, Option.bind_some, c2]; rfl
  · rw [if_neg (show ¬ nI 4 = (0 : Int32) by decide), if_neg (show ¬ nI 4 = (1 : Int32) by decide), if_neg (show ¬ nI 4 = (2 : Int32) by decide), if_neg (show ¬ nI 4 = (3 : Int32) by decide), if_pos (show nI 4 = (4 : Int32) from rfl), X_3 hh, Option.bind_some, c1]; rfl
  · have e := c_shapeCount (h := h) (a := X.1 5) hn.2.1
    rw [hid] at e
    rw [if_neg (show ¬ nI 5 = (0 : Int32) by decide), if_neg (show ¬ nI 5 = (1 : Int32) by decide), if_neg (show ¬ nI 5 = (2 : Int32) by decide), if_neg (show ¬ nI 5 = (3 : Int32) by decide), if_neg (show ¬ nI 5 = (4 : Int32) by decide), if_pos (show nI 5 = (5 : Int32) from rfl), X_0 hh, Option.bind_some, X_sg hh p5, e, xcI_some]; rfl
  · have e1 := sl_s1 h (X.1 5) (X.2.2.1 (X.1 5))
    have e2 := sl_d1 h (X.1 5) (X.2.2.1 (X.1 5))
    rw [hid] at e1 e2
    rw [if_neg (show ¬ nI 6 = (0 : Int32) by decide), if_neg (show ¬ nI 6 = (1 : Int32) by decide), if_neg (show ¬ nI 6 = (2 : Int32) by decide), if_neg (show ¬ nI 6 = (3 : Int32) by decide), if_neg (show ¬ nI 6 = (4 : Int32) by decide), if_neg (show ¬ nI 6 = (5 : Int32) by decide), X_0 hh, Option.bind_some, e1, Option.bind_some, e2, Option.bind_some, hn.2.2.1]; rfl
theorem s_told (hA : AW A) (w : Int32) : QR 93 194 [.int w] A := by
  rcases in_dec w (n := 7) (by decide) (by decide) (u := 7) (v := 6) rfl rfl with ⟨k, hk, rfl, i1, i2⟩ | ⟨i1, i2⟩
  · refine ⟨vtd A k, A, hA, fun X M h hh hC => ⟨X, h, ?_, hh, hC⟩, fun h M hR => ⟨M, ?_, hR⟩⟩
    · rw [xb93, i1, xcI_some, if_neg one_ne, X_g hh, c_countOf hh hC hk, xcI_some]
    · have e := m_toldOf (h := h) (a := 104) (S := M) hR.2.2.1 hR.2.2.2 hk
      rw [m0_id] at e
      rw [xb194, i2, xcI_some, if_neg one_ne, ml_gu, e, xcI_some, told_A hR.1 hk]
  · refine q_ref hA (fun h a S hg hS => ?_) (fun h S f hM => ?_)
    · rw [xb93, i1, xcI_some, if_pos rfl]
    · rw [xb194, i2, xcI_some, if_pos rfl]
theorem X_wt {X : hD} {M : mS} {h : xH} (hh : HS X M h) {i : Nat} (hi : i < 120) (v : Int32) : ∃ h', xwi h 0 30 (nI i) v = some h' ∧ HS (X.1, X.2.1, X.2.2.1, X.2.2.2.1, upd X.2.2.2.2 i v) M h' := by
  refine ⟨pL h 30 (gTx (upd X.2.2.2.2 i v)), ?_, HS_txt hh _⟩
  have := xwi_pL (h := h) (a := 30) (l := gTx X.2.2.2.2) (t := 0) (k := 0) (n := 120) (f := X.2.2.2.2) (i := nI i) (v := v) (l' := gTx (upd X.2.2.2.2 i v)) rfl (by rw [nI_clamp (by omega)]; rfl)
  rw [pL_id hh.2.2.2.1, xin_nI hi (by decide), cond_true] at this
  exact this
theorem s_type (hA : AW A) (v : Int32) : QR 89 182 [.int v] A := by
  obtain ⟨hA1, hA2, hA3, hA4, hA5⟩ := id hA
  rcases in_dec v (n := 128) (by decide) (by decide) (u := 128) (v := 127) rfl rfl with ⟨w, hw, rfl, i1, i2⟩ | ⟨i1, i2⟩
  · by_cases c : A.2.2.2.1 = 120
    · refine q_refk hA (r := -4) (Or.inr (Or.inr rfl)) (fun X M h hh hC => ?_) (fun h S f hR hM => ?_)
      · rw [xb89, i1, xcI_some, if_neg one_ne, X_5 hh, Option.bind_some, hC.2.1.2.1, c, if_neg (show ¬ nI 120 < (120 : Int32) by decide)]
      · rw [xb182, i2, xcI_some, if_neg one_ne, a_i6, Option.bind_some, hR.2.1, c, if_pos (show nI 120 = (120 : Int32) from rfl)]
    · have hn : A.2.2.2.1 < 120 := by omega
      refine ⟨nI (A.2.2.2.1 + 1), (A.1, A.2.1, A.2.2.1, A.2.2.2.1 + 1, upd A.2.2.2.2.1 A.2.2.2.1 (nI w), A.2.2.2.2.2), ⟨hA1, hA2, hA3, hn, fun i hi => ?_⟩, fun X M h hh hC => ?_, fun h M hR => ?_⟩
      · have hi2 : i < A.2.2.2.1 + 1 := hi
        show 0 ≤ upd A.2.2.2.2.1 A.2.2.2.1 (nI w) i ∧ upd A.2.2.2.2.1 A.2.2.2.1 (nI w) i ≤ 127
        by_cases e : i = A.2.2.2.1
        · rw [e, pk_us]
          refine ⟨Int32.not_lt.mp (nI_pos (by omega)), ?_⟩
          rw [Int32.le_iff_toInt_le, nI_toInt (by omega), show (127 : Int32).toInt = 127 by decide]
          omega
        · rw [pk_un e]; exact hA5 i (by omega)
      · obtain ⟨hp, ⟨c1, c2, c3, c4, c5, c6⟩, hn', hk⟩ := hC
        obtain ⟨h1, e1, H1⟩ := X_wt hh hn (nI w)
        obtain ⟨h2, e2, H2⟩ := X_p H1 (k := 5) (Or.inr (Or.inl rfl)) (nI (A.2.2.2.1 + 1))
        dsimp only at H2
        have z5 : ∀ k, k ≠ 5 → va_up X.2.1 5 (nI (A.2.2.2.1 + 1)) k = X.2.1 k := fun k hk => up_n _ _ hk
        refine ⟨_, h2, ?_, H2, hp, ⟨?_, ?_, ?_, ?_, ?_, fun i hi => ?_⟩, hn', hk⟩
        · have y1 := X_5 H1
          have y2 := X_5 H2
          dsimp only at y1 y2
          rw [up_s] at y2
          rw [xb89, i1, xcI_some, if_neg one_ne, X_5 hh, Option.bind_some, c2, if_pos (show nI A.2.2.2.1 < (120 : Int32) from nI_lt (b := 120) hn (by decide)), X_4 hh, Option.bind_some, Option.bind_some, e1, Option.bind_some, y1, Option.bind_some, c2, nI_1, e2, Option.bind_some, y2, Option.bind_some]
        · exact (z5 3 (by decide)).trans c1
        · exact (show va_up X.2.1 5 (nI (A.2.2.2.1 + 1)) 5 = nI (A.2.2.2.1 + 1) from up_s _ _ _)
        · exact (z5 7 (by decide)).trans c3
        · exact (z5 8 (by decide)).trans c4
        · exact (z5 9 (by decide)).trans c5
        · have hi2 : i < A.2.2.2.1 + 1 := hi
          show upd X.2.2.2.2 A.2.2.2.1 (nI w) i = upd A.2.2.2.2.1 A.2.2.2.1 (nI w) i
          by_cases e : i = A.2.2.2.1
          · rw [e, pk_us, pk_us]
          · rw [pk_un e, pk_un e]; exact c6 i (by omega)
      · obtain ⟨g1, g2, g3, g4, g5⟩ := hR.1
        refine ⟨m0 (sI (sA M 5 (upd (M.1 5) A.2.2.2.1 (nI w))) 6 (nI (A.2.2.2.1 + 1))) (M.1 0), ?_, RFc_0m ⟨?_, ?_, fun k hk => ?_, fun i hi => ?_, fun k hk => ?_⟩ _, by rw [m0_0]; exact hR.2⟩
        · have q : xM 182 [.ref 104, .int (nI w)] (pM h 104 (m0 M (M.1 0))) = some (some (.int (nI (A.2.2.2.1 + 1))), pM h 104 (m0 (sI (sA M 5 (upd (M.1 5) A.2.2.2.1 (nI w))) 6 (nI (A.2.2.2.1 + 1))) (M.1 0))) := by
            rw [xb182, i2, xcI_some, if_neg one_ne, a_i6, Option.bind_some, g2, if_neg (show ¬ nI A.2.2.2.1 = (120 : Int32) from nI_nel (n := 120) (by omega) (by decide) c), ml_f5, Option.bind_some, Option.bind_some, a_w5 h 104 M _ hn, Option.bind_some, a_i6, Option.bind_some, sA_2, g2, nI_1, a_p6, Option.bind_some, a_i6, Option.bind_some, sI_s]
          rw [m0_id] at q
          exact q
        · exact (sI_n _ _ (show (3 : Nat) ≠ 6 by decide)).trans g1
        · exact sI_s _ _ _
        · rw [sI_1, sA_n _ _ (by decide)]; exact g3 k hk
        · have hi2 : i < A.2.2.2.1 + 1 := hi
          rw [sI_1, sA_s]
          show upd (M.1 5) A.2.2.2.1 (nI w) i = upd A.2.2.2.2.1 A.2.2.2.1 (nI w) i
          by_cases e : i = A.2.2.2.1
          · rw [e, pk_us, pk_us]
          · rw [pk_un e, pk_un e]; exact g4 i (by omega)
        · rw [sI_1, sA_n _ _ (by decide)]; exact g5 k hk
  · refine q_ref hA (fun h a S hg hS => ?_) (fun h S f hM => ?_)
    · rw [xb89, i1, xcI_some, if_pos rfl]
    · rw [xb182, i2, xcI_some, if_pos rfl]
theorem s_clear (hA : AW A) : QR 90 183 [] A := by
  obtain ⟨hA1, hA2, hA3, hA4, hA5⟩ := id hA
  refine ⟨nI A.2.2.2.1, (A.1, A.2.1, A.2.2.1, 0, A.2.2.2.2.1, A.2.2.2.2.2), ⟨hA1, hA2, hA3, Nat.zero_le _, fun i hi => absurd hi (Nat.not_lt_zero _)⟩, fun X M h hh hC => ?_, fun h M hR => ?_⟩
  · obtain ⟨hp, ⟨c1, c2, c3, c4, c5, c6⟩, hn', hk⟩ := hC
    obtain ⟨h2, e2, H2⟩ := X_p hh (k := 5) (Or.inr (Or.inl rfl)) 0
    have z5 : ∀ k, k ≠ 5 → va_up X.2.1 5 0 k = X.2.1 k := fun k hk => up_n _ _ hk
    refine ⟨_, h2, ?_, H2, hp, ⟨(z5 3 (by decide)).trans c1, (show va_up X.2.1 5 0 5 = nI 0 from up_s _ _ _), (z5 7 (by decide)).trans c3, (z5 8 (by decide)).trans c4, (z5 9 (by decide)).trans c5, fun i hi => absurd hi (Nat.not_lt_zero _)⟩, hn', hk⟩
    rw [xb90, X_5 hh, Option.bind_some, e2, Option.bind_some, c2]
  · obtain ⟨g1, g2, g3, g4, g5⟩ := hR.1
    refine ⟨m0 (sI M 6 0) (M.1 0), ?_, RFc_0m (A := (A.1, A.2.1, A.2.2.1, 0, A.2.2.2.2.1, A.2.2.2.2.2)) ⟨(sI_n M 0 (show (3 : Nat) ≠ 6 by decide)).trans g1, sI_s M 6 0, g3, fun i hi => absurd hi (Nat.not_lt_zero _), g5⟩ _, by rw [m0_0]; exact hR.2⟩
    have q : xM 183 [.ref 104] (pM h 104 (m0 M (M.1 0))) = some (some (.int (nI A.2.2.2.1)), pM h 104 (m0 (sI M 6 0) (M.1 0))) := by
      rw [xb183, a_i6, Option.bind_some, a_p6, Option.bind_some, g2]
    rw [m0_id] at q
    exact q
theorem s_back (hA : AW A) : QR 92 107 [] A := by
  obtain ⟨hA1, hA2, hA3, hA4, hA5⟩ := id hA
  by_cases c : A.2.1 = 0
  · refine q_refk hA (r := -3) (Or.inr (Or.inl rfl)) (fun X M h hh hC => ?_) (fun h S f hR hM => ?_)
    · rw [xb92, X_3 hh, Option.bind_some, hC.2.1.1, c, if_pos (show nI 0 = (0 : Int32) from rfl)]
    · rw [xb107, a_i3, Option.bind_some, hR.1, c, if_pos (show nI 0 = (0 : Int32) from rfl)]
  · obtain ⟨v, hv⟩ : ∃ v, A.2.1 = v + 1 := ⟨A.2.1 - 1, by omega⟩
    have v5 : v < 5 := by omega
    refine ⟨nI v, (A.2.2.1 v, v, A.2.2), ⟨hA3 v (by omega), by show v ≤ 5; omega, fun k hk => hA3 k (by have : k < v := hk; omega), hA4, hA5⟩, fun X M h hh hC => ?_, fun h M hR => ?_⟩
    · obtain ⟨hp, ⟨c1, c2, c3, c4, c5, c6⟩, hn, hk⟩ := hC
      obtain ⟨h1, e1, H1⟩ := X_p hh (k := 3) (Or.inl rfl) (nI v)
      obtain ⟨h2, e2, H2⟩ := X_pn H1 (X.1 v)
      obtain ⟨h3, e3, H3⟩ := X_wr H2 (k := v) (v := X.1 5) v5 (hp.1 5 (by decide))
      have z3 : ∀ k, k ≠ 3 → va_up X.2.1 3 (nI v) k = X.2.1 k := fun k hk => up_n _ _ hk
      have y1 := X_0 H1
      have y2 := X_3 H1
      have y3 := X_rr H1 v5
      have y4 := X_3 H2
      have y5 := X_3 H3
      dsimp only at y1 y2 y3 y4 y5
      rw [up_s] at y2 y4 y5
      have P : PM (va_up (va_up X.1 5 (X.1 v)) v (X.1 5)) := by
        refine PM_comp (τ := fun i => if i = v then 5 else if i = 5 then v else i) hp (fun i hi => ?_) (fun i j hi hj e => ?_) (fun i hi => ?_)
        · split
          · omega
          · split <;> omega
        · split at e <;> split at e <;> (try split at e) <;> (try split at e) <;> omega
        · by_cases e1 : i = v
          · rw [e1, up_s, if_pos rfl]
          · rw [up_n _ _ e1, if_neg e1]
            by_cases e2 : i = 5
            · rw [e2, up_s, if_pos rfl]
            · rw [up_n _ _ e2, if_neg e2]
      refine ⟨_, h3, ?_, H3, P, ⟨(show va_up X.2.1 3 (nI v) 3 = nI v from up_s _ _ _), (z3 5 (by decide)).trans c2, (z3 7 (by decide)).trans c3, (z3 8 (by decide)).trans c4, (z3 9 (by decide)).trans c5, c6⟩, ?_, fun k hk' => ?_⟩
      · rw [xb92, X_3 hh, Option.bind_some, c1, hv, if_neg (show ¬ nI (v + 1) = (0 : Int32) from nI_nel (n := 0) (by omega) (by decide) (by omega)), Option.bind_some, nI_pred, e1, Option.bind_some, y1, Option.bind_some, X_2 H1, Option.bind_some, y2, Option.bind_some, y3, Option.bind_some, e2, Option.bind_some, X_2 H2, Option.bind_some, y4, Option.bind_some, e3, Option.bind_some, y5, Option.bind_some]
      · show CSc (A.2.2.1 v) (X.2.2.1 (va_up (va_up X.1 5 (X.1 v)) v (X.1 5) 5))
        rw [up_n _ _ (by omega), up_s]
        exact hk v (by omega)
      · have hk2 : k < v := hk'
        show CSc (A.2.2.1 k) (X.2.2.1 (va_up (va_up X.1 5 (X.1 v)) v (X.1 5) k))
        rw [up_n _ _ (by omega), up_n _ _ (by omega)]
        exact hk k (by omega)
    · obtain ⟨g1, g2, g3, g4, g5⟩ := hR.1
      have loop : ∀ (d i : Nat) (f : Nat → Int32), i + d = 311 → (∀ j, j < i → f j = M.1 2 (311 * v + j)) → ∃ f', xE 107 26 [some (.ref 104), some (.int (nI i))] [] (pM h 104 (m0 (sI M 3 (nI v)) f)) = some (some (.int (nI v)), pM h 104 (m0 (sI M 3 (nI v)) f')) ∧ ∀ j, j < 311 → f' j = M.1 2 (311 * v + j) := by
        intro d
        induction d with
        | zero =>
          intro i f hi hf
          have hi : i = 311 := by omega
          subst hi
          refine ⟨f, ?_, hf⟩
          rw [xb107_26, if_neg (show ¬ nI 311 < (311 : Int32) by decide), a_i3, Option.bind_some, sI_s]
        | succ d ih =>
          intro i f hi hf
          obtain ⟨f', z1, z2⟩ := ih (i + 1) (upd f i (M.1 2 (311 * v + i))) (by omega) (fun j hj => by
            by_cases e : j = i
            · subst e; rw [pk_us]
            · rw [pk_un e]; exact hf j (by omega))
          refine ⟨f', ?_, z2⟩
          rw [xb107_26, if_pos (show nI i < (311 : Int32) from nI_lt (b := 311) (by omega) (by decide)), ml_f0, Option.bind_some, ml_f2, Option.bind_some, a_i3, Option.bind_some, sI_s, show (311 : Int32) = nI 311 from rfl, pk_mul, nI_add, a_r2 h 104 _ f (by omega), Option.bind_some, m_w0 h 104 _ f (by omega), Option.bind_some, nI_1, sI_1]
          exact z1
      obtain ⟨f', z1, z2⟩ := loop 311 0 (M.1 0) (by decide) (fun j hj => absurd hj (Nat.not_lt_zero _))
      refine ⟨m0 (sI M 3 (nI v)) f', ?_, RFc_0m (A := (A.2.2.1 v, v, A.2.2)) ⟨sI_s M 3 (nI v), (sI_n M (nI v) (show (6 : Nat) ≠ 3 by decide)).trans g2, g3, g4, fun k hk => g5 k (by have : k < v := hk; omega)⟩ _, ?_⟩
      · have q : xM 107 [.ref 104] (pM h 104 (m0 M (M.1 0))) = some (some (.int (nI v)), pM h 104 (m0 (sI M 3 (nI v)) f')) := by
          rw [xb107, a_i3, Option.bind_some, g1, hv, if_neg (show ¬ nI (v + 1) = (0 : Int32) from nI_nel (n := 0) (by omega) (by decide) (by omega)), Option.bind_some, nI_pred, a_p3, Option.bind_some]
          exact z1
        rw [m0_id] at q
        exact q
      · rw [m0_0]
        exact MSc_ext (hA3 v (by omega)) (g5 v (by omega)) z2
end CHG
