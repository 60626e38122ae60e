/-! A text, read and carried out, in both -/
theorem RFc_KT {M M' : mS} {A : aT} (hR : RFc M A) (hk : KT M M') : RFc M' A := by
  obtain ⟨h1, h2, h3, h4, h5⟩ := hR
  exact ⟨by rw [hk.2 3 (by decide) (by decide) (by decide)]; exact h1, by rw [hk.2 6 (by decide) (by decide) (by decide)]; exact h2, fun k hk' => by rw [hk.1 4 (by decide) (by decide)]; exact h3 k hk', fun i hi => by rw [hk.1 5 (by decide) (by decide)]; exact h4 i hi, fun k hk' => by rw [hk.1 2 (by decide) (by decide)]; exact h5 k hk'⟩
theorem RFc_s1 {M : mS} {A : aT} (hR : RFc M A) (g : Nat → Int32) : RFc (sA M 1 g) A := by
  obtain ⟨g1, g2, g3, g4, g5⟩ := hR
  exact ⟨g1, g2, fun k hk => by rw [sA_n _ _ (by decide)]; exact g3 k hk, fun i hi => by rw [sA_n _ _ (by decide)]; exact g4 i hi, fun k hk => by rw [sA_n _ _ (by decide)]; exact g5 k hk⟩
theorem uS_lt {u k : Nat} (hu : u ≤ 5) (c : k < uN u) : uS u k < u := by
  unfold uN at c
  unfold uS
  by_cases e : u = 5
  · rw [if_pos e] at c ⊢; omega
  · rw [if_neg e] at c ⊢; omega
theorem CL_nxt {X : hD} {A : aT} {σ' : gT} {p' : Nat → Nat} (hu : A.2.1 ≤ 5) (hc : CLc X A) (e3 : PM p') (e4 : p' 5 = X.1 5) (e5 : ∀ k, k < uN A.2.1 → p' k = X.1 (uS A.2.1 k)) (e6 : p' (uN A.2.1) = X.1 6) (hn : CSc σ' (X.2.2.1 (X.1 5))) (hs : CSc A.1 (X.2.2.1 (X.1 6))) (hk : ∀ k, k < A.2.1 → CSc (A.2.2.1 k) (X.2.2.1 (X.1 k))) : CL (p', va_up X.2.1 3 (nI (uT A.2.1)), X.2.2) (nxt A σ') := by
  obtain ⟨c1, c2, c3, c4, c5, c6⟩ := hc
  have z3 : ∀ k, k ≠ 3 → va_up X.2.1 3 (nI (uT A.2.1)) k = X.2.1 k := fun k hk => up_n _ _ hk
  refine ⟨e3, ⟨show va_up X.2.1 3 (nI (uT A.2.1)) 3 = nI (uT A.2.1) from up_s _ _ _, (z3 5 (by decide)).trans c2, (z3 7 (by decide)).trans c3, (z3 8 (by decide)).trans c4, (z3 9 (by decide)).trans c5, c6⟩, ?_, fun k hk' => ?_⟩
  · show CSc σ' (X.2.2.1 (p' 5))
    rw [e4]; exact hn
  · have hk2 : k < uT A.2.1 := hk'
    show CSc (if k < uN A.2.1 then A.2.2.1 (uS A.2.1 k) else A.1) (X.2.2.1 (p' k))
    by_cases c : k < uN A.2.1
    · rw [if_pos c, e5 k c]
      exact hk _ (uS_lt hu c)
    · rw [if_neg c]
      rw [uT_N] at hk2
      have : k = uN A.2.1 := by omega
      rw [this, e6]
      exact hs
theorem RF_nxt {S : mS} {f g : Nat → Int32} {A : aT} (hA : AW A) {σ' : gT} (hR : RFc S A) (hn : MSc σ' f) (hs : MSc A.1 (S.1 1)) (y2 : ∀ k i, k < uN A.2.1 → i < 311 → g (311 * k + i) = S.1 2 (311 * uS A.2.1 k + i)) (y3 : ∀ i, i < 311 → g (311 * uN A.2.1 + i) = S.1 1 i) : RF (m0 (sI (sA S 2 g) 3 (nI (uT A.2.1))) f) (nxt A σ') := by
  obtain ⟨g1, g2, g3, g4, g5⟩ := hR
  refine ⟨⟨sI_s _ _ _, (sI_n _ _ (by decide : (6 : Nat) ≠ 3)).trans g2, fun j hj => by rw [m0_n _ _ (by decide), sI_1, sA_n _ _ (by decide)]; exact g3 j hj, fun i hi => by rw [m0_n _ _ (by decide), sI_1, sA_n _ _ (by decide)]; exact g4 i hi, fun k hk => ?_⟩, by rw [m0_0]; exact hn⟩
  have hk2 : k < uT A.2.1 := hk
  rw [m0_n _ _ (by decide), sI_1, sA_s]
  show MSc (if k < uN A.2.1 then A.2.2.1 (uS A.2.1 k) else A.1) (fun i => g (311 * k + i))
  by_cases c : k < uN A.2.1
  · have hlt := uS_lt hA.2.1 c
    rw [if_pos c]
    exact MSc_ext (hA.2.2.1 _ hlt) (g5 _ hlt) (fun i hi => y2 k i c hi)
  · rw [if_neg c]
    rw [uT_N] at hk2
    have : k = uN A.2.1 := by omega
    subst this
    exact MSc_ext hA.1 hs (fun i hi => y3 i hi)
theorem at_t {h : xH} {t : Nat → Int32} (hp : pAt h 30 (gTx t)) {i : Nat} (hi : i < 120) : xri h 0 30 (nI i) = some (t i) := by
  have := xri_pL (h := h) (a := 30) (l := gTx t) (k := 0) rfl (nI i)
  rw [pL_id hp, xin_nI hi (by decide), cond_true, nI_clamp (by omega)] at this
  exact this
theorem rd_PI {tx : Nat → Int32} {n : Nat} (hn : n ≤ 120) {os : oL} (h : rn tx n n 0 ([], none, 0) = .inr os) : PI (os, none, 0) n := by
  obtain ⟨O', ⟨p, q1, -⟩ | ⟨os', q1, -, -, -, q2⟩⟩ := c_read (h := pL (0, 0, fun _ => .inr (.inr (0, []))) 30 (gTx tx)) (q := 31) (t := 30) (tx := tx) ((fun _ _ => 0), fun _ => 0) hn (fun O i hi => at_t (pAt_pL (pL_at _ _ _) (by show 30 + 1 ≤ 31 ∨ _; omega)) (by omega))
  · rw [h] at q1; cases q1
  · rw [h] at q1; injection q1 with q1; rw [q1]; exact q2
theorem s_does {A : aT} (hA : AW A) : QR 91 192 [] A := by
  obtain ⟨hA1, hA2, hA3, hA4, hA5⟩ := id hA
  have cread : ∀ X M h, HS X M h → CL X A → ∃ O', (∃ p, rn A.2.2.2.2.1 A.2.2.2.1 A.2.2.2.1 0 ([], none, 0) = .inl p ∧ p ≤ A.2.2.2.1 ∧ xM 25 [.ref 31, .ref 30, .int (nI A.2.2.2.1)] h = some (some (.int (nI p)), pO h 31 O')) ∨ (∃ os, rn A.2.2.2.2.1 A.2.2.2.1 A.2.2.2.1 0 ([], none, 0) = .inr os ∧ xM 25 [.ref 31, .ref 30, .int (nI A.2.2.2.1)] h = some (some (.int (-1)), pO h 31 O') ∧ OC os O') := fun X M h hh hC => by
    obtain ⟨O', q⟩ := c_read (h := h) (q := 31) (t := 30) (tx := A.2.2.2.2.1) X.2.2.2.1 hA4 (fun O i hi => by
      have := at_t (HS_ord hh O).2.2.2.1 (i := i) (by omega)
      rw [this]
      exact congrArg some (hC.2.1.2.2.2.2.2 i hi))
    rw [X_O hh] at q
    refine ⟨O', ?_⟩
    rcases q with ⟨p, q1, q2, q3⟩ | ⟨os, q1, q2, -, q4, -⟩
    · exact Or.inl ⟨p, q1, q2, q3⟩
    · refine Or.inr ⟨os, q1, q2, ?_⟩
      obtain ⟨r1, -, -, -, r5, r6⟩ := q4
      rw [sJ_n _ _ (by decide)] at r1
      rw [sJ_1] at r5 r6
      have e1 : plets (os, none, 0) = os.map fun q => q.1 := List.append_nil _
      have e2 : pnums (os, none, 0) = onum os := List.append_nil _
      rw [e1] at r5
      rw [e2] at r6
      exact ⟨r1, r5, r6⟩
  have mread : ∀ h M, RF M A → (∃ p S', xM 190 [.ref 104] (pM h 104 M) = some (some (.int 0), pM h 104 (m0 S' (M.1 0))) ∧ KT M S' ∧ S'.2.1 23 = nI p ∧ rn A.2.2.2.2.1 A.2.2.2.1 A.2.2.2.1 0 ([], none, 0) = .inl p) ∨ (∃ os S', xM 190 [.ref 104] (pM h 104 M) = some (some (.int 1), pM h 104 (m0 S' (M.1 0))) ∧ KT M S' ∧ rn A.2.2.2.2.1 A.2.2.2.1 A.2.2.2.1 0 ([], none, 0) = .inr os ∧ OM os S') := fun h M hR => by
    have q := m_isRead (h := h) (a := 104) (f := M.1 0) hA4 (S := M) (tx := A.2.2.2.2.1) ⟨hR.1.2.1, hR.1.2.2.2.1⟩
    rw [m0_id] at q
    rcases q with ⟨p, S', -, q1, q2, q3, q4⟩ | ⟨os, S', q1, q2, q3, q4, q5, q6⟩
    · exact Or.inl ⟨p, S', q1, q2, q3, q4⟩
    · exact Or.inr ⟨os, S', q1, q2, q3, q4, q5, q6⟩
  rcases hrn : rn A.2.2.2.2.1 A.2.2.2.1 A.2.2.2.1 0 ([], none, 0) with p | os
  · refine ⟨(-10) - nI p, A, hA, fun X M h hh hC => ?_, fun h M hR => ?_⟩
    · obtain ⟨O', ⟨p', q1, q2, q3⟩ | ⟨os, q1, -⟩⟩ := cread X M h hh hC
      · rw [hrn] at q1
        injection q1 with q1
        subst q1
        refine ⟨_, _, ?_, HS_ord hh O', hC.1, hC.2.1, hC.2.2⟩
        rw [xb91, X_6 hh, Option.bind_some, X_4 hh, Option.bind_some, X_5 hh, Option.bind_some, hC.2.1.2.1, X_og hh, q3, xcI_some, if_neg (nI_m1 p (by omega))]
      · rw [hrn] at q1; cases q1
    · rcases mread h M hR with ⟨p', S', q1, q2, q3, q4⟩ | ⟨os, S', -, -, q4, -⟩
      · rw [hrn] at q4
        injection q4 with q4
        subst q4
        refine ⟨m0 S' (M.1 0), ?_, RFc_0m (RFc_KT hR.1 q2) _, by rw [m0_0]; exact hR.2⟩
        rw [xb192, ml_gu, q1, xcI_some, if_pos rfl, a_i23, Option.bind_some, q3]
      · rw [hrn] at q4; cases q4
  · have hPI := rd_PI hA4 hrn
    have h60 : os.length ≤ 60 := by have := hPI.1; dsimp only at this; omega
    have hnu : (onum os).length ≤ 120 := by
      have e2 : pnums (os, none, 0) = onum os := List.append_nil _
      have := hPI.2.1
      rw [e2] at this
      omega
    have hmn : ∀ o, o ∈ os → manyN o.1 = some o.2.length := hPI.2.2.2.2.2
    have cst : ∀ X M h, HS X M h → CL X A → ∃ O' S', OC os O' ∧ CSc A.1 S' ∧ HS (X.1, X.2.1, va_up X.2.2.1 (X.1 6) S', O', X.2.2.2.2) M (pS (pO h 31 O') (X.1 6) S') ∧ xM 91 [.ref 0] h = xE 91 41 [some (.ref 0), some (.int (-1)), some (.int (nI 0)), some (.int (nI 0))] [] (pS (pO h 31 O') (X.1 6) S') := fun X M h hh hC => by
      obtain ⟨O', ⟨p', q1, -⟩ | ⟨os', q1, q2, q3⟩⟩ := cread X M h hh hC
      · rw [hrn] at q1; cases q1
      · rw [hrn] at q1
        injection q1 with q1
        subst q1
        have H1 := HS_ord hh O'
        have hp := hC.1
        have p5 := hp.1 5 (by decide)
        have p6 := hp.1 6 (by decide)
        have hne : X.1 5 ≠ X.1 6 := fun q => by have := hp.2 5 6 (by decide) (by decide) q; omega
        obtain ⟨S', c1, c2⟩ := c_copyFrom (h := pO h 31 O') p5 p6 hne (H1.2.2.2.2.2.1 _ p5) (X.2.2.1 (X.1 6))
        have hid := X_S H1 p6
        dsimp only at hid
        rw [hid] at c1
        have x0 := X_0 H1
        have x1 := X_1 H1
        dsimp only at x0 x1
        refine ⟨O', S', q3, c2 A.1 hA1 hC.2.2.1, HS_scene H1 p6 S', ?_⟩
        rw [xb91, X_6 hh, Option.bind_some, X_4 hh, Option.bind_some, X_5 hh, Option.bind_some, hC.2.1.2.1, X_og hh, q2, xcI_some, if_pos rfl, x1, Option.bind_some, x0, Option.bind_some, X_sg H1 p6, c1, xcV_some]
        rfl
    have mst : ∀ h M, RF M A → ∃ S1 g, RFc (sA S1 1 g) A ∧ OM os (sA S1 1 g) ∧ (∀ i, i < 311 → g i = M.1 0 i) ∧ xM 192 [.ref 104] (pM h 104 M) = xE 192 21 [some (.ref 104), some (.int (nI 0)), none] [] (pM h 104 (m0 (sA S1 1 g) (M.1 0))) := fun h M hR => by
      rcases mread h M hR with ⟨p', S', -, -, -, q4⟩ | ⟨os', S1, q1, q2, q4, q5⟩
      · rw [hrn] at q4; cases q4
      · rw [hrn] at q4
        injection q4 with q4
        subst q4
        obtain ⟨g, y1, y2⟩ := m_laysAside (h := h) (a := 104) (f := M.1 0) S1
        refine ⟨S1, g, RFc_s1 (RFc_KT hR.1 q2) g, ⟨q5.1, by rw [sA_n _ _ (by decide)]; exact q5.2.1, by rw [sA_n _ _ (by decide)]; exact q5.2.2⟩, y2, ?_⟩
        rw [xb192, ml_gu, q1, xcI_some, if_neg one_ne, ml_gu, y1, xcV_some]
        rfl
    rcases run h60 hnu hmn os [] A.1 rfl hA1 with ⟨σ', hw, a1, a2⟩ | ⟨j, hj, a1, a2⟩
    · refine ⟨nI os.length, nxt A σ', AW_nxt hA hw, fun X M h hh hC => ?_, fun h M hR => ?_⟩
      · obtain ⟨O', S', b1, b2, H2, b4⟩ := cst X M h hh hC
        obtain ⟨hp, hcc, hn, hk⟩ := hC
        have p5 := hp.1 5 (by decide)
        have p6 := hp.1 6 (by decide)
        have hne : X.1 5 ≠ X.1 6 := fun q => by have := hp.2 5 6 (by decide) (by decide) q; omega
        obtain ⟨S3, z1, z2⟩ := a1 _ M _ H2 hp b1 (by dsimp only; rw [up_n _ _ hne]; exact hn)
        dsimp only at z1
        have H3 := HS_scene H2 p5 S3
        dsimp only at H3
        obtain ⟨p', h', e1, e2, e3, e4, e5, e6⟩ := c_remember H3 hp hA2 hcc.1
        dsimp only at e2 e4 e5 e6
        refine ⟨_, h', ?_, e2, CL_nxt (X := (X.1, X.2.1, va_up (va_up X.2.2.1 (X.1 6) S') (X.1 5) S3, O', X.2.2.2.2)) hA2 hcc e3 e4 e5 e6 (by dsimp only; rw [up_s]; exact z2) (by dsimp only; rw [up_n _ _ (fun q => hne q.symm), up_s]; exact b2) (fun k hk' => by
          have k5 : k < 5 := by omega
          have n5 : X.1 k ≠ X.1 5 := fun q => by have := hp.2 k 5 (by omega) (by decide) q; omega
          have n6 : X.1 k ≠ X.1 6 := fun q => by have := hp.2 k 6 (by omega) (by decide) q; omega
          dsimp only
          rw [up_n _ _ n5, up_n _ _ n6]
          exact hk k hk')⟩
        have o3 := X_o2 H3
        have o4 := X_o2 e2
        dsimp only at o3 o4
        rw [b4]
        refine Eq.trans (show _ = _ from z1) ?_
        rw [xb91_41, X_6 H3, Option.bind_some, o3, Option.bind_some, b1.1, if_neg (nI_nlt (Nat.le_refl _) (by omega)), X_g H3, e1, xcV_some, X_6 e2, Option.bind_some, o4, Option.bind_some, b1.1]
      · obtain ⟨S1, g, b1, b2, b3, b4⟩ := mst h M hR
        obtain ⟨S2, f2, z1, z2, z3⟩ := a2 h _ _ b2 hR.2
        have R2 := RFc_KM b1 z2
        have O2 := OM_KM b2 z2
        obtain ⟨g2, y1, y2, y3⟩ := m_remembers (h := h) (a := 104) (f := f2) S2 hA2 R2.1
        refine ⟨m0 (sI (sA S2 2 g2) 3 (nI (uT A.2.1))) f2, ?_, RF_nxt hA R2 z3 ?_ y2 y3⟩
        · rw [b4]
          refine Eq.trans (show _ = _ from z1) ?_
          rw [xb192_21, a_i21, Option.bind_some, O2.1, if_neg (nI_nlt (Nat.le_refl _) (by omega)), ml_gu, y1, xcV_some, a_i21, Option.bind_some, sI_n _ _ (show (21 : Nat) ≠ 3 by decide), sA_2, O2.1]
          rfl
        · rw [z2.1 1 (Or.inl rfl), sA_s]
          exact MSc_ext hA1 hR.2 b3
    · refine ⟨(-1000) - nI j, A, hA, fun X M h hh hC => ?_, fun h M hR => ?_⟩
      · obtain ⟨O', S', b1, b2, H2, b4⟩ := cst X M h hh hC
        obtain ⟨hp, hcc, hn, hk⟩ := hC
        have p5 := hp.1 5 (by decide)
        have p6 := hp.1 6 (by decide)
        have hne : X.1 5 ≠ X.1 6 := fun q => by have := hp.2 5 6 (by decide) (by decide) q; omega
        obtain ⟨S3, z1⟩ := a1 _ M _ H2 hp b1 (by dsimp only; rw [up_n _ _ hne]; exact hn)
        dsimp only at z1
        have H3 := HS_scene H2 p5 S3
        dsimp only at H3
        obtain ⟨h4, e4, H4⟩ := X_pn H3 (X.1 6)
        dsimp only at H4
        obtain ⟨h5, e5, H5⟩ := X_ps H4 (X.1 5)
        dsimp only at H5
        have x0 := X_0 H3
        have x1 := X_1 H3
        dsimp only at x0 x1
        have P : PM (va_up (va_up X.1 5 (X.1 6)) 6 (X.1 5)) := by
          refine PM_comp (τ := fun i => if i = 6 then 5 else if i = 5 then 6 else i) hp (fun i hi => ?_) (fun i j hi hj e => ?_) (fun i hi => ?_)
          · split
            · omega
            · split <;> omega
          · split at e <;> split at e <;> (try split at e) <;> (try split at e) <;> omega
          · by_cases e1 : i = 6
            · rw [e1, up_s, if_pos rfl]
            · rw [up_n _ _ e1, if_neg e1]
              by_cases e2 : i = 5
              · rw [e2, up_s, if_pos rfl]
              · rw [up_n _ _ e2, if_neg e2]
        refine ⟨_, h5, ?_, H5, P, hcc, ?_, fun k hk' => ?_⟩
        · rw [b4]
          refine Eq.trans (show _ = _ from z1) ?_
          rw [xb100, x0, Option.bind_some, x1, Option.bind_some, e4, Option.bind_some, e5, Option.bind_some, xcV_some]
        · show CSc A.1 (va_up (va_up X.2.2.1 (X.1 6) S') (X.1 5) S3 (va_up (va_up X.1 5 (X.1 6)) 6 (X.1 5) 5))
          rw [up_n (va_up X.1 5 (X.1 6)) _ (show (5 : Nat) ≠ 6 by decide), up_s X.1 5, up_n _ _ (fun q => hne q.symm), up_s]
          exact b2
        · have k5 : k < 5 := by omega
          have n5 : X.1 k ≠ X.1 5 := fun q => by have := hp.2 k 5 (by omega) (by decide) q; omega
          have n6 : X.1 k ≠ X.1 6 := fun q => by have := hp.2 k 6 (by omega) (by decide) q; omega
          show CSc (A.2.2.1 k) (va_up (va_up X.2.2.1 (X.1 6) S') (X.1 5) S3 (va_up (va_up X.1 5 (X.1 6)) 6 (X.1 5) k))
          rw [up_n (va_up X.1 5 (X.1 6)) _ (show k ≠ 6 by omega), up_n X.1 _ (show k ≠ 5 by omega), up_n _ _ n5, up_n _ _ n6]
          exact hk k hk'
      · obtain ⟨S1, g, b1, b2, b3, b4⟩ := mst h M hR
        obtain ⟨S2, f2, z1, z2⟩ := a2 h _ _ b2 hR.2
        have R2 := RFc_KM b1 z2
        have s1 : S2.1 1 = g := by rw [z2.1 1 (Or.inl rfl), sA_s]
        have loop : ∀ (d i : Nat) (f : Nat → Int32), i + d = 311 → (∀ t, t < i → f t = M.1 0 t) → ∃ f', xE 192 39 [some (.ref 104), some (.int (nI j)), some (.int (nI i))] [] (pM h 104 (m0 S2 f)) = some (some (.int ((-1000) - nI j)), pM h 104 (m0 S2 f')) ∧ ∀ t, t < 311 → f' t = M.1 0 t := by
          intro d
          induction d with
          | zero =>
            intro i f hi hf
            have hi : i = 311 := by omega
            subst hi
            refine ⟨f, ?_, hf⟩
            rw [xb192_39, if_neg (show ¬ nI 311 < (311 : Int32) by decide)]
          | succ d ih =>
            intro i f hi hf
            obtain ⟨f', w1, w2⟩ := ih (i + 1) (upd f i (g i)) (by omega) (fun t ht => by
              by_cases e : t = i
              · rw [e, pk_us]; exact b3 i (by omega)
              · rw [pk_un e]; exact hf t (by omega))
            refine ⟨f', ?_, w2⟩
            rw [xb192_39, if_pos (show nI i < (311 : Int32) from nI_lt (b := 311) (by omega) (by decide)), ml_f0, Option.bind_some, ml_f1, Option.bind_some, a_r1 h 104 _ f (by omega), Option.bind_some, s1, m_w0 h 104 _ f (by omega), Option.bind_some, nI_1]
            exact w1
        obtain ⟨f', w1, w2⟩ := loop 311 0 f2 (by decide) (fun t ht => absurd ht (Nat.not_lt_zero _))
        refine ⟨m0 S2 f', ?_, RFc_0m R2 _, by rw [m0_0]; exact MSc_ext hA1 hR.2 w2⟩
        rw [b4]
        refine Eq.trans (show _ = _ from z1) ?_
        exact w1
