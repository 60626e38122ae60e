/-! The reference's tree: splits go up, a shape comes -/
theorem Con_gen {rk rk' : Nat → Option Nat} {en' : Nat → List Nat} {sb bx bx' : Nat → Int32} {n m : Nat} (hv : bx' n = fbx (ebx rk sb bx m) (en' n)) (hr : rk' n = rk m) (hc : ∀ c, c ∈ en' n → rk m ≠ some 0 → bx' c = bx c) : Con rk' en' sb bx' n := by
  unfold Con
  rw [hv]
  refine fbx_congr fun e he => ?_
  unfold ebx
  rw [hr]
  by_cases h0 : rk m = some 0
  · rw [if_pos h0, if_pos h0]
  · rw [if_neg h0, if_neg h0]; exact (hc e he h0).symm
theorem insL_A {x w : Nat} : ∀ {l : List Nat}, x ∈ l → insL (l.idxOf x + 1) w l = insA x w l
  | e :: r, hx => by
    unfold insA
    by_cases he : e = x
    · subst he
      rw [if_pos rfl, List.idxOf_cons_self]
      rfl
    · have hxr : x ∈ r := (List.mem_cons.mp hx).resolve_left (fun q => he q.symm)
      rw [if_neg he, List.idxOf_cons, beq_false_of_ne he, cond_false, ← insL_A hxr]
      rfl
theorem freeN_low (rk : Nat → Option Nat) : ∀ n, n < freeN rk → rk n ≠ none := by
  intro n hn hk
  unfold freeN at hn
  cases hf : (List.range 16).find? fun n => (rk n).isNone with
  | none =>
    rw [hf] at hn
    have := List.find?_eq_none.mp hf n (List.mem_range.mpr hn)
    rw [hk] at this
    exact absurd rfl this
  | some m =>
    rw [hf] at hn
    rw [List.find?_range_eq_some] at hf
    have h3 := hf.2.2 n hn
    rw [hk] at h3
    cases h3
theorem insT0_pa (T : tS) (n p e k : Nat) : (insT0 T n p e (k + 1)).2.2.2.1 = va_up T.2.2.2.1 e (some n) := by
  show (if k + 1 = 0 then T.2.2.2.1 else va_up T.2.2.2.1 e (some n)) = _
  rw [if_neg (Nat.succ_ne_zero k)]
section MU
variable {h : xH} {a : Nat} {sb : Nat → Int32}
theorem RM_root {T : tS} {bx f : Nat → Int32} (hR : RM T sb bx f) (z : Nat) : RM (z, T.2) sb bx (upd f 304 (nI z)) := by
  obtain ⟨r1, r2, r3, r4⟩ := hR
  refine ⟨pk_us, fun n hn => by rw [pk_un (by omega)]; exact r2 n hn, fun n k hn => ?_, fun s hs hb => by rw [pk_un (by omega)]; exact r4 s hs hb⟩
  obtain ⟨q0, q1, q2, q3, q4, q5, q6⟩ := r3 n k hn
  refine ⟨q0, by rw [pk_un (by omega)]; exact q1, by rw [pk_un (by omega)]; exact q2, by rw [pk_un (by omega)]; exact q3, by rw [pk_un (by omega)]; exact q4, q5, fun i e he => ?_⟩
  have hi : i < (T.2.2.1 n).length := (List.getElem?_eq_some_iff.mp he).1
  rw [pk_un (by omega)]
  exact q6 i e he
theorem m_splitsUp {I : Nat → Prop} (hs : ∀ s, I s → sb s ≠ 0) (l1 : Int32) : ∀ (d : Nat) {S : mS} {T : tS} {f bx : Nat → Int32} {x k r : Nat} (l3 l4 : Option Value), INVt T I → LBt T → T.2.1 T.1 = some r → T.2.1 x = some k → (T.2.2.1 x).length ≤ 5 → (∀ n j, T.2.1 n = some j → n ≠ x → (T.2.2.1 n).length ≤ 4) → r - k < d → RM T sb bx f → BK T.2.1 sb bx → (∀ n j, T.2.1 n = some j → Con T.2.1 T.2.2.1 sb bx n) →
    ∃ S' f' bx', xE 141 2 [some (.ref a), some (.int l1), some (.int (nI x)), l3, l4] [] (pM h a (m0 S f)) = some (none, pM h a (m0 S' f')) ∧ SC7 S S' ∧ RM (ascT sb d T x) sb bx' f' ∧ BK (ascT sb d T x).2.1 sb bx' ∧ (∀ n j, (ascT sb d T x).2.1 n = some j → Con (ascT sb d T x).2.1 (ascT sb d T x).2.2.1 sb bx' n) ∧ FR f f' := by
  intro d
  induction d with
  | zero => exact fun _ _ _ _ _ _ _ _ hd => absurd hd (Nat.not_lt_zero _)
  | succ d ih =>
    intro S T f bx x k r l3 l4 hI hL hr hx h5 hU hd hR hB hC
    have hE := EN_of hI hs
    obtain ⟨x16, -, r2, r3, -, -, -⟩ := hR.2.2.1 x k hx
    unfold ascT
    rw [xb141_2, if_neg (nI_m1 x (by omega)), ml_gu, m_n2 h a S f (by omega), xcI_some, r2]
    by_cases hc5 : (T.2.2.1 x).length < 5
    · rw [if_neg (show ¬ nI (T.2.2.1 x).length = (5 : Int32) from fun q => by
        have := nI_inj (b := 5) (by omega) (by decide) q
        omega), if_pos hc5]
      exact ⟨S, f, bx, rfl, SC7_rf S, hR, hB, hC, FR_rf f⟩
    · have h55 : (T.2.2.1 x).length = 5 := by omega
      rw [if_pos (show nI (T.2.2.1 x).length = (5 : Int32) by rw [h55]; rfl), if_neg hc5]
      have hsp : splt (sgx sb T x) (T.2.2.1 x) = splt (ebx T.2.1 sb bx x) (T.2.2.1 x) := splt_congr h55 (sgx_eq hI hx (fun m j hm _ => hC m j hm))
      obtain ⟨⟨f1, f2⟩, ⟨z1, z2, z3⟩, hk16⟩ := free2 hI hL hx h55
      have hsh := splt_half (g := ebx T.2.1 sb bx x) (hI.2.2.1 x k hx).2 h55
      have hxe : k ≠ 0 → x ∉ T.2.2.1 x := fun hk => no_self hI hx hk
      have okA := fun p hp => spA_ok (a := p) hI hL hx h55 hU hp (sgx sb T x) rfl
      have okR := fun hp => spR_ok hI hL hx h55 hU hp (sgx sb T x) rfl
      rw [show (T.2.1 x).getD 0 = k by rw [hx]; rfl]
      rw [hsp] at okA okR ⊢
      generalize hm : splt (ebx T.2.1 sb bx x) (T.2.2.1 x) = mm at hsh okA okR ⊢
      obtain ⟨m1, m2⟩ := mm
      dsimp only at hsh okA okR ⊢
      obtain ⟨S1, F1, b1, e1, e2, e3, e4, e5, e6, e7, e8⟩ := m_halves (h := h) (a := a) (S := S) hI hL hR hE hB hx h55 rfl hm
      generalize hwg : freeN T.2.1 = w at *
      have hxw : x ≠ w := fun q => by rw [q, f2] at hx; cases hx
      have hnw : ∀ n j, T.2.1 n = some j → n ≠ w := fun n j hn q => by rw [q, f2] at hn; cases hn
      have w16 : w < 16 := f1
      have hxm2 : k ≠ 0 → x ∉ m2 := fun hk q => hxe hk ((hsh.1.2.2.1 x).mpr (Or.inr q))
      have hpx : (hvT T x w k m1 m2).2.2.2.1 x = T.2.2.2.1 x := by
        show va_up (paS T.2.2.2.1 k w m2) w none x = _
        rw [up_n _ _ hxw]
        unfold paS
        rw [if_neg (fun q => hxm2 q.1 q.2)]
      have hxv : (hvT T x w k m1 m2).2.1 x = some k := (hv_ro hxw).trans hx
      have habove : F1 (64 + 10 * x + 3) = paI (T.2.2.2.1 x) := by
        rw [← hpx]
        exact (e3.2.2.1 x k hxv).2.2.2.1
      have hsub1 : ∀ e, e ∈ m1 → e ∈ T.2.2.1 x := fun e he => (hsh.1.2.2.1 e).mpr (Or.inl he)
      have hsub2 : ∀ e, e ∈ m2 → e ∈ T.2.2.1 x := fun e he => (hsh.1.2.2.1 e).mpr (Or.inr he)
      have hchild : ∀ e, e ∈ T.2.2.1 x → T.2.1 x ≠ some 0 → b1 e = bx e := fun e he h0 => by
        have hk : k ≠ 0 := fun q => h0 (by rw [hx, q])
        obtain ⟨j, hj⟩ := (EE_of hE hx he).2 h0
        exact e7 e j hj (fun q => hxe hk (q ▸ he))
      rw [ml_gu, e1, xcI_some, ml_gu, m_n3 h a S1 F1 (by omega), xcI_some, habove]
      cases hp : T.2.2.2.1 x with
      | none =>
        obtain ⟨oI, oL, oU, -⟩ := okR hp
        have hz := m_newNode (h := h) (a := a) (S := S1) e3 z1 (by
          show va_up T.2.1 w (some k) _ = none
          exact (up_n _ _ z3).trans z2) (freeN_low _) 0
        have hzg0 : freeN (hvT T x w k m1 m2).2.1 = freeN (va_up T.2.1 w (some k)) := rfl
        rw [hzg0] at hz
        generalize hzg : freeN (va_up T.2.1 w (some k)) = z at *
        have hzN : (hvT T x w k m1 m2).2.1 z = none := (hv_ro z3).trans z2
        have hxz : x ≠ z := fun q => by rw [q, z2] at hx; cases hx
        have hnz : ∀ n j, T.2.1 n = some j → n ≠ z := fun n j hn q => by rw [q, z2] at hn; cases hn
        have R1 := RM_new (k := k + 1) e3 z1 hzN
        rw [if_neg (show ¬ k + 1 = 0 by omega)] at R1
        have R2 := RM_root R1 z
        generalize hF2 : upd (nwf F1 z 0) 304 (nI z) = F2 at R2
        have enz : ((z, (newT (hvT T x w k m1 m2) z (k + 1)).2) : tS).2.2.1 z = [] := by
          show va_up (hvT T x w k m1 m2).2.2.1 z [] z = []
          rw [up_s]
        have rkz : ((z, (newT (hvT T x w k m1 m2) z (k + 1)).2) : tS).2.1 z = some (k + 1) := by
          show va_up (hvT T x w k m1 m2).2.1 z (some (k + 1)) z = _
          rw [up_s]
        obtain ⟨F3, p1, p2, p3⟩ := m_inserts (h := h) (a := a) (S := S1) R2 rkz (p := 0) (e := x) (by rw [enz]; decide) (Nat.zero_le _) (fun _ => x16)
        have enz2 : (insT0 (z, (newT (hvT T x w k m1 m2) z (k + 1)).2) z 0 x (k + 1)).2.2.1 z = [x] := by
          show va_up _ z (insL 0 x (((z, (newT (hvT T x w k m1 m2) z (k + 1)).2) : tS).2.2.1 z)) z = [x]
          rw [up_s, enz]; rfl
        obtain ⟨F4, q1, q2, q3⟩ := m_inserts (h := h) (a := a) (S := S1) p2 (n := z) rkz (p := 1) (e := w) (by rw [enz2]; show 1 ≤ 4; decide) (by rw [enz2]; exact Nat.le_refl 1) (fun _ => w16)
        have R5 : RM (spR T x w z k m1 m2) sb (va_up b1 z 0) F4 := by
          refine RM_congr q2 rfl (fun _ => rfl) (fun n j hn => ⟨?_, ?_, rfl⟩)
          · show va_up (va_up (va_up T.2.2.1 x m1) w m2) z [x, w] n = va_up (va_up (va_up (va_up (va_up T.2.2.1 x m1) w m2) z []) z (insL 0 x (((z, (newT (hvT T x w k m1 m2) z (k + 1)).2) : tS).2.2.1 z))) z (insL 1 w ((insT0 (z, (newT (hvT T x w k m1 m2) z (k + 1)).2) z 0 x (k + 1)).2.2.1 z)) n
            rw [enz2, bx_uu, bx_uu]; rfl
          · rw [insT0_pa, insT0_pa]
            show va_up (va_up (va_up (paS T.2.2.2.1 k w m2) x (some z)) w (some z)) z none n = va_up (va_up (va_up (va_up (paS T.2.2.2.1 k w m2) w none) z none) x (some z)) w (some z) n
            by_cases n1 : n = z
            · subst n1; rw [up_s, up_n _ _ z3, up_n _ _ (fun q => hxz q.symm), up_s]
            · rw [up_n _ _ n1]
              by_cases n2 : n = w
              · subst n2; rw [up_s, up_s]
              · rw [up_n _ _ n2, up_n _ _ n2]
                by_cases n3 : n = x
                · subst n3; rw [up_s, up_s]
                · rw [up_n _ _ n3, up_n _ _ n3, up_n _ _ n1, up_n _ _ n2]
        have hBz : BK (spR T x w z k m1 m2).2.1 sb (va_up b1 z 0) := ⟨hB.1, fun n j hn => by
          have hn' : va_up (va_up T.2.1 w (some k)) z (some (k + 1)) n = some j := hn
          by_cases q : n = z
          · subst q; rw [up_s]; exact Or.inl rfl
          · rw [up_n _ _ q] at hn' ⊢; exact e4.2 n j hn'⟩
        have rkz' : (spR T x w z k m1 m2).2.1 z = some (k + 1) := by
          show va_up (va_up T.2.1 w (some k)) z (some (k + 1)) z = _
          rw [up_s]
        have hEz := EN_of oI hs
        have hCz : ∀ n j, (spR T x w z k m1 m2).2.1 n = some j → n ≠ z → Con (spR T x w z k m1 m2).2.1 (spR T x w z k m1 m2).2.2.1 sb (va_up b1 z 0) n := by
          intro n j hn hnz'
          have hn' : va_up (va_up T.2.1 w (some k)) z (some (k + 1)) n = some j := hn
          rw [up_n _ _ hnz'] at hn'
          have hrk : ∀ m, m ≠ z → m ≠ w → (spR T x w z k m1 m2).2.1 m = T.2.1 m := fun m a1 a2 => by
            show va_up (va_up T.2.1 w (some k)) z (some (k + 1)) m = _
            rw [up_n _ _ a1, up_n _ _ a2]
          by_cases n1 : n = x
          · subst n1
            have en1 : (spR T n w z k m1 m2).2.2.1 n = m1 := by
              show va_up (va_up (va_up T.2.2.1 n m1) w m2) z [n, w] n = m1
              rw [up_n _ _ hxz, up_n _ _ hxw, up_s]
            refine Con_gen (rk := T.2.1) (bx := bx) (m := n) (by rw [en1, up_n _ _ hxz]; exact e5) (hrk n hxz hxw) (fun c hc h0 => ?_)
            rw [en1] at hc
            obtain ⟨jc, hjc⟩ := (EE_of hE hx (hsub1 c hc)).2 h0
            rw [up_n _ _ (hnz c jc hjc)]
            exact hchild c (hsub1 c hc) h0
          · by_cases n2 : n = w
            · subst n2
              have en1 : (spR T x n z k m1 m2).2.2.1 n = m2 := by
                show va_up (va_up (va_up T.2.2.1 x m1) n m2) z [x, n] n = m2
                rw [up_n _ _ hnz', up_s]
              refine Con_gen (rk := T.2.1) (bx := bx) (m := x) (by rw [en1, up_n _ _ hnz']; exact e6) ?_ (fun c hc h0 => ?_)
              · show va_up (va_up T.2.1 n (some k)) z (some (k + 1)) n = T.2.1 x
                rw [up_n _ _ hnz', up_s, hx]
              · rw [en1] at hc
                obtain ⟨jc, hjc⟩ := (EE_of hE hx (hsub2 c hc)).2 h0
                rw [up_n _ _ (hnz c jc hjc)]
                exact hchild c (hsub2 c hc) h0
            · rw [up_n _ _ n2] at hn'
              have en1 : (spR T x w z k m1 m2).2.2.1 n = T.2.2.1 n := by
                show va_up (va_up (va_up T.2.2.1 x m1) w m2) z [x, w] n = _
                rw [up_n _ _ hnz', up_n _ _ n2, up_n _ _ n1]
              refine Con_gen (rk := T.2.1) (bx := bx) (m := n) (by rw [en1, up_n _ _ hnz', e7 n j hn' n1]; exact hC n j hn') (hrk n hnz' n2) (fun c hc h0 => ?_)
              rw [en1] at hc
              obtain ⟨jc, hjc⟩ := (EE_of hE hn' hc).2 h0
              rw [up_n _ _ (hnz c jc hjc)]
              refine e7 c jc hjc (fun q => ?_)
              subst q
              cases j with
              | zero => exact h0 hn'
              | succ j =>
                have := (hI.2.2.2.1 n j c hn' hc).2
                rw [hp] at this
                cases this
        have hpz : (spR T x w z k m1 m2).2.2.2.1 z = none := oI.2.1
        have hfin := Con_step oI rkz' hCz
        refine ⟨S1, _, _, ?_, e2, RM_box R5 rkz' _, BK_up hBz (fbx_bk hEz hBz rkz'), fun n j hn => hfin n j hn (fun p q => by rw [hpz] at q; cases q), ?_⟩
        rotate_left
        · refine FR_tr e8 (FR_tr (fun i hi => ?_) (FR_tr p3 (FR_tr q3 (FR_upd _ _ (by omega) (by omega)))))
          rw [← hF2, pk_un (by omega), nwf_o _ _ (by omega)]
        · have p1' : xM 133 [.ref a, .int (nI z), .int 0, .int (nI x)] (pM h a (m0 S1 F2)) = some (none, pM h a (m0 S1 F3)) := p1
          have q1' : xM 133 [.ref a, .int (nI z), .int 1, .int (nI w)] (pM h a (m0 S1 F3)) = some (none, pM h a (m0 S1 F4)) := q1
          rw [show paI none = -1 from rfl, if_pos rfl, ml_gu, hz, xcI_some, ml_f0, Option.bind_some, show (304 : Int32) = nI 304 from rfl, m_w0 h a S1 _ (by decide), Option.bind_some, hF2, ml_gu, p1', xcV_some, ml_gu, q1', xcV_some, ml_gu, m_boxes R5 hEz hBz rkz', xcV_some]
      | some p =>
        obtain ⟨oI, oL, o3, o4, o5, o6, o7⟩ := okA p hp
        have hxr : x ≠ T.1 := fun q => by rw [q, hI.2.1] at hp; cases hp
        obtain ⟨p', pa1, rkp, hxp⟩ := hI.2.2.2.2.2.1 x k hx hxr
        rw [hp] at pa1
        cases pa1
        have hpx' : p ≠ x := fun q => by rw [q, hx] at rkp; have := Option.some.inj rkp; omega
        have hpw : p ≠ w := hnw p _ rkp
        have p16 : p < 16 := (hI.2.2.1 p _ rkp).1
        have rkp' : (hvT T x w k m1 m2).2.1 p = some (k + 1) := (hv_ro hpw).trans rkp
        have enp : (hvT T x w k m1 m2).2.2.1 p = T.2.2.1 p := hv_o hpx' hpw
        have hix := m_indexOf (h := h) (a := a) (S := S1) (e := x) e3 rkp' (by
          intro c hc
          rw [enp] at hc
          have := (hI.2.2.1 c k (hI.2.2.2.1 p k c rkp hc).1).1
          omega) (by omega)
        rw [enp] at hix
        have hil := idx_lt hxp
        have hpl := hU p _ rkp hpx'
        obtain ⟨F2, q1, q2, q3⟩ := m_inserts (h := h) (a := a) (S := S1) e3 rkp' (p := (T.2.2.1 p).idxOf x + 1) (e := w) (by rw [enp]; exact hpl) (by rw [enp]; omega) (fun _ => w16)
        have R3 : RM (spA T x w p k m1 m2) sb b1 F2 := by
          refine RM_congr q2 rfl (fun _ => rfl) (fun n j hn => ⟨?_, ?_, rfl⟩)
          · show va_up (va_up (va_up T.2.2.1 p (insA x w (T.2.2.1 p))) x m1) w m2 n = va_up (va_up (va_up T.2.2.1 x m1) w m2) p (insL ((T.2.2.1 p).idxOf x + 1) w ((hvT T x w k m1 m2).2.2.1 p)) n
            rw [enp, insL_A hxp]
            by_cases n1 : n = p
            · subst n1; rw [up_n _ _ hpw, up_n _ _ hpx', up_s, up_s]
            · rw [up_n _ _ n1]
              by_cases n2 : n = w
              · subst n2; rw [up_s, up_s]
              · rw [up_n _ _ n2, up_n _ _ n2]
                by_cases n3 : n = x
                · subst n3; rw [up_s, up_s]
                · rw [up_n _ _ n3, up_n _ _ n3, up_n _ _ n1]
          · rw [insT0_pa]
            show va_up (paS T.2.2.2.1 k w m2) w (some p) n = va_up (va_up (paS T.2.2.2.1 k w m2) w none) w (some p) n
            rw [bx_uu]
        have hkr : k + 1 ≤ r := by
          obtain ⟨⟨r', hr', -, hrk⟩, -⟩ := id hI
          rw [hr] at hr'
          cases hr'
          exact (hrk p _ rkp).1
        have hE3 := EN_of oI hs
        have hr3 : (spA T x w p k m1 m2).2.1 (spA T x w p k m1 m2).1 = some r := by
          rw [o6, o7]; exact hr
        have hC3 : ∀ n j, (spA T x w p k m1 m2).2.1 n = some j → n ≠ p → Con (spA T x w p k m1 m2).2.1 (spA T x w p k m1 m2).2.2.1 sb b1 n := by
          intro n j hn hnp
          have hn' : va_up T.2.1 w (some k) n = some j := hn
          have hrk : ∀ m, m ≠ w → (spA T x w p k m1 m2).2.1 m = T.2.1 m := fun m a2 => by
            show va_up T.2.1 w (some k) m = _
            rw [up_n _ _ a2]
          by_cases n1 : n = x
          · subst n1
            have en1 : (spA T n w p k m1 m2).2.2.1 n = m1 := by
              show va_up (va_up (va_up T.2.2.1 p (insA n w (T.2.2.1 p))) n m1) w m2 n = m1
              rw [up_n _ _ hxw, up_s]
            refine Con_gen (rk := T.2.1) (bx := bx) (m := n) (by rw [en1]; exact e5) (hrk n hxw) (fun c hc h0 => ?_)
            rw [en1] at hc
            exact hchild c (hsub1 c hc) h0
          · by_cases n2 : n = w
            · subst n2
              have en1 : (spA T x n p k m1 m2).2.2.1 n = m2 := by
                show va_up (va_up (va_up T.2.2.1 p (insA x n (T.2.2.1 p))) x m1) n m2 n = m2
                rw [up_s]
              refine Con_gen (rk := T.2.1) (bx := bx) (m := x) (by rw [en1]; exact e6) ?_ (fun c hc h0 => ?_)
              · show va_up T.2.1 n (some k) n = T.2.1 x
                rw [up_s, hx]
              · rw [en1] at hc
                exact hchild c (hsub2 c hc) h0
            · rw [up_n _ _ n2] at hn'
              have en1 : (spA T x w p k m1 m2).2.2.1 n = T.2.2.1 n := by
                show va_up (va_up (va_up T.2.2.1 p (insA x w (T.2.2.1 p))) x m1) w m2 n = _
                rw [up_n _ _ n2, up_n _ _ n1, up_n _ _ hnp]
              refine Con_gen (rk := T.2.1) (bx := bx) (m := n) (by rw [en1, e7 n j hn' n1]; exact hC n j hn') (hrk n n2) (fun c hc h0 => ?_)
              rw [en1] at hc
              obtain ⟨jc, hjc⟩ := (EE_of hE hn' hc).2 h0
              refine e7 c jc hjc (fun q => ?_)
              subst q
              cases j with
              | zero => exact h0 hn'
              | succ j =>
                have := (hI.2.2.2.1 n j c hn' hc).2
                rw [hp] at this
                exact hnp (Option.some.inj this).symm
        obtain ⟨F3, b3, t1, t2, t3, t4, t5⟩ := m_boxesUp (h := h) (a := a) (S := S1) oI hE3 hr3 17 (nI p) R3 e4 o3 hC3 (by
          obtain ⟨⟨r', hr', r16, -⟩, -⟩ := id hI
          rw [hr] at hr'
          cases hr'
          omega)
        obtain ⟨S2, F4, b4, u1, u2, u3, u4, u5, u6⟩ := ih (S := S1) (some (.int (nI w))) (some (.int (nI p))) oI oL hr3 o3 o4 o5 (by omega) t2 t3 t4
        refine ⟨S2, F4, b4, ?_, SC7_tr e2 u2, u3, u4, u5, FR_tr e8 (FR_tr q3 (FR_tr t5 u6))⟩
        rw [show paI (some p) = nI p from rfl, if_neg (nI_m1 p (by omega)), ml_gu, hix, xcI_some, ml_gu, nI_1, q1, xcV_some, ml_gu, xb131, t1, xcV_some]
        exact u1
theorem m_shapeComes {I : Nat → Prop} {S : mS} {T : tS} {f bx : Nat → Int32} {s : Nat} (hs : ∀ t, I t ∨ t = s → sb t ≠ 0) (hI : INVt T I) (hL : LBt T) (hU : UBt T 4) (hR : RM T sb bx f) (hB : BK T.2.1 sb bx) (hC : ∀ n j, T.2.1 n = some j → Con T.2.1 T.2.2.1 sb bx n) (hs16 : s < 16) (hn : ¬ I s) :
    ∃ S' f' bx', xM 142 [.ref a, .int (nI s)] (pM h a (m0 S f)) = some (none, pM h a (m0 S' f')) ∧ SC7 S S' ∧ RM (insT sb T s) sb bx' f' ∧ BK (insT sb T s).2.1 sb bx' ∧ (∀ n j, (insT sb T s).2.1 n = some j → Con (insT sb T s).2.1 (insT sb T s).2.2.1 sb bx' n) ∧ FR f f' := by
  have hE := EN_of hI (fun t ht => hs t (Or.inl ht))
  have hsb := hs s (Or.inr rfl)
  have hbs := hB.1 s hsb
  have hx := lfT_ok sb hI hL s
  have hleaf := m_leafFor (h := h) (a := a) (S := S) hI hL hR hB hC hbs
  obtain ⟨a1, a2, a3, a4⟩ := addT_ok sb hI hL hU hs16 hn hx
  obtain ⟨⟨r, hr, hr16, -⟩, -⟩ := id hI
  have hlen := hU _ _ hx
  unfold insT
  generalize lfT sb T s = x at *
  obtain ⟨x16, -, r2, -⟩ := hR.2.2.1 x 0 hx
  obtain ⟨F1, p1, p2, p3⟩ := m_inserts (h := h) (a := a) (S := S) hR hx (p := (T.2.2.1 x).length) (e := s) hlen (Nat.le_refl _) (fun q => absurd rfl q)
  have R2 : RM (addT T x s) sb bx F1 := by
    refine RM_congr p2 rfl (fun _ => rfl) (fun n j hn => ⟨?_, ?_, rfl⟩)
    · show va_up T.2.2.1 x (T.2.2.1 x ++ [s]) n = va_up T.2.2.1 x (insL (T.2.2.1 x).length s (T.2.2.1 x)) n
      rw [insL_end]
    · show T.2.2.2.1 n = (if 0 = 0 then T.2.2.2.1 else va_up T.2.2.2.1 s (some x)) n
      rw [if_pos rfl]
  have hE2 := EN_of a1 hs
  have hC2 : ∀ n j, (addT T x s).2.1 n = some j → n ≠ x → Con (addT T x s).2.1 (addT T x s).2.2.1 sb bx n := fun n j hn hnx => by
    have en1 : (addT T x s).2.2.1 n = T.2.2.1 n := by
      show va_up T.2.2.1 x (T.2.2.1 x ++ [s]) n = _
      rw [up_n _ _ hnx]
    exact Con_gen (rk := T.2.1) (bx := bx) (m := n) (by rw [en1]; exact hC n j hn) rfl (fun _ _ _ => rfl)
  obtain ⟨F2, b2, q1, q2, q3, q4, q5⟩ := m_boxesUp (h := h) (a := a) (S := S) a1 hE2 (r := r) hr 17 (nI x) R2 hB hx hC2 (by omega)
  obtain ⟨S3, F3, b3, t1, t2, t3, t4, t5, t6⟩ := m_splitsUp (h := h) (a := a) hs (nI x) 17 (S := S) none none a1 a2 hr hx a3 a4 (by omega) q2 q3 q4
  refine ⟨S3, F3, b3, ?_, t2, t3, t4, t5, FR_tr p3 (FR_tr q5 t6)⟩
  rw [xb142, ml_gu, m_s1 h a S f hs16, xcI_some, hR.2.2.2 s hs16 hsb, ml_gu, hleaf, xcI_some, ml_gu, m_n2 h a S f (by omega), xcI_some, r2, ml_gu, p1, xcV_some, ml_gu, xb131, q1, xcV_some, ml_gu, xb141, t1, xcV_some]
end MU
