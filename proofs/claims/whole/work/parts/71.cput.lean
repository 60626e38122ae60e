/-! The class's tree: a shape is put -/
def AN (T : tS) (x n : Nat) : Prop := ∃ i, itO T.2.2.2.1 i x = some n
theorem AN_self (T : tS) (x : Nat) : AN T x x := ⟨0, rfl⟩
theorem AN_cons {T : tS} {x p n : Nat} (hp : T.2.2.2.1 x = some p) : AN T x n ↔ n = x ∨ AN T p n := by
  constructor
  · rintro ⟨i, hi⟩
    cases i with
    | zero => exact Or.inl (Option.some.inj hi).symm
    | succ i =>
      have hi' : (T.2.2.2.1 x).bind (itO T.2.2.2.1 i) = some n := hi
      rw [hp] at hi'
      exact Or.inr ⟨i, hi'⟩
  · rintro (rfl | ⟨i, hi⟩)
    · exact AN_self T n
    · refine ⟨i + 1, ?_⟩
      show (T.2.2.2.1 x).bind (itO T.2.2.2.1 i) = some n
      rw [hp]; exact hi
theorem AN_root {T : tS} {x n : Nat} (hp : T.2.2.2.1 x = none) : AN T x n → n = x := by
  rintro ⟨i, hi⟩
  cases i with
  | zero => exact (Option.some.inj hi).symm
  | succ i =>
    have hi' : (T.2.2.2.1 x).bind (itO T.2.2.2.1 i) = some n := hi
    rw [hp] at hi'
    cases hi'
theorem pa_up {T : tS} {I : Nat → Prop} (hI : INVt T I) {x k p : Nat} (hx : T.2.1 x = some k) (hp : T.2.2.2.1 x = some p) : T.2.1 p = some (k + 1) ∧ x ∈ T.2.2.1 p ∧ x ≠ T.1 ∧ p ≠ x := by
  have hxr : x ≠ T.1 := fun q => by rw [q, hI.2.1] at hp; cases hp
  obtain ⟨p', pa1, rkp, hxp⟩ := hI.2.2.2.2.2.1 x k hx hxr
  rw [hp] at pa1
  cases pa1
  exact ⟨rkp, hxp, hxr, fun q => by rw [q, hx] at rkp; have := Option.some.inj rkp; omega⟩
theorem itO_rk {T : tS} {I : Nat → Prop} (hI : INVt T I) : ∀ (i : Nat) {x k n : Nat}, T.2.1 x = some k → itO T.2.2.2.1 i x = some n → ∃ j, T.2.1 n = some j ∧ k ≤ j
  | 0, x, k, n, hx, hi => ⟨k, by rw [← Option.some.inj hi]; exact hx, Nat.le_refl _⟩
  | i + 1, x, k, n, hx, hi => by
    have hi' : (T.2.2.2.1 x).bind (itO T.2.2.2.1 i) = some n := hi
    cases hp : T.2.2.2.1 x with
    | none => rw [hp] at hi'; cases hi'
    | some p =>
      rw [hp] at hi'
      obtain ⟨j, h1, h2⟩ := itO_rk hI i (pa_up hI hx hp).1 hi'
      exact ⟨j, h1, by omega⟩
theorem itO_congr {T : tS} {I : Nat → Prop} (hI : INVt T I) {pa' : Nat → Option Nat} : ∀ (i : Nat) {x k : Nat}, T.2.1 x = some k → (∀ m j, T.2.1 m = some j → k ≤ j → pa' m = T.2.2.2.1 m) → itO pa' i x = itO T.2.2.2.1 i x
  | 0, _, _, _, _ => rfl
  | i + 1, x, k, hx, hh => by
    show (pa' x).bind (itO pa' i) = (T.2.2.2.1 x).bind (itO T.2.2.2.1 i)
    rw [hh x k hx (Nat.le_refl _)]
    cases hp : T.2.2.2.1 x with
    | none => rfl
    | some p =>
      show itO pa' i p = itO T.2.2.2.1 i p
      exact itO_congr hI i (pa_up hI hx hp).1 fun m j hm hj => hh m j hm (by omega)
section CP
variable {h : xH} {a : Nat} {sb : Nat → Int32}
theorem Con_one {T : tS} {bx : Nat → Int32} {I : Nat → Prop} (hI : INVt T I) {x k : Nat} (hx : T.2.1 x = some k) {n j : Nat} (hn : T.2.1 n = some j) (hc : n ≠ x → Con T.2.1 T.2.2.1 sb bx n) (hp : ∀ p, T.2.2.2.1 x = some p → n ≠ p) : Con T.2.1 T.2.2.1 sb (va_up bx x (fbx (ebx T.2.1 sb bx x) (T.2.2.1 x))) n := by
  by_cases e : n = x
  · subst e
    refine Con_gen (rk := T.2.1) (bx := bx) (m := n) (up_s _ _ _) rfl (fun c hc' h0 => up_n _ _ (fun q : c = n => ?_))
    subst q
    cases k with
    | zero => exact h0 hx
    | succ k => exact no_self hI hx (by omega) hc'
  · refine Con_gen (rk := T.2.1) (bx := bx) (m := n) (by rw [up_n _ _ e]; exact hc e) rfl (fun c hc' h0 => up_n _ _ (fun q : c = x => ?_))
    subst q
    cases j with
    | zero => exact h0 hn
    | succ j => exact hp n (hI.2.2.2.1 n j c hn hc').2 rfl
theorem c_end (l0 : Nat) (l1 l3 : Int32) (l4 l5 : Option Value) (hh : xH) : xE 53 48 [some (.ref l0), some (.int l1), some (.int (-1)), some (.int l3), l4, l5] [] hh = some (none, hh) := by
  rw [xb53_48]
  split
  · rw [if_pos rfl]
  · rfl
theorem c_fits {T : tS} {I : Nat → Prop} (hI : INVt T I) (hE : EN T sb) (hU : UBt T 4) {r : Nat} (hr : T.2.1 T.1 = some r) (s : Int32) : ∀ (d : Nat) {S : sS} {bx : Nat → Int32} {x k : Nat} (l4 l5 : Option Value), RC T sb bx S → T.2.1 x = some k → (∀ n j, T.2.1 n = some j → ¬ AN T x n → Con T.2.1 T.2.2.1 sb bx n) → r - k < d →
    ∃ S' bx', xE 53 48 [some (.ref (a + 1)), some (.int s), some (.int (nI (16 + x))), some (.int (nI k)), l4, l5] [] (pS h a S) = some (none, pS h a S') ∧ RC T sb bx' S' ∧ (∀ n j, T.2.1 n = some j → Con T.2.1 T.2.2.1 sb bx' n) ∧ KP ALLQ S S' := by
  intro d
  induction d with
  | zero => exact fun _ _ _ _ _ hd => absurd hd (Nat.not_lt_zero _)
  | succ d ih =>
    intro S bx x k l4 l5 hR hx hC hd
    obtain ⟨x16, k16, r2, r3, r4, r5, r6⟩ := hR.2.2.1 x k hx
    have hl := hU x k hx
    have R1 := RC_bx hR hx (fbx (ebx T.2.1 sb bx x) (T.2.2.1 x))
    have K1 := KP_0 ALLQ S (n := x) (fbx (ebx T.2.1 sb bx x) (T.2.2.1 x))
    rw [xb53_48, if_pos (show nI k < (16 : Int32) from nI_lt (b := 16) k16 (by decide)), if_neg (nI_m1 (16 + x) (by omega)), sl_t4, Option.bind_some, c_r3 h a S (by omega), Option.bind_some, r2, if_pos (show nI (T.2.2.1 x).length < (5 : Int32) from nI_lt (b := 5) (by omega) (by decide)), sl_gt, c_fit hR hE hx, xcV_some, sl_t2, Option.bind_some, c_r1 h a _ (by omega), Option.bind_some, sB_n _ _ (by decide), r3, nI_1]
    cases hp : T.2.2.2.1 x with
    | none =>
      refine ⟨_, _, c_end _ _ _ _ _ _, R1, fun n j hn => ?_, K1⟩
      exact Con_one hI hx hn (fun e => hC n j hn (fun q => e (AN_root hp q))) (fun p q => by rw [hp] at q; cases q)
    | some p =>
      obtain ⟨rkp, hxp, hxr, hpx⟩ := pa_up hI hx hp
      obtain ⟨S', bx', z1, z2, z3, z4⟩ := ih l4 l5 R1 rkp (fun n j hn hna => Con_one hI hx hn (fun e => hC n j hn (fun q => by
          rcases (AN_cons hp).mp q with z | z
          · exact e z
          · exact hna z)) (fun p' q => by
          rw [hp] at q
          cases q
          exact fun z => hna (z ▸ AN_self T p))) (by
        obtain ⟨⟨r', hr', -, hrk⟩, -⟩ := id hI
        rw [hr] at hr'
        cases hr'
        have := (hrk p _ rkp).1
        omega)
      exact ⟨S', bx', z1, z2, z3, KP_tr K1 z4⟩
theorem RC_root {T : tS} {bx : Nat → Int32} {S : sS} (hR : RC T sb bx S) (z : Nat) : RC (z, T.2) sb bx (sJ S 0 (nI (16 + z))) := ⟨sJ_s _ _ _, hR.2.1, hR.2.2.1, hR.2.2.2⟩
theorem KP_J (Q : Nat → Prop) (S : sS) (v : Int32) : KP Q S (sJ S 0 v) := ⟨fun _ _ => rfl, fun _ _ => rfl, sJ_n _ _ (by decide), sJ_n _ _ (by decide), fun _ _ _ => rfl⟩
theorem c_asc {I : Nat → Prop} (hs : ∀ s, I s → sb s ≠ 0) (s : Int32) : ∀ (d : Nat) {S : sS} {T : tS} {bx : Nat → Int32} {x k r : Nat} (l4 l5 : Option Value), INVt T I → LBt T → T.2.1 T.1 = some r → T.2.1 x = some k → (T.2.2.1 x).length ≤ 5 → (∀ n j, T.2.1 n = some j → n ≠ x → (T.2.2.1 n).length ≤ 4) → r - k < d → RC T sb bx S → (∀ n j, T.2.1 n = some j → ¬ AN T x n → Con T.2.1 T.2.2.1 sb bx n) →
    ∃ S' bx', xE 53 48 [some (.ref (a + 1)), some (.int s), some (.int (nI (16 + x))), some (.int (nI k)), l4, l5] [] (pS h a S) = some (none, pS h a S') ∧ RC (ascT sb d T x) sb bx' S' ∧ (∀ n j, (ascT sb d T x).2.1 n = some j → Con (ascT sb d T x).2.1 (ascT sb d T x).2.2.1 sb bx' n) ∧ KP ALLQ S S' := by
  intro d
  induction d with
  | zero => exact fun _ _ _ _ _ _ _ _ hd => absurd hd (Nat.not_lt_zero _)
  | succ d ih =>
    intro S T bx x k r l4 l5 hI hL hr hx h5 hU hd hR hC
    have hE := EN_of hI hs
    unfold ascT
    by_cases hc5 : (T.2.2.1 x).length < 5
    · rw [if_pos hc5]
      exact c_fits hI hE (fun n j hn => by
        by_cases e : n = x
        · rw [e]; omega
        · exact hU n j hn e) hr s 17 l4 l5 hR hx hC (by
        obtain ⟨⟨r', hr', r16, -⟩, -⟩ := id hI
        rw [hr] at hr'
        cases hr'
        omega)
    · have h55 : (T.2.2.1 x).length = 5 := by omega
      rw [if_neg hc5]
      have hlow : ∀ m j, T.2.1 m = some j → j < k → Con T.2.1 T.2.2.1 sb bx m := fun m j hm hj => hC m j hm (fun ⟨i, hi⟩ => by
        obtain ⟨j', z1, z2⟩ := itO_rk hI i hx hi
        rw [hm] at z1
        have := Option.some.inj z1
        omega)
      have hsp : splt (sgx sb T x) (T.2.2.1 x) = splt (ebx T.2.1 sb bx x) (T.2.2.1 x) := splt_congr h55 (sgx_eq hI hx hlow)
      obtain ⟨⟨f1, f2⟩, ⟨z1, z2, z3⟩, hk16⟩ := free2 hI hL hx h55
      have hsh := splt_half (g := ebx T.2.1 sb bx x) (hI.2.2.1 x k hx).2 h55
      have hxe : k ≠ 0 → x ∉ T.2.2.1 x := fun hk => no_self hI hx hk
      have okA := fun p hp => spA_ok (a := p) hI hL hx h55 hU hp (sgx sb T x) rfl
      have okR := fun hp => spR_ok hI hL hx h55 hU hp (sgx sb T x) rfl
      rw [show (T.2.1 x).getD 0 = k by rw [hx]; rfl]
      rw [hsp] at okA okR ⊢
      generalize hm : splt (ebx T.2.1 sb bx x) (T.2.2.1 x) = mm at hsh okA okR ⊢
      obtain ⟨m1, m2⟩ := mm
      dsimp only at hsh okA okR ⊢
      obtain ⟨S1, b1, e1, e3, e5, e6, e7, e8⟩ := c_split (h := h) (a := a) hI hL hR hE hx h55 rfl hm s l4 l5
      generalize hwg : freeN T.2.1 = w at *
      have hxw : x ≠ w := fun q => by rw [q, f2] at hx; cases hx
      have hnw : ∀ n j, T.2.1 n = some j → n ≠ w := fun n j hn q => by rw [q, f2] at hn; cases hn
      have x16 := RC_lt hR hx
      have hxm2 : k ≠ 0 → x ∉ m2 := fun hk q => hxe hk ((hsh.1.2.2.1 x).mpr (Or.inr q))
      have hpx : (hvT T x w k m1 m2).2.2.2.1 x = T.2.2.2.1 x := by
        show va_up (paS T.2.2.2.1 k w m2) w none x = _
        rw [up_n _ _ hxw]
        unfold paS
        rw [if_neg (fun q => hxm2 q.1 q.2)]
      have hxv : (hvT T x w k m1 m2).2.1 x = some k := (hv_ro hxw).trans hx
      have hwv : (hvT T x w k m1 m2).2.1 w = some k := hv_rw
      have habove : S1.1 1 (16 + x) = paC (T.2.2.2.1 x) := by
        rw [← hpx]
        exact (e3.2.2.1 x k hxv).2.2.2.1
      have hsub1 : ∀ e, e ∈ m1 → e ∈ T.2.2.1 x := fun e he => (hsh.1.2.2.1 e).mpr (Or.inl he)
      have hsub2 : ∀ e, e ∈ m2 → e ∈ T.2.2.1 x := fun e he => (hsh.1.2.2.1 e).mpr (Or.inr he)
      have hchild : ∀ e, e ∈ T.2.2.1 x → T.2.1 x ≠ some 0 → b1 e = bx e := fun e he h0 => by
        have hk : k ≠ 0 := fun q => h0 (by rw [hx, q])
        obtain ⟨j, hj⟩ := (EE_of hE hx he).2 h0
        exact e7 e j hj (fun q => hxe hk (q ▸ he))
      have hrkc : ∀ e, e ∈ T.2.2.1 x → T.2.1 x ≠ some 0 → ∃ j, T.2.1 e = some j ∧ j < k := fun e he h0 => by
        cases k with
        | zero => exact absurd hx h0
        | succ k => exact ⟨k, (hI.2.2.2.1 x k e hx he).1, by omega⟩
      have hrx1 : ∀ S : sS, xri (pS h a S) 0 (a + 3) (nI (16 + x)) = some (S.1 1 (16 + x)) := fun S => c_r1 h a S (by omega)
      rw [e1, xb53_111, if_neg (show ¬ nI 3 < (3 : Int32) by decide), sl_gt, xb69, sl_t2, Option.bind_some, hrx1, Option.bind_some, habove, nI_1]
      cases hp : T.2.2.2.1 x with
      | none =>
        obtain ⟨oI, oL, oU, -⟩ := okR hp
        have hz := c_newNode (h := h) (a := a) e3 z1 (by
          show va_up T.2.1 w (some k) _ = none
          exact (up_n _ _ z3).trans z2) (k + 1)
        have hzg0 : freeN (hvT T x w k m1 m2).2.1 = freeN (va_up T.2.1 w (some k)) := rfl
        rw [hzg0] at hz
        generalize hzg : freeN (va_up T.2.1 w (some k)) = z at *
        have hzN : (hvT T x w k m1 m2).2.1 z = none := (hv_ro z3).trans z2
        have hxz : x ≠ z := fun q => by rw [q, z2] at hx; cases hx
        have hnz : ∀ n j, T.2.1 n = some j → n ≠ z := fun n j hn q => by rw [q, z2] at hn; cases hn
        have R2 := RC_root (RC_new (k := k + 1) e3 z1 hk16 hzN) z
        have enz : ((z, (newT (hvT T x w k m1 m2) z (k + 1)).2) : tS).2.2.1 z = [] := by
          show va_up (hvT T x w k m1 m2).2.2.1 z [] z = []
          rw [up_s]
        have rkz : ((z, (newT (hvT T x w k m1 m2) z (k + 1)).2) : tS).2.1 z = some (k + 1) := by
          show va_up (hvT T x w k m1 m2).2.1 z (some (k + 1)) z = _
          rw [up_s]
        have rkx : ((z, (newT (hvT T x w k m1 m2) z (k + 1)).2) : tS).2.1 x = some k := by
          show va_up (hvT T x w k m1 m2).2.1 z (some (k + 1)) x = _
          rw [up_n _ _ hxz]; exact hxv
        have rkw : ((z, (newT (hvT T x w k m1 m2) z (k + 1)).2) : tS).2.1 w = some k := by
          show va_up (hvT T x w k m1 m2).2.1 z (some (k + 1)) w = _
          rw [up_n _ _ (fun q : w = z => z3 q.symm)]; exact hwv
        obtain ⟨S3, p1, p2, p3, -⟩ := c_append (h := h) (a := a) (Q := ALLQ) R2 rkz (by rw [enz]; decide) x16 (fun _ => ⟨⟨k, rkx⟩, hxz⟩) (fun q => absurd q (Nat.succ_ne_zero k))
        rw [off_s] at p1
        rw [enz] at p2
        have enz2 : (insT0 (z, (newT (hvT T x w k m1 m2) z (k + 1)).2) z ([] : List Nat).length x (k + 1)).2.2.1 z = [x] := by
          show va_up _ z (insL 0 x (((z, (newT (hvT T x w k m1 m2) z (k + 1)).2) : tS).2.2.1 z)) z = [x]
          rw [up_s, enz]; rfl
        obtain ⟨S4, q1, q2, q3⟩ := c_hang2 (h := h) (a := a) (x := x) (w := w) p2 rkz enz2 (show [x].length ≤ 4 from Nat.le_of_ble_eq_true rfl) (List.nodup_cons.mpr ⟨List.not_mem_nil, List.nodup_nil⟩) (List.mem_singleton.mpr rfl) ⟨k, rkw⟩ (fun q => z3 q.symm)
        have hbz : ∀ n v1 v2 v3, n ≠ z → va_up (va_up (va_up b1 z v1) z v2) z v3 n = b1 n := fun n v1 v2 v3 hn => by rw [up_n _ _ hn, up_n _ _ hn, up_n _ _ hn]
        generalize hbg : va_up (va_up (va_up b1 z 0) z (cun (va_up b1 z 0 z) (ebx ((z, (newT (hvT T x w k m1 m2) z (k + 1)).2) : tS).2.1 sb (va_up b1 z 0) z x))) z (cun (va_up (va_up b1 z 0) z (cun (va_up b1 z 0 z) (ebx ((z, (newT (hvT T x w k m1 m2) z (k + 1)).2) : tS).2.1 sb (va_up b1 z 0) z x)) z) (va_up (va_up b1 z 0) z (cun (va_up b1 z 0 z) (ebx ((z, (newT (hvT T x w k m1 m2) z (k + 1)).2) : tS).2.1 sb (va_up b1 z 0) z x)) w)) = b2 at q2
        have hb2 : ∀ n, n ≠ z → b2 n = b1 n := fun n hn => by rw [← hbg]; exact hbz n _ _ _ hn
        have R5 : RC (spR T x w z k m1 m2) sb b2 S4 := by
          refine RC_congr q2 rfl (fun _ => rfl) (fun n j hn => ⟨?_, ?_, rfl⟩)
          · show va_up (va_up (va_up T.2.2.1 x m1) w m2) z [x, w] n = va_up (va_up (va_up (va_up (va_up T.2.2.1 x m1) w m2) z []) z (insL 0 x (((z, (newT (hvT T x w k m1 m2) z (k + 1)).2) : tS).2.2.1 z))) z (insA x w [x]) n
            rw [bx_uu, bx_uu]
            unfold insA
            rw [if_pos rfl]
          · show va_up (va_up (va_up (paS T.2.2.2.1 k w m2) x (some z)) w (some z)) z none n = va_up (insT0 (z, (newT (hvT T x w k m1 m2) z (k + 1)).2) z ([] : List Nat).length x (k + 1)).2.2.2.1 w (some z) n
            rw [insT0_pa]
            show va_up (va_up (va_up (paS T.2.2.2.1 k w m2) x (some z)) w (some z)) z none n = va_up (va_up (va_up (va_up (paS T.2.2.2.1 k w m2) w none) z none) x (some z)) w (some z) n
            by_cases n1 : n = z
            · subst n1; rw [up_s, up_n _ _ z3, up_n _ _ (fun q => hxz q.symm), up_s]
            · rw [up_n _ _ n1]
              by_cases n2 : n = w
              · subst n2; rw [up_s, up_s]
              · rw [up_n _ _ n2, up_n _ _ n2]
                by_cases n3 : n = x
                · subst n3; rw [up_s, up_s]
                · rw [up_n _ _ n3, up_n _ _ n3, up_n _ _ n1, up_n _ _ n2]
        have rkz' : (spR T x w z k m1 m2).2.1 z = some (k + 1) := by
          show va_up (va_up T.2.1 w (some k)) z (some (k + 1)) z = _
          rw [up_s]
        have hEz := EN_of oI hs
        have hCz : ∀ n j, (spR T x w z k m1 m2).2.1 n = some j → n ≠ z → Con (spR T x w z k m1 m2).2.1 (spR T x w z k m1 m2).2.2.1 sb b2 n := by
          intro n j hn hnz'
          have hn' : va_up (va_up T.2.1 w (some k)) z (some (k + 1)) n = some j := hn
          rw [up_n _ _ hnz'] at hn'
          have hrk : ∀ m, m ≠ z → m ≠ w → (spR T x w z k m1 m2).2.1 m = T.2.1 m := fun m a1 a2 => by
            show va_up (va_up T.2.1 w (some k)) z (some (k + 1)) m = _
            rw [up_n _ _ a1, up_n _ _ a2]
          by_cases n1 : n = x
          · subst n1
            have en1 : (spR T n w z k m1 m2).2.2.1 n = m1 := by
              show va_up (va_up (va_up T.2.2.1 n m1) w m2) z [n, w] n = m1
              rw [up_n _ _ hxz, up_n _ _ hxw, up_s]
            refine Con_gen (rk := T.2.1) (bx := bx) (m := n) (by rw [en1, hb2 _ hxz]; exact e5) (hrk n hxz hxw) (fun c hc h0 => ?_)
            rw [en1] at hc
            obtain ⟨jc, hjc⟩ := (EE_of hE hx (hsub1 c hc)).2 h0
            rw [hb2 _ (hnz c jc hjc)]
            exact hchild c (hsub1 c hc) h0
          · by_cases n2 : n = w
            · subst n2
              have en1 : (spR T x n z k m1 m2).2.2.1 n = m2 := by
                show va_up (va_up (va_up T.2.2.1 x m1) n m2) z [x, n] n = m2
                rw [up_n _ _ hnz', up_s]
              refine Con_gen (rk := T.2.1) (bx := bx) (m := x) (by rw [en1, hb2 _ hnz']; exact e6) ?_ (fun c hc h0 => ?_)
              · show va_up (va_up T.2.1 n (some k)) z (some (k + 1)) n = T.2.1 x
                rw [up_n _ _ hnz', up_s, hx]
              · rw [en1] at hc
                obtain ⟨jc, hjc⟩ := (EE_of hE hx (hsub2 c hc)).2 h0
                rw [hb2 _ (hnz c jc hjc)]
                exact hchild c (hsub2 c hc) h0
            · rw [up_n _ _ n2] at hn'
              have en1 : (spR T x w z k m1 m2).2.2.1 n = T.2.2.1 n := by
                show va_up (va_up (va_up T.2.2.1 x m1) w m2) z [x, w] n = _
                rw [up_n _ _ hnz', up_n _ _ n2, up_n _ _ n1]
              refine Con_gen (rk := T.2.1) (bx := bx) (m := n) (by rw [en1, hb2 _ hnz', e7 n j hn' n1]; exact hC n j hn' (fun q => n1 (AN_root hp q))) (hrk n hnz' n2) (fun c hc h0 => ?_)
              rw [en1] at hc
              obtain ⟨jc, hjc⟩ := (EE_of hE hn' hc).2 h0
              rw [hb2 _ (hnz c jc hjc)]
              refine e7 c jc hjc (fun q => ?_)
              subst q
              cases j with
              | zero => exact h0 hn'
              | succ j =>
                have := (hI.2.2.2.1 n j c hn' hc).2
                rw [hp] at this
                cases this
        have hpz : (spR T x w z k m1 m2).2.2.2.1 z = none := oI.2.1
        have hpx4 : S4.1 1 (16 + x) = nI (16 + z) := by
          have h1 : (spR T x w z k m1 m2).2.1 x = some k := by
            show va_up (va_up T.2.1 w (some k)) z (some (k + 1)) x = _
            rw [up_n _ _ hxz, up_n _ _ hxw]; exact hx
          have h2 := (R5.2.2.1 x k h1).2.2.2.1
          have h3 : (spR T x w z k m1 m2).2.2.2.1 x = some z := by
            show va_up (va_up (va_up (paS T.2.2.2.1 k w m2) x (some z)) w (some z)) z none x = _
            rw [up_n _ _ hxz, up_n _ _ hxw, up_s]
          rw [h3] at h2
          exact h2
        obtain ⟨S6, b6, u1, u2, u3, u4⟩ := c_fits (h := h) (a := a) oI hEz oU (r := k + 1) rkz' s 1 (S := S4) (some (.int (nI (16 + w)))) (some (.int (nI 3))) R5 rkz' (fun n j hn hna => hCz n j hn (fun q => hna (by rw [q]; exact AN_self _ z))) (by omega)
        refine ⟨S6, b6, ?_, u2, u3, KP_tr e8 (KP_tr (KP_new ALLQ S1 z (k + 1)) (KP_tr (KP_J ALLQ _ (nI (16 + z))) (KP_tr p3 (KP_tr q3 u4))))⟩
        have hsJ : ∀ (S : sS) (v : Int32), xpf (pS h a S) (a + 1) 3 0 (.int v) = some (pS h a (sJ S 0 v)) := fun S v => sl_pt0 ..
        have hrk2 : xri (pS h a S1) 0 (a + 4) (nI (16 + x)) = some (nI k) := by
          rw [c_r2 h a S1 (by omega), e3.2.1 x x16, hxv]
          rfl
        rw [if_pos (show paC none = -1 from rfl), sl_t3, Option.bind_some, hrk2, Option.bind_some, sl_gt, nI_1, hz, xcI_some, if_neg (nI_m1 (16 + z) (by omega)), hsJ, Option.bind_some, sl_gt, p1, xcV_some, q1, xcV_some, sl_t2, Option.bind_some, hrx1, Option.bind_some, hpx4]
        exact u1
      | some p =>
        obtain ⟨oI, oL, o3, o4, o5, o6, o7⟩ := okA p hp
        obtain ⟨rkp, hxp, hxr, hpx'⟩ := pa_up hI hx hp
        have hpw : p ≠ w := hnw p _ rkp
        have p16 : p < 16 := (hI.2.2.1 p _ rkp).1
        have rkp' : (hvT T x w k m1 m2).2.1 p = some (k + 1) := (hv_ro hpw).trans rkp
        have enp : (hvT T x w k m1 m2).2.2.1 p = T.2.2.1 p := hv_o hpx' hpw
        have hpl := hU p _ rkp hpx'
        obtain ⟨S2, q1, q2, q3⟩ := c_hang2 (h := h) (a := a) (x := x) (w := w) e3 rkp' enp hpl (hI.2.2.1 p _ rkp).2 hxp ⟨k, hwv⟩ (fun q => hpw q.symm)
        generalize hbg : va_up b1 p (cun (b1 p) (b1 w)) = b2 at q2
        have hb2 : ∀ n, n ≠ p → b2 n = b1 n := fun n hn => by rw [← hbg, up_n _ _ hn]
        have R3 : RC (spA T x w p k m1 m2) sb b2 S2 := by
          refine RC_congr q2 rfl (fun _ => rfl) (fun n j hn => ⟨?_, ?_, rfl⟩)
          · show va_up (va_up (va_up T.2.2.1 p (insA x w (T.2.2.1 p))) x m1) w m2 n = va_up (va_up (va_up T.2.2.1 x m1) w m2) p (insA x w (T.2.2.1 p)) n
            by_cases n1 : n = p
            · subst n1; rw [up_n _ _ hpw, up_n _ _ hpx', up_s, up_s]
            · rw [up_n _ _ n1]
              by_cases n2 : n = w
              · subst n2; rw [up_s, up_s]
              · rw [up_n _ _ n2, up_n _ _ n2]
                by_cases n3 : n = x
                · subst n3; rw [up_s, up_s]
                · rw [up_n _ _ n3, up_n _ _ n3, up_n _ _ n1]
          · show va_up (paS T.2.2.2.1 k w m2) w (some p) n = va_up (va_up (paS T.2.2.2.1 k w m2) w none) w (some p) n
            rw [bx_uu]
        have hkr : k + 1 ≤ r := by
          obtain ⟨⟨r', hr', -, hrk⟩, -⟩ := id hI
          rw [hr] at hr'
          cases hr'
          exact (hrk p _ rkp).1
        have hr3 : (spA T x w p k m1 m2).2.1 (spA T x w p k m1 m2).1 = some r := by
          rw [o6, o7]; exact hr
        have hAN : ∀ n, AN (spA T x w p k m1 m2) p n ↔ AN T p n := fun n => by
          have hco : ∀ i, itO (spA T x w p k m1 m2).2.2.2.1 i p = itO T.2.2.2.1 i p := fun i => itO_congr hI i rkp (fun m j hm hj => by
            show va_up (paS T.2.2.2.1 k w m2) w (some p) m = _
            rw [up_n _ _ (hnw m j hm)]
            unfold paS
            rw [if_neg]
            rintro ⟨hk, hmm⟩
            obtain ⟨j', z1, z2⟩ := hrkc m (hsub2 m hmm) (fun q => hk (by rw [hx] at q; exact Option.some.inj q))
            rw [hm] at z1
            have := Option.some.inj z1
            omega)
          constructor
          · rintro ⟨i, hi⟩; exact ⟨i, by rw [← hco]; exact hi⟩
          · rintro ⟨i, hi⟩; exact ⟨i, by rw [hco]; exact hi⟩
        have hC3 : ∀ n j, (spA T x w p k m1 m2).2.1 n = some j → ¬ AN (spA T x w p k m1 m2) p n → Con (spA T x w p k m1 m2).2.1 (spA T x w p k m1 m2).2.2.1 sb b2 n := by
          intro n j hn hna
          rw [hAN] at hna
          have hnp : n ≠ p := fun q => hna (q ▸ AN_self T p)
          have hn' : va_up T.2.1 w (some k) n = some j := hn
          have hrk : ∀ m, m ≠ w → (spA T x w p k m1 m2).2.1 m = T.2.1 m := fun m a2 => by
            show va_up T.2.1 w (some k) m = _
            rw [up_n _ _ a2]
          have hcp : ∀ c, c ∈ T.2.2.1 x → T.2.1 x ≠ some 0 → c ≠ p := fun c hc h0 q => by
            obtain ⟨j', z1, z2⟩ := hrkc c hc h0
            rw [q, rkp] at z1
            have := Option.some.inj z1
            omega
          by_cases n1 : n = x
          · subst n1
            have en1 : (spA T n w p k m1 m2).2.2.1 n = m1 := by
              show va_up (va_up (va_up T.2.2.1 p (insA n w (T.2.2.1 p))) n m1) w m2 n = m1
              rw [up_n _ _ hxw, up_s]
            refine Con_gen (rk := T.2.1) (bx := bx) (m := n) (by rw [en1, hb2 _ hnp]; exact e5) (hrk n hxw) (fun c hc h0 => ?_)
            rw [en1] at hc
            rw [hb2 _ (hcp c (hsub1 c hc) h0)]
            exact hchild c (hsub1 c hc) h0
          · by_cases n2 : n = w
            · subst n2
              have en1 : (spA T x n p k m1 m2).2.2.1 n = m2 := by
                show va_up (va_up (va_up T.2.2.1 p (insA x n (T.2.2.1 p))) x m1) n m2 n = m2
                rw [up_s]
              refine Con_gen (rk := T.2.1) (bx := bx) (m := x) (by rw [en1, hb2 _ hnp]; exact e6) ?_ (fun c hc h0 => ?_)
              · show va_up T.2.1 n (some k) n = T.2.1 x
                rw [up_s, hx]
              · rw [en1] at hc
                rw [hb2 _ (hcp c (hsub2 c hc) h0)]
                exact hchild c (hsub2 c hc) h0
            · rw [up_n _ _ n2] at hn'
              have en1 : (spA T x w p k m1 m2).2.2.1 n = T.2.2.1 n := by
                show va_up (va_up (va_up T.2.2.1 p (insA x w (T.2.2.1 p))) x m1) w m2 n = _
                rw [up_n _ _ n2, up_n _ _ n1, up_n _ _ hnp]
              refine Con_gen (rk := T.2.1) (bx := bx) (m := n) (by
                rw [en1, hb2 _ hnp, e7 n j hn' n1]
                refine hC n j hn' (fun q => ?_)
                rcases (AN_cons hp).mp q with z | z
                · exact n1 z
                · exact hna z) (hrk n n2) (fun c hc h0 => ?_)
              rw [en1] at hc
              obtain ⟨jc, hjc⟩ := (EE_of hE hn' hc).2 h0
              have hpac : T.2.2.2.1 c = some n := by
                cases j with
                | zero => exact absurd hn' h0
                | succ j => exact (hI.2.2.2.1 n j c hn' hc).2
              rw [hb2 c (fun q => by
                rw [q] at hpac
                exact hna ((AN_cons hpac).mpr (Or.inr (AN_self T n))))]
              refine e7 c jc hjc (fun q => ?_)
              rw [q, hp] at hpac
              exact hnp (Option.some.inj hpac).symm
        have hpx2 : S2.1 1 (16 + x) = nI (16 + p) := by
          have h1 : (spA T x w p k m1 m2).2.1 x = some k := by
            show va_up T.2.1 w (some k) x = _
            rw [up_n _ _ hxw]; exact hx
          have h2 := (R3.2.2.1 x k h1).2.2.2.1
          have h3 : (spA T x w p k m1 m2).2.2.2.1 x = some p := by
            show va_up (paS T.2.2.2.1 k w m2) w (some p) x = _
            rw [up_n _ _ hxw]
            unfold paS
            rw [if_neg (fun q => hxm2 q.1 q.2)]
            exact hp
          rw [h3] at h2
          exact h2
        obtain ⟨S6, b6, u1, u2, u3, u4⟩ := ih (S := S2) (some (.int (nI (16 + w)))) (some (.int (nI 3))) oI oL hr3 o3 o4 o5 (by omega) R3 hC3
        refine ⟨S6, b6, ?_, u2, u3, KP_tr e8 (KP_tr q3 u4)⟩
        rw [show paC (some p) = nI (16 + p) from rfl, if_neg (nI_m1 (16 + p) (by omega)), q1, xcV_some, sl_t2, Option.bind_some, hrx1, Option.bind_some, hpx2]
        exact u1
theorem c_put {I : Nat → Prop} {S : sS} {T : tS} {bx : Nat → Int32} {s : Nat} (hs : ∀ t, I t ∨ t = s → sb t ≠ 0) (hI : INVt T I) (hL : LBt T) (hU : UBt T 4) (hR : RC T sb bx S) (hC : ∀ n j, T.2.1 n = some j → Con T.2.1 T.2.2.1 sb bx n) (hs16 : s < 16) (hn : ¬ I s) :
    ∃ S' bx', xM 53 [.ref (a + 1), .int (nI s)] (pS h a S) = some (none, pS h a S') ∧ RC (insT sb T s) sb bx' S' ∧ (∀ n j, (insT sb T s).2.1 n = some j → Con (insT sb T s).2.1 (insT sb T s).2.2.1 sb bx' n) ∧ KP ALLQ S S' := by
  have hx := lfT_ok sb hI hL s
  obtain ⟨a1, a2, a3, a4⟩ := addT_ok sb hI hL hU hs16 hn hx
  obtain ⟨⟨r, hr, hr16, -⟩, -⟩ := id hI
  have hlen := hU _ _ hx
  have hde := c_desc (h := h) (a := a) hI hL hR hs16 r T.1 0 hr (by omega)
  have hlf : dsc T.2.2.1 bx (sb s) r T.1 = lfT sb T s := by
    unfold lfT
    rw [hr]
    show _ = dsc T.2.2.1 (bxT T.2.1 T.2.2.1 sb) (sb s) r T.1
    exact dsc_congr hI hL (sb s) (g := bx) (g' := bxT T.2.1 T.2.2.1 sb) (fun n k hn => (bxT_eq hI (K := k + 1) (fun m j hm _ => hC m j hm) hn (by omega)).symm) r T.1 hr
  rw [hlf] at hde
  unfold insT
  generalize lfT sb T s = x at *
  obtain ⟨S1, p1, p2, p3, -⟩ := c_append (h := h) (a := a) (Q := ALLQ) hR hx hlen hs16 (fun q => absurd rfl q) (fun _ => ⟨trivial, fun m hm q => hn (hI.2.2.2.2.1 m s hm q).2.1⟩)
  rw [off_0] at p1
  have R2 : RC (addT T x s) sb (va_up bx x (cun (bx x) (ebx T.2.1 sb bx x s))) S1 := by
    refine RC_congr p2 rfl (fun _ => rfl) (fun n j hn => ⟨?_, ?_, rfl⟩)
    · show va_up T.2.2.1 x (T.2.2.1 x ++ [s]) n = va_up T.2.2.1 x (insL (T.2.2.1 x).length s (T.2.2.1 x)) n
      rw [insL_end]
    · show T.2.2.2.1 n = (if 0 = 0 then T.2.2.2.1 else va_up T.2.2.2.1 s (some x)) n
      rw [if_pos rfl]
  obtain ⟨S2, b2, t1, t2, t3, t4⟩ := c_asc (h := h) (a := a) hs (nI s) 17 (S := S1) none none a1 a2 hr hx a3 a4 (by omega) R2 (fun n j hn hna => by
    have hnx : n ≠ x := fun q => hna (by rw [q]; exact AN_self _ x)
    have en1 : (addT T x s).2.2.1 n = T.2.2.1 n := by
      show va_up T.2.2.1 x (T.2.2.1 x ++ [s]) n = _
      rw [up_n _ _ hnx]
    refine Con_gen (rk := T.2.1) (bx := bx) (m := n) (by rw [en1, up_n _ _ hnx]; exact hC n j hn) rfl (fun c hc h0 => up_n _ _ (fun q : c = x => ?_))
    subst q
    rw [en1] at hc
    have hn' : T.2.1 n = some j := hn
    cases j with
    | zero => exact h0 hn'
    | succ j => exact hna ((AN_cons (T := addT T c s) (show T.2.2.2.1 c = some n from (hI.2.2.2.1 n j c hn' hc).2)).mpr (Or.inr (AN_self _ n))))
  refine ⟨S2, b2, ?_, t2, t3, KP_tr p3 t4⟩
  rw [xb53, sl_t0, Option.bind_some, hR.1]
  refine Eq.trans (show _ = _ from hde) ?_
  rw [p1, xcV_some]
  exact t1
end CP
