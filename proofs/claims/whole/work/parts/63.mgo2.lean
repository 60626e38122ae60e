/-! The reference's tree: nodes with too few entries go -/
theorem pre_congr {en en' : Nat → List Nat} : ∀ {k n : Nat}, (∀ m, m ∈ preR en k n → en' m = en m) → preR en' k n = preR en k n ∧ shR en' k n = shR en k n
  | 0, n, hh => ⟨rfl, hh n (pre_self en 0 n)⟩
  | k + 1, n, hh => by
    have h0 := hh n (pre_self en (k + 1) n)
    have hc : ∀ c, c ∈ en n → preR en' k c = preR en k c ∧ shR en' k c = shR en k c := fun c hc => pre_congr fun m hm => hh m (List.mem_cons_of_mem _ (List.mem_flatMap.mpr ⟨c, hc, hm⟩))
    constructor
    · show n :: (en' n).flatMap (preR en' k) = n :: (en n).flatMap (preR en k)
      rw [h0, fm_congr fun c hcc => (hc c hcc).1]
    · show (en' n).flatMap (shR en' k) = (en n).flatMap (shR en k)
      rw [h0, fm_congr fun c hcc => (hc c hcc).2]
theorem dis_ok {T : tS} {nt : List Nat} {x k r p : Nat} {I : Nat → Prop} (hI : INVt T I) (hd : ∀ t, t ∈ nt → ¬ I t) (hn : nt.Nodup) (hL : LBx T x) (hU : UBt T 4) (hr : T.2.1 T.1 = some r) (hx : T.2.1 x = some k) (hp : T.2.2.2.1 x = some p) :
    INVt (disT T x p k) (fun t => I t ∧ t ∉ shR T.2.2.1 k x) ∧ (nt ++ shR T.2.2.1 k x).Nodup ∧ (∀ t, t ∈ nt ++ shR T.2.2.1 k x → ¬ (I t ∧ t ∉ shR T.2.2.1 k x)) ∧ LBx (disT T x p k) p ∧ UBt (disT T x p k) 4 ∧ (disT T x p k).2.1 T.1 = some r ∧ (disT T x p k).2.1 p = some (k + 1) ∧ k + 1 ≤ r ∧ T.2.1 p = some (k + 1) ∧ x ∈ T.2.2.1 p ∧ p ≠ x ∧ p ∉ preR T.2.2.1 k x := by
  have hxr : x ≠ T.1 := fun q => by rw [q, hI.2.1] at hp; cases hp
  obtain ⟨a', pa1, rka, hxa⟩ := hI.2.2.2.2.2.1 x k hx hxr
  rw [hp] at pa1
  cases pa1
  have hax : p ≠ x := fun q => by rw [q, hx] at rka; have := Option.some.inj rka; omega
  have hka : k + 1 ≤ r := by
    obtain ⟨⟨r', hr', -, hrk⟩, -⟩ := id hI
    rw [hr] at hr'
    cases hr'
    exact (hrk p _ rka).1
  have ha2 : 2 ≤ (T.2.2.1 p).length := by
    rcases hL.1 p _ rka hax with q | ⟨-, q⟩
    · exact q
    · omega
  have hout : ∀ n j, T.2.1 n = some j → k < j → n ∉ preR T.2.2.1 k x := fun n j hn hj q => by
    obtain ⟨j', j1, j2, -⟩ := pre_rk hI hx q
    rw [hn] at j1
    cases j1
    omega
  have rk_o : ∀ n, n ∉ preR T.2.2.1 k x → (disT T x p k).2.1 n = T.2.1 n := fun n q => if_neg q
  have rk_i : ∀ n j, (disT T x p k).2.1 n = some j → T.2.1 n = some j ∧ n ∉ preR T.2.2.1 k x := fun n j h => by
    by_cases e : n ∈ preR T.2.2.1 k x
    · have h' : (if n ∈ preR T.2.2.1 k x then none else T.2.1 n) = some j := h
      rw [if_pos e] at h'
      cases h'
    · rw [rk_o n e] at h; exact ⟨h, e⟩
  have en_a : (disT T x p k).2.2.1 p = (T.2.2.1 p).erase x := up_s _ _ _
  have en_o : ∀ n, n ≠ p → (disT T x p k).2.2.1 n = T.2.2.1 n := fun n q => up_n _ _ q
  have h1 : INVt (disT T x p k) (fun t => I t ∧ t ∉ shR T.2.2.1 k x) := INVt_congr (INV_diss hI hx hp) fun t => by
    constructor
    · exact fun h => ⟨h.1, fun q => h.2 ((sh_sp hI hx).mp q).2⟩
    · exact fun h => ⟨h.1, fun q => h.2 ((sh_sp hI hx).mpr ⟨h.1, q⟩)⟩
  refine ⟨h1, ?_, fun t ht q => ?_, ⟨fun n j hj hne => ?_, fun j hj => ?_⟩, fun n j hj => ?_, ?_, ?_, hka, rka, hxa, hax, hout p _ rka (by omega)⟩
  · rw [List.nodup_append]
    refine ⟨hn, sh_nd hI hx, fun t ht u hu e => ?_⟩
    subst e
    exact hd t ht ((sh_sp hI hx).mp hu).1
  · rcases List.mem_append.mp ht with ht | ht
    · exact hd t ht q.1
    · exact q.2 ht
  · obtain ⟨hj1, hj2⟩ := rk_i n j hj
    rw [en_o n hne]
    have hnx : n ≠ x := fun q => hj2 (by rw [q]; exact pre_self _ k x)
    exact hL.1 n j hj1 hnx
  · rw [en_a]
    have := er_len hxa
    omega
  · obtain ⟨hj1, -⟩ := rk_i n j hj
    show ((disT T x p k).2.2.1 n).length ≤ 4
    by_cases e : n = p
    · rw [e, en_a]; have := er_len hxa; have := hU p _ rka; omega
    · rw [en_o n e]; exact hU n j hj1
  · rw [rk_o _ (hout _ _ hr (by omega))]; exact hr
  · rw [rk_o _ (hout _ _ rka (by omega))]; exact rka
section MC
variable {h : xH} {a : Nat} {sb : Nat → Int32}
theorem m_climb (l1 : Int32) : ∀ (d : Nat) {S : mS} {T : tS} {f bx : Nat → Int32} {nt : List Nat} {x k r : Nat} {I : Nat → Prop} (l3 : Option Value), INVt T I → (∀ t, t ∈ nt → ¬ I t) → (∀ t, t ∈ nt → t < 16) → nt.Nodup → LBx T x → UBt T 4 → T.2.1 T.1 = some r → T.2.1 x = some k → r - k < d → RM T sb bx f → BK T.2.1 sb bx → (∀ n j, T.2.1 n = some j → Con T.2.1 T.2.2.1 sb bx n) → (∀ t, I t → sb t ≠ 0) → HL (S.1 15) nt → S.2.1 16 = nI nt.length →
    ∃ S' f' bx' l2' l3', xE 146 22 [some (.ref a), some (.int l1), some (.int (nI x)), l3, none] [] (pM h a (m0 S f)) = xE 146 72 [some (.ref a), some (.int l1), some (.int l2'), l3', none] [] (pM h a (m0 S' f')) ∧ SC S S' ∧ RM (climbT d T nt x).1 sb bx' f' ∧ BK (climbT d T nt x).1.2.1 sb bx' ∧ (∀ n j, (climbT d T nt x).1.2.1 n = some j → Con (climbT d T nt x).1.2.1 (climbT d T nt x).1.2.2.1 sb bx' n) ∧ HL (S'.1 15) (climbT d T nt x).2 ∧ S'.2.1 16 = nI (climbT d T nt x).2.length ∧ FR f f' := by
  intro d
  induction d with
  | zero => exact fun _ _ _ _ _ _ _ _ _ hd => absurd hd (Nat.not_lt_zero _)
  | succ d ih =>
    intro S T f bx nt x k r I l3 hI hd h16 hnd hL hU hr hx hdk hR hB hC hs hn15 hn16
    have hE := EN_of hI hs
    obtain ⟨x16, -, r2, r3, -, r5, -⟩ := hR.2.2.1 x k hx
    have rt16 := (hI.2.2.1 _ _ hr).1
    unfold climbT
    rw [xb146_22, ml_f0, Option.bind_some, show (304 : Int32) = nI 304 from rfl, m_r0 h a S f (by decide), Option.bind_some, hR.1]
    cases hp : T.2.2.2.1 x with
    | none =>
      dsimp only
      have hxr : x = T.1 := Classical.byContradiction fun q => by
        obtain ⟨a', pa1, -⟩ := hI.2.2.2.2.2.1 x k hx q
        rw [hp] at pa1
        cases pa1
      refine ⟨S, f, bx, nI x, l3, ?_, SC_rf S, hR, hB, hC, hn15, hn16, FR_rf f⟩
      rw [if_pos (by rw [hxr])]
    | some p =>
      dsimp only
      rw [show (T.2.1 x).getD 0 = k by rw [hx]; rfl]
      have hxr : x ≠ T.1 := fun q => by rw [q, hI.2.1] at hp; cases hp
      rw [hp] at r3
      rw [if_neg (fun q => hxr (nI_inj (by omega) (by omega) q)), ml_gu, m_n3 h a S f (by omega), xcI_some, r3, show paI (some p) = nI p from rfl, ml_gu, m_n2 h a S f (by omega), xcI_some, r2]
      obtain ⟨d1, d2, d3, d4, d5, d6, d7, d8, rkp, hxp, hpx, hpp⟩ := dis_ok hI hd hnd hL hU hr hx hp
      by_cases hc : (T.2.2.1 x).length < 2
      · rw [if_pos (show nI (T.2.2.1 x).length < (2 : Int32) from nI_lt (b := 2) hc (by decide)), if_pos hc]
        obtain ⟨F1, t1, t2, t3⟩ := m_takesOut (h := h) (a := a) (S := S) hR rkp (fun c hc => by
          have := (hI.2.2.1 c k (hI.2.2.2.1 p k c rkp hc).1).1
          omega) hxp
        have hpc := pre_congr (en := T.2.2.1) (en' := (outT T p x).2.2.1) (k := k) (n := x) (fun m hm => by
          show va_up T.2.2.1 p _ m = _
          rw [up_n _ _ (fun q : m = p => hpp (q ▸ hm))])
        have hul : (used T.2.1).length ≤ 16 := by
          have := nd_len (used_nd T.2.1) (l2 := List.range 16) (fun x hx => (List.mem_filter.mp hx).1)
          rw [List.length_range] at this
          exact this
        have hpl := pre_len hI hx
        have hns : (nt ++ shR T.2.2.1 k x).length ≤ 16 := by
          have := nd_len d2 (l2 := List.range 16) (fun t ht => List.mem_range.mpr (by
            rcases List.mem_append.mp ht with q | q
            · exact h16 t q
            · obtain ⟨m, m1, m2, m3⟩ := (sh_iff hI hx).mp q
              exact (hI.2.2.2.2.1 m t m2 m3).1))
          rw [List.length_range] at this
          exact this
        rw [List.length_append] at hns
        obtain ⟨S2, F2, g1, g2, g3, g4, g5, g6⟩ := m_givesUp (h := h) (a := a) (S := S) (T := outT T p x) (n := x) (k := k) (nt := nt) (fun n k c hn hc => by
          have hc' : c ∈ va_up T.2.2.1 p ((T.2.2.1 p).erase x) n := hc
          by_cases e : n = p
          · subst e
            rw [up_s] at hc'
            exact (hI.2.2.2.1 n k c hn (List.mem_of_mem_erase hc')).1
          · rw [up_n _ _ e] at hc'
            exact (hI.2.2.2.1 n k c hn hc').1) t2 hx (by rw [hpc.1]; omega) (fun m hm => by
          rw [hpc.1] at hm
          obtain ⟨j, hj, -⟩ := pre_rk hI hx hm
          exact (hI.2.2.1 m j hj).1) hn15 hn16 (by rw [hpc.2]; omega)
        rw [hpc.2] at g3 g4
        rw [hpc.1] at g5
        have R3 : RM (disT T x p k) sb bx F2 := g5
        have hrk : ∀ n j, (disT T x p k).2.1 n = some j → T.2.1 n = some j := fun n j hn => by
          have h' : (if n ∈ preR T.2.2.1 k x then none else T.2.1 n) = some j := hn
          by_cases e : n ∈ preR T.2.2.1 k x
          · rw [if_pos e] at h'; cases h'
          · rw [if_neg e] at h'; exact h'
        have hB3 : BK (disT T x p k).2.1 sb bx := ⟨hB.1, fun n j hn => hB.2 n j (hrk n j hn)⟩
        have hC3 : ∀ n j, (disT T x p k).2.1 n = some j → n ≠ p → Con (disT T x p k).2.1 (disT T x p k).2.2.1 sb bx n := fun n j hn hnp => by
          have en1 : (disT T x p k).2.2.1 n = T.2.2.1 n := up_n _ _ hnp
          exact Con_gen (rk := T.2.1) (bx := bx) (m := n) (by rw [en1]; exact hC n j (hrk n j hn)) (by rw [hn, hrk n j hn]) (fun _ _ _ => rfl)
        have hE3 : EN (disT T x p k) sb := EN_of d1 (fun t ht => hs t ht.1)
        obtain ⟨F3, b3, u1, u2, u3, u4, u5⟩ := m_boxesUp (h := h) (a := a) (S := S2) d1 hE3 (r := r) d6 17 (nI p) R3 hB3 d7 hC3 (by
          obtain ⟨⟨r', hr', r16, -⟩, -⟩ := id hI
          rw [hr] at hr'
          cases hr'
          omega)
        obtain ⟨S4, F4, b4, l2', l3', v1, v2, v3, v4, v5, v6, v7, v8⟩ := ih (S := S2) (some (.int (nI p))) d1 d3 (fun t ht => by
            rcases List.mem_append.mp ht with q | q
            · exact h16 t q
            · obtain ⟨m, m1, m2, m3⟩ := (sh_iff hI hx).mp q
              exact (hI.2.2.2.2.1 m t m2 m3).1) d2 d4 d5 d6 d7 (by omega) u2 u3 u4 (fun t ht => hs t ht.1) g3 g4
        refine ⟨S4, F4, b4, l2', l3', ?_, SC_tr g2 v2, v3, v4, v5, v6, v7, FR_tr t3 (FR_tr g6 (FR_tr u5 v8))⟩
        rw [ml_gu, t1, xcV_some, ml_gu, g1, xcV_some, ml_gu, xb131, u1, xcV_some]
        exact v1
      · rw [if_neg (show ¬ nI (T.2.2.1 x).length < (2 : Int32) from nI_nlt (b := 2) (by omega) (by omega)), if_neg hc]
        obtain ⟨S4, F4, b4, l2', l3', v1, v2⟩ := ih (S := S) (some (.int (nI p))) hI hd h16 hnd ⟨fun n j hj hne => by
            by_cases e : n = x
            · rw [e]; exact Or.inl (by omega)
            · exact hL.1 n j hj e, fun j hj => by
            rcases hL.1 p _ rkp hpx with q | ⟨-, q⟩
            · omega
            · omega⟩ hU hr rkp (by omega) hR hB hC hs hn15 hn16
        exact ⟨S4, F4, b4, l2', l3', v1, v2⟩
end MC
