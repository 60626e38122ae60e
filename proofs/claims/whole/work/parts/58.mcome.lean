/-! The reference's tree: a full node is halved, whole -/
section HX
variable {h : xH} {a : Nat} {S : mS} {f : Nat → Int32} {T : tS} {sb bx : Nat → Int32} {x k : Nat}
theorem fr_spec {I : Nat → Prop} (hI : INVt T I) (hL : LBt T) : freeN T.2.1 < 16 ∧ T.2.1 (freeN T.2.1) = none ∧ ∀ n, n < freeN T.2.1 → T.2.1 n ≠ none := by
  have := used_le hI hL
  exact freeN_spec (fun n k hn => (hI.2.2.1 n k hn).1) (by omega)
theorem no_self {I : Nat → Prop} (hI : INVt T I) {n j : Nat} (hn : T.2.1 n = some j) (hj : j ≠ 0) : n ∉ T.2.2.1 n := fun q => by
  cases j with
  | zero => exact hj rfl
  | succ j =>
    have := (hI.2.2.2.1 n j n hn q).1
    rw [hn] at this
    have := Option.some.inj this
    omega
theorem m_halves {I : Nat → Prop} (hI : INVt T I) (hL : LBt T) (hR : RM T sb bx f) (hE : EN T sb) (hB : BK T.2.1 sb bx) (hx : T.2.1 x = some k) (h5 : (T.2.2.1 x).length = 5) {w : Nat} (hw : w = freeN T.2.1) {m1 m2 : List Nat} (hm : splt (ebx T.2.1 sb bx x) (T.2.2.1 x) = (m1, m2)) :
    ∃ S' f' b', xM 140 [.ref a, .int (nI x)] (pM h a (m0 S f)) = some (some (.int (nI w)), pM h a (m0 S' f')) ∧ SC7 S S' ∧ RM (hvT T x w k m1 m2) sb b' f' ∧ BK (va_up T.2.1 w (some k)) sb b' ∧ b' x = fbx (ebx T.2.1 sb bx x) m1 ∧ b' w = fbx (ebx T.2.1 sb bx x) m2 ∧ (∀ n j, T.2.1 n = some j → n ≠ x → b' n = bx n) ∧ FR f f' := by
  obtain ⟨f1, f2, f3⟩ := fr_spec hI hL
  have hnew := fun S : mS => m_newNode (h := h) (a := a) (S := S) (f := f) hR f1 f2 f3
  rw [← hw] at f1 f2 f3 hnew
  have hxw : x ≠ w := fun q => by rw [q, f2] at hx; cases hx
  have x16 := RM_lt hR hx
  have hnd := (hI.2.2.1 x k hx).2
  have hxe : k ≠ 0 → x ∉ T.2.2.1 x := fun hk => no_self hI hx hk
  have hpa : ∀ e, e ∈ T.2.2.1 x → k ≠ 0 → e < 16 ∧ T.2.2.2.1 e = some x := fun e he hk => by
    cases k with
    | zero => exact absurd rfl hk
    | succ k =>
      have := hI.2.2.2.1 x k e hx he
      exact ⟨(hI.2.2.1 e k this.1).1, this.2⟩
  obtain ⟨n16, r1, r2, r3, r4, r5, r6⟩ := hR.2.2.1 x k hx
  generalize hl : T.2.2.1 x = l at h5 hm hnd
  have hgd : ∀ i, i < 5 → l[i]? = some (l.getD i 0) := fun i hi => by
    rw [List.getD_eq_getElem?_getD, List.getElem?_eq_getElem (by omega)]; rfl
  have hmemD : ∀ i, i < 5 → l.getD i 0 ∈ T.2.2.1 x := fun i hi => by rw [hl]; exact getD_mem (by omega)
  -- the row
  have copy : ∀ (d i : Nat) (g : Nat → Int32), i + d = 5 → (∀ j, j < i → g j = nI (l.getD j 0)) → ∃ g', (∀ j, j < 5 → g' j = nI (l.getD j 0)) ∧ xE 140 2 [some (.ref a), some (.int (nI x)), some (.int (nI i)), none, none, none, none, none] [] (pM h a (m0 (m7 S g) f)) = xE 140 2 [some (.ref a), some (.int (nI x)), some (.int (nI 5)), none, none, none, none, none] [] (pM h a (m0 (m7 S g') f)) := by
    intro d
    induction d with
    | zero =>
      intro i g hi hg
      have hi : i = 5 := by omega
      subst hi
      exact ⟨g, hg, rfl⟩
    | succ d ih =>
      intro i g hi hg
      obtain ⟨g', a1, a2⟩ := ih (i + 1) (upd g i (nI (l.getD i 0))) (by omega) (fun j hj => by
        by_cases e : j = i
        · subst e; rw [pk_us]
        · rw [pk_un e]; exact hg j (by omega))
      refine ⟨g', a1, ?_⟩
      rw [xb140_2, if_pos (show nI i < (5 : Int32) from nI_lt (b := 5) (by omega) (by decide)), ml_f7, Option.bind_some, ml_gu, m_nE h a _ f (by omega) (by omega), xcI_some, r6 i _ (by rw [hl]; exact hgd i (by omega)), m_w7 h a S f g (by omega), Option.bind_some, nI_1]
      exact a2
  obtain ⟨g, hg, hcopy⟩ := copy 5 0 (S.1 7) (by decide) (fun j hj => absurd hj (Nat.not_lt_zero _))
  rw [m7_id] at hcopy
  have hEE : ∀ i, i < 5 → EE T sb x (l.getD i 0) := fun i hi => EE_of hE hx (hmemD i hi)
  have hseed := m_seeds (h := h) (a := a) (S := S) hR hB hx hEE hg rfl
  have hpl := wpf_lt fun i j => cwa (ebx T.2.1 sb bx x (l.getD i 0)) (ebx T.2.1 sb bx x (l.getD j 0))
  generalize hpw : (wpf fun i j => cwa (ebx T.2.1 sb bx x (l.getD i 0)) (ebx T.2.1 sb bx x (l.getD j 0))) = p at hseed hpl
  have hs1 : sfst (ebx T.2.1 sb bx x) l = l.getD p.1 0 := by unfold sfst; rw [hpw]
  have hs2 : ssnd (ebx T.2.1 sb bx x) l = l.getD p.2 0 := by unfold ssnd; rw [hpw]
  obtain ⟨en1, en2, en3⟩ := sp_ends (g := ebx T.2.1 sb bx x) hnd h5
  obtain ⟨o1, o2⟩ := sp_oth (g := ebx T.2.1 sb bx x) hnd
  have o3 := sp_olen (g := ebx T.2.1 sb bx x) hnd h5
  have hso : soth (ebx T.2.1 sb bx x) l = (l.drop 0).filter (fun e => !(e == l.getD p.1 0) && !(e == l.getD p.2 0)) := by
    unfold soth
    rw [hs1, hs2, List.drop_zero]
  have hdiv : nI (5 * p.1 + p.2) / (5 : Int32) = nI p.1 := by
    rw [show (5 : Int32) = nI 5 from rfl, pk_div (by omega) (by decide) (by decide)]
    congr 1
    omega
  have hrem : nI (5 * p.1 + p.2) - nI p.1 * (5 : Int32) = nI p.2 := by
    rw [show (5 : Int32) = nI 5 from rfl, pk_mul, pk_sub (by omega)]
    congr 1
    omega
  -- the new node, x emptied
  have R0 := RM_new (k := k) hR f1 f2
  have hxN : (newT T w k).2.1 x = some k := by
    show va_up T.2.1 w (some k) x = some k
    rw [up_n _ _ hxw]; exact hx
  have R1 := RM_clear R0 hxN
  have R2 : RM (hvT T x w k [] []) sb (va_up bx w 0) (upd (nwf f w (if k = 0 then 1 else 0)) (64 + 10 * x + 2) 0) := by
    refine RM_congr R1 rfl (fun _ => rfl) (fun n j hn => ⟨?_, ?_, rfl⟩)
    · show va_up (va_up T.2.2.1 x []) w [] n = va_up (va_up T.2.2.1 w []) x [] n
      by_cases q1 : n = x
      · subst q1; rw [up_n _ _ hxw, up_s, up_s]
      · rw [up_n _ _ q1]
        by_cases q2 : n = w
        · subst q2; rw [up_s, up_s]
        · rw [up_n _ _ q2, up_n _ _ q2, up_n _ _ q1]
    · show va_up (paS T.2.2.2.1 k w []) w none n = va_up T.2.2.2.1 w none n
      by_cases q2 : n = w
      · subst q2; rw [up_s, up_s]
      · rw [up_n _ _ q2, up_n _ _ q2]
        unfold paS
        rw [if_neg (fun q => absurd q.2 List.not_mem_nil)]
  have hB2 : BK (va_up T.2.1 w (some k)) sb (va_up bx w 0) := ⟨hB.1, fun n j hn => by
    by_cases q : n = w
    · subst q; rw [up_s]; exact Or.inl rfl
    · rw [up_n _ _ q] at hn ⊢; exact hB.2 n j hn⟩
  have hne : ∀ e, e ∈ T.2.2.1 x → k ≠ 0 → e ≠ w := fun e he hk q => by
    obtain ⟨j, hj⟩ := (EE_of hE hx he).2 (fun z => by rw [hx] at z; exact hk (Option.some.inj z))
    rw [q, f2] at hj
    cases hj
  generalize hF : upd (nwf f w (if k = 0 then 1 else 0)) (64 + 10 * x + 2) 0 = F at R2
  have hFR : FR f F := by
    subst hF
    intro i hi
    rw [pk_un (by omega), nwf_o _ _ (by omega)]
  obtain ⟨F1, p1, p2, p3⟩ := m_putx (h := h) (a := a) (S := m7 S g) (e := l.getD p.1 0) R2 hxw hx (by decide) (fun hk => (hpa _ (hmemD _ (by omega)) hk).1) (hne _ (hmemD _ (by omega))) List.not_mem_nil (fun hk => (hpa _ (hmemD _ (by omega)) hk).2)
  obtain ⟨F2, q1, q2, q3⟩ := m_putw (h := h) (a := a) (S := m7 S g) (e := l.getD p.2 0) p2 (by decide) (fun hk => (hpa _ (hmemD _ (by omega)) hk).1) (hne _ (hmemD _ (by omega)))
  have sub1 : ∀ e, e ∈ [] ++ [l.getD p.1 0] → e ∈ T.2.2.1 x := fun e he => by rw [List.mem_singleton.mp he]; exact hmemD _ (by omega)
  have sub2 : ∀ e, e ∈ [] ++ [l.getD p.2 0] → e ∈ T.2.2.1 x := fun e he => by rw [List.mem_singleton.mp he]; exact hmemD _ (by omega)
  obtain ⟨F3, s1, s2, s3, s4, s5⟩ := hv_bx (h := h) (a := a) (S := m7 S g) (bx := bx) q2 hE hB2 hx f2 hxe sub1 sub2 (fun n j hn hnx => up_n _ _ (fun q : n = w => by rw [q, f2] at hn; cases hn)) (Or.inl rfl) (hv_x hxw)
  obtain ⟨F4, t1, t2, t3, t4, t5⟩ := hv_bx (h := h) (a := a) (S := m7 S g) (bx := bx) s2 hE s3 hx f2 hxe sub1 sub2 s4 (Or.inr rfl) hv_w
  obtain ⟨f', b', z1, z2, z3, z4, z5, z6, z7⟩ := hv_loop (h := h) (a := a) (S := S) (bx := bx) hE hx f2 hxe hpa hl h5 hnd hg (p := p) (by omega) (by omega) 5 0 ([] ++ [l.getD p.1 0]) ([] ++ [l.getD p.2 0]) _ F4 none none _ (by decide) hso t2 t3 (by rw [up_n _ _ hxw, up_s]) (up_s _ _ _) t4
    (by
      show (l.getD p.1 0 :: l.getD p.2 0 :: soth (ebx T.2.1 sb bx x) l).Nodup
      rw [← hs1, ← hs2, List.nodup_cons, List.nodup_cons]
      refine ⟨fun q => ?_, fun q => ((o2 _).mp q).2.2 rfl, o1⟩
      rcases List.mem_cons.mp q with q | q
      · exact en3 q
      · exact ((o2 _).mp q).2.1 rfl)
    (fun e he => by have := sub1 e he; rw [hl] at this; exact this) (fun e he => by have := sub2 e he; rw [hl] at this; exact this) (by rw [o3]; rfl) (Nat.le_refl 1) (Nat.le_refl 1) (by rw [o3]; show 2 ≤ 1 + 3; decide) (by rw [o3]; show 2 ≤ 1 + 3; decide)
  have hdst : dst (ebx T.2.1 sb bx x) ([] ++ [l.getD p.1 0]) ([] ++ [l.getD p.2 0]) (soth (ebx T.2.1 sb bx x) l) = (m1, m2) := by
    rw [← hm]
    unfold splt
    rw [hs1, hs2]; rfl
  rw [hdst] at z2 z4 z5
  refine ⟨m7 S g, f', b', ?_, SC7_m7 S g, z2, z3, z4, z5, z6, FR_tr hFR (FR_tr p3 (FR_tr q3 (FR_tr s5 (FR_tr t5 z7))))⟩
  rw [xb140]
  refine Eq.trans (show _ = _ from hcopy) ?_
  have hlen0 : (([] : List Nat).length) = 0 := rfl
  rw [hlen0] at p1 q1
  rw [o3] at z1
  rw [xb140_2, if_neg (show ¬ nI 5 < (5 : Int32) by decide), ml_gu, hseed, xcI_some, ml_gu, m_n1 h a _ f (by omega), xcI_some, r1, ml_gu, hnew, xcI_some, ml_gu, m_t2 h a _ _ (by omega), xcV_some, hF, hdiv, hrem, ml_f7, Option.bind_some, m_r7 h a S F g (by omega), Option.bind_some, hg p.1 (by omega), ml_gu, show (0 : Int32) = nI 0 from rfl, p1, xcV_some, ml_f7, Option.bind_some, m_r7 h a S F1 g (by omega), Option.bind_some, hg p.2 (by omega), ml_gu, q1, xcV_some, ml_gu, s1, xcV_some, ml_gu, t1, xcV_some]
  exact z1
end HX
