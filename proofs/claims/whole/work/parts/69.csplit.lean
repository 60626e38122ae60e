/-! The class's tree: a full node is split -/
theorem off_inj {k e f : Nat} (q : off k e = off k f) : e = f := by
  unfold off at q
  by_cases hk : k = 0
  · rw [if_pos hk, if_pos hk] at q; exact q
  · rw [if_neg hk, if_neg hk] at q; omega
theorem fbx_snoc (g : Nat → Int32) (l : List Nat) (e : Nat) : fbx g (l ++ [e]) = cun (fbx g l) (g e) := by
  unfold fbx
  rw [List.foldl_append, List.foldl_cons, List.foldl_nil]
def ALLQ : Nat → Prop := fun _ => True
section CS
variable {h : xH} {a : Nat} {S : sS} {T : tS} {sb bx b : Nat → Int32} {x w k : Nat} {l1 l2 : List Nat}
theorem RC_rows {S' : sS} (hR : RC T sb bx S) (h1 : ∀ j, j < 5 → S'.1 j = S.1 j) (h2 : S'.2 0 = S.2 0) : RC T sb bx S' := by
  unfold RC
  rw [h1 0 (by decide), h1 1 (by decide), h1 2 (by decide), h1 3 (by decide), h1 4 (by decide), h2]
  exact hR
theorem KP_hi (Q : Nat → Prop) (S : sS) (g : Nat → Int32) : KP Q S (sB S 5 g) := ⟨fun j hj => sB_n _ _ (by omega), fun s _ => by rw [sB_n _ _ (by decide)], rfl, rfl, fun s _ _ => by rw [sB_n _ _ (by decide)]⟩
theorem hv_tx (hxw : x ≠ w) {e : Nat} (hew : k ≠ 0 → e ≠ w) (hel : e ∉ l2) (hpe : k ≠ 0 → T.2.2.2.1 e = some x) (n : Nat) : (hvT T x w k (l1 ++ [e]) l2).2.2.1 n = (insT0 (hvT T x w k l1 l2) x l1.length e k).2.2.1 n ∧ (hvT T x w k (l1 ++ [e]) l2).2.2.2.1 n = (insT0 (hvT T x w k l1 l2) x l1.length e k).2.2.2.1 n := by
  constructor
  · show va_up (va_up T.2.2.1 x (l1 ++ [e])) w l2 n = va_up (va_up (va_up T.2.2.1 x l1) w l2) x (insL l1.length e ((hvT T x w k l1 l2).2.2.1 x)) n
    rw [hv_x hxw, insL_end]
    by_cases q1 : n = x
    · subst q1; rw [up_n _ _ hxw, up_s, up_s]
    · rw [up_n _ _ q1]
      by_cases q2 : n = w
      · subst q2; rw [up_s, up_s]
      · rw [up_n _ _ q2, up_n _ _ q2, up_n _ _ q1, up_n _ _ q1]
  · show va_up (paS T.2.2.2.1 k w l2) w none n = (if k = 0 then va_up (paS T.2.2.2.1 k w l2) w none else va_up (va_up (paS T.2.2.2.1 k w l2) w none) e (some x)) n
    by_cases hk : k = 0
    · rw [if_pos hk]
    · rw [if_neg hk]
      by_cases hne : n = e
      · subst hne
        rw [up_s, up_n _ _ (hew hk)]
        unfold paS
        rw [if_neg (fun q => hel q.2)]
        exact hpe hk
      · rw [up_n _ _ hne]
theorem hv_tw {e : Nat} (hew : k ≠ 0 → e ≠ w) (n : Nat) : (hvT T x w k l1 (l2 ++ [e])).2.2.1 n = (insT0 (hvT T x w k l1 l2) w l2.length e k).2.2.1 n ∧ (hvT T x w k l1 (l2 ++ [e])).2.2.2.1 n = (insT0 (hvT T x w k l1 l2) w l2.length e k).2.2.2.1 n := by
  constructor
  · show va_up (va_up T.2.2.1 x l1) w (l2 ++ [e]) n = va_up (va_up (va_up T.2.2.1 x l1) w l2) w (insL l2.length e ((hvT T x w k l1 l2).2.2.1 w)) n
    rw [hv_w, insL_end, bx_uu]
  · show va_up (paS T.2.2.2.1 k w (l2 ++ [e])) w none n = (if k = 0 then va_up (paS T.2.2.2.1 k w l2) w none else va_up (va_up (paS T.2.2.2.1 k w l2) w none) e (some w)) n
    by_cases hk : k = 0
    · rw [if_pos hk]
      by_cases q2 : n = w
      · subst q2; rw [up_s, up_s]
      · rw [up_n _ _ q2, up_n _ _ q2]
        unfold paS
        rw [if_neg (fun q => q.1 hk), if_neg (fun q => q.1 hk)]
    · rw [if_neg hk]
      by_cases hne : n = e
      · subst hne
        rw [up_s, up_n _ _ (hew hk)]
        unfold paS
        rw [if_pos ⟨hk, List.mem_append_right _ (List.mem_singleton.mpr rfl)⟩]
      · rw [up_n _ _ hne]
        by_cases q2 : n = w
        · subst q2; rw [up_s, up_s]
        · rw [up_n _ _ q2, up_n _ _ q2]
          unfold paS
          by_cases hm : n ∈ l2
          · rw [if_pos ⟨hk, List.mem_append_left _ hm⟩, if_pos ⟨hk, hm⟩]
          · rw [if_neg (fun q => (List.mem_append.mp q.2).elim hm (fun z => hne (List.mem_singleton.mp z))), if_neg (fun q => hm q.2)]
/-- what a node that is to be split is -/
def HX (T : tS) (x w k : Nat) : Prop := T.2.1 x = some k ∧ T.2.1 w = none ∧ (∀ e, e ∈ T.2.2.1 x → e < 16) ∧ (k ≠ 0 → ∀ e, e ∈ T.2.2.1 x → (∃ j, T.2.1 e = some j) ∧ e ≠ x ∧ T.2.2.2.1 e = some x) ∧ (k = 0 → ∀ e, e ∈ T.2.2.1 x → ∀ m, T.2.1 m = some 0 → m ≠ x → e ∉ T.2.2.1 m)
theorem HX_of {I : Nat → Prop} (hI : INVt T I) (hx : T.2.1 x = some k) (hw : T.2.1 w = none) : HX T x w k := by
  refine ⟨hx, hw, fun e he => ?_, fun hk e he => ?_, fun hk e he m hm hne q => ?_⟩
  · cases k with
    | zero => exact (hI.2.2.2.2.1 x e hx he).1
    | succ k => exact (hI.2.2.1 e k (hI.2.2.2.1 x k e hx he).1).1
  · cases k with
    | zero => exact absurd rfl hk
    | succ k =>
      have := hI.2.2.2.1 x k e hx he
      exact ⟨⟨k, this.1⟩, fun q => no_self hI hx hk (q ▸ he), this.2⟩
  · subst hk
    have e1 := (hI.2.2.2.2.1 x e hx he).2.2
    have e2 := (hI.2.2.2.2.1 m e hm q).2.2
    exact hne (e2.symm.trans e1)
theorem HX_ne (hX : HX T x w k) : x ≠ w := fun q => by
  have := hX.1
  rw [q, hX.2.1] at this
  cases this
theorem HX_ew (hX : HX T x w k) {e : Nat} (he : e ∈ T.2.2.1 x) : k ≠ 0 → e ≠ w := fun hk q => by
  obtain ⟨⟨j, hj⟩, -⟩ := hX.2.2.2.1 hk e he
  rw [q, hX.2.1] at hj
  cases hj
theorem HX_app (hX : HX T x w k) {y : Nat} (hy : y = x ∨ y = w) {e : Nat} (he : e ∈ T.2.2.1 x) (e1 : e ∉ l1) (e2 : e ∉ l2) : (k ≠ 0 → (∃ j, (hvT T x w k l1 l2).2.1 e = some j) ∧ e ≠ y) ∧ (k = 0 → ALLQ e ∧ ∀ m, (hvT T x w k l1 l2).2.1 m = some 0 → e ∉ (hvT T x w k l1 l2).2.2.1 m) := by
  have hxw := HX_ne hX
  refine ⟨fun hk => ?_, fun hk => ⟨trivial, fun m hm => ?_⟩⟩
  · obtain ⟨⟨j, hj⟩, z1, -⟩ := hX.2.2.2.1 hk e he
    have z2 := HX_ew hX he hk
    refine ⟨⟨j, (hv_ro z2).trans hj⟩, ?_⟩
    rcases hy with q | q
    · rw [q]; exact z1
    · rw [q]; exact z2
  · by_cases q1 : m = x
    · rw [q1, hv_x hxw]; exact e1
    · by_cases q2 : m = w
      · rw [q2, hv_w]; exact e2
      · rw [hv_o q1 q2]
        exact hX.2.2.2.2 hk e he m ((hv_ro q2).symm.trans hm) q1
theorem c_putx (hX : HX T x w k) (hR : RC (hvT T x w k l1 l2) sb b S) (len : l1.length ≤ 4) {e : Nat} (he : e ∈ T.2.2.1 x) (e1 : e ∉ l1) (e2 : e ∉ l2) : ∃ S', xM 61 [.ref (a + 1), .int (nI (16 + x)), .int (nI (off k e))] (pS h a S) = some (none, pS h a S') ∧ RC (hvT T x w k (l1 ++ [e]) l2) sb (va_up b x (cun (b x) (ebx (hvT T x w k l1 l2).2.1 sb b x e))) S' ∧ KP ALLQ S S' ∧ S'.1 5 = S.1 5 := by
  have hxw := HX_ne hX
  have hx' : (hvT T x w k l1 l2).2.1 x = some k := (hv_ro hxw).trans hX.1
  obtain ⟨z1, z2⟩ := HX_app (l1 := l1) (l2 := l2) hX (Or.inl rfl) he e1 e2
  obtain ⟨S', q1, q2, q3⟩ := c_append (h := h) (a := a) (Q := ALLQ) hR hx' (by rw [hv_x hxw]; exact len) (hX.2.2.1 e he) z1 z2
  rw [hv_x hxw] at q2
  exact ⟨S', q1, RC_congr q2 rfl (fun _ => rfl) (fun n j hn => ⟨(hv_tx hxw (HX_ew hX he) e2 (fun hk => (hX.2.2.2.1 hk e he).2.2) n).1, (hv_tx hxw (HX_ew hX he) e2 (fun hk => (hX.2.2.2.1 hk e he).2.2) n).2, rfl⟩), q3⟩
theorem c_putw (hX : HX T x w k) (hR : RC (hvT T x w k l1 l2) sb b S) (len : l2.length ≤ 4) {e : Nat} (he : e ∈ T.2.2.1 x) (e1 : e ∉ l1) (e2 : e ∉ l2) : ∃ S', xM 61 [.ref (a + 1), .int (nI (16 + w)), .int (nI (off k e))] (pS h a S) = some (none, pS h a S') ∧ RC (hvT T x w k l1 (l2 ++ [e])) sb (va_up b w (cun (b w) (ebx (hvT T x w k l1 l2).2.1 sb b w e))) S' ∧ KP ALLQ S S' ∧ S'.1 5 = S.1 5 := by
  obtain ⟨z1, z2⟩ := HX_app (l1 := l1) (l2 := l2) hX (Or.inr rfl) he e1 e2
  obtain ⟨S', q1, q2, q3⟩ := c_append (h := h) (a := a) (Q := ALLQ) hR hv_rw (by rw [hv_w]; exact len) (hX.2.2.1 e he) z1 z2
  rw [hv_w] at q2
  exact ⟨S', q1, RC_congr q2 rfl (fun _ => rfl) (fun n j hn => ⟨(hv_tw (HX_ew hX he) n).1, (hv_tw (HX_ew hX he) n).2, rfl⟩), q3⟩
theorem RC_empty (hR : RC T sb bx S) (hx : T.2.1 x = some k) : RC (T.1, T.2.1, va_up T.2.2.1 x [], T.2.2.2) sb (va_up bx x 0) (sB (sB S 3 (upd (S.1 3) (16 + x) 0)) 0 (upd (S.1 0) (16 + x) 0)) := by
  have x16 := RC_lt hR hx
  obtain ⟨t1, t2, t3, t4⟩ := hR
  refine ⟨t1, fun m hm => by rw [sB_n _ _ (by decide), sB_n _ _ (by decide)]; exact t2 m hm, fun m j hm => ?_, fun s hs => by rw [sB_s, pk_un (by omega)]; exact t4 s hs⟩
  obtain ⟨q0, q00, q2, q3, q4, q5, q6⟩ := t3 m j hm
  rw [sB_s, sB_n _ _ (show (1 : Nat) ≠ 0 by decide), sB_n _ _ (show (1 : Nat) ≠ 3 by decide), sB_n _ _ (show (3 : Nat) ≠ 0 by decide), sB_s, sB_n _ _ (show (4 : Nat) ≠ 0 by decide), sB_n _ _ (show (4 : Nat) ≠ 3 by decide)]
  by_cases e : m = x
  · subst e
    have e0 : va_up T.2.2.1 m [] m = [] := up_s _ _ _
    refine ⟨q0, q00, ?_, q3, by rw [pk_us, up_s], ?_, fun i y hy => ?_⟩
    · show _ = nI (va_up T.2.2.1 m [] m).length
      rw [e0, pk_us]; rfl
    · show (va_up T.2.2.1 m [] m).length ≤ 5
      rw [e0]; decide
    · have hy' : (va_up T.2.2.1 m [] m)[i]? = some y := hy
      rw [e0] at hy'
      cases hy'
  · have e0 : va_up T.2.2.1 x [] m = T.2.2.1 m := up_n _ _ e
    refine ⟨q0, q00, ?_, q3, by rw [pk_un (by omega), up_n _ _ e]; exact q4, ?_, fun i y hy => ?_⟩
    · show _ = nI (va_up T.2.2.1 x [] m).length
      rw [e0, pk_un (by omega)]; exact q2
    · show (va_up T.2.2.1 x [] m).length ≤ 5
      rw [e0]; exact q5
    · have hy' : (va_up T.2.2.1 x [] m)[i]? = some y := hy
      rw [e0] at hy'
      exact q6 i y hy'
theorem KP_e (Q : Nat → Prop) (S : sS) : KP Q S (sB (sB S 3 (upd (S.1 3) (16 + x) 0)) 0 (upd (S.1 0) (16 + x) 0)) := ⟨fun j hj => by rw [sB_n _ _ (by omega), sB_n _ _ (by omega)], fun s hs => by rw [sB_s, pk_un (by omega)], rfl, rfl, fun s _ _ => by rw [sB_n _ _ (by decide), sB_n _ _ (by decide)]⟩
/-- the others are put aside -/
theorem c_seedL {l : List Nat} {f s : Nat} (hR : RC T sb bx S) (hx : T.2.1 x = some k) (hl : T.2.2.1 x = l) (h5 : l.length = 5) (l2' l3' : Int32) (hf : f < 16) (hs : s < 16) {oth : List Nat} (ho : oth.length = 3) : ∀ (d i : Nat) (o : List Nat) (g5 : Nat → Int32) (l8 : Option Value), i + d = 5 → o ++ (l.drop i).filter (fun e => !(e == f) && !(e == s)) = oth → HL g5 (o.map (off k)) → ∃ g5' l8', xE 67 34 [some (.ref (a + 1)), some (.int (nI (16 + x))), some (.int l2'), some (.int l3'), some (.int (nI (off k f))), some (.int (nI (off k s))), some (.int (nI o.length)), some (.int (nI i)), l8] [] (pS h a (sB S 5 g5)) = xE 67 34 [some (.ref (a + 1)), some (.int (nI (16 + x))), some (.int l2'), some (.int l3'), some (.int (nI (off k f))), some (.int (nI (off k s))), some (.int (nI 3)), some (.int (nI 5)), l8'] [] (pS h a (sB S 5 g5')) ∧ HL g5' (oth.map (off k)) := by
  obtain ⟨n16, k16, r2, r3, r4, r5, r6⟩ := hR.2.2.1 x _ hx
  intro d
  induction d with
  | zero =>
    intro i o g5 l8 hi hoo hg
    have hi : i = 5 := by omega
    subst hi
    rw [List.drop_eq_nil_of_le (by omega), List.filter_nil, List.append_nil] at hoo
    subst hoo
    rw [ho]
    exact ⟨g5, l8, rfl, hg⟩
  | succ d ih =>
    intro i o g5 l8 hi hoo hg
    have hlt : i < l.length := by omega
    obtain ⟨y1, y2, -⟩ := r6 i l[i] (by rw [hl]; exact List.getElem?_eq_getElem hlt)
    have hrd : xri (pS h a (sB S 5 g5)) 0 (a + 6) (nI (5 * x + i)) = some (nI (off k l[i])) := by
      rw [c_r4 h a _ (by omega), sB_n _ _ (by decide), y2]
    rw [List.drop_eq_getElem_cons hlt] at hoo
    generalize l[i] = e at y1 y2 hrd hoo
    have he := off_lt (k := k) y1
    have hf' := off_lt (k := k) hf
    have hs' := off_lt (k := k) hs
    rw [xb67_34, if_pos (show nI i < (5 : Int32) from nI_lt (b := 5) (by omega) (by decide)), sl_t5, Option.bind_some, c_place, xcI_some, hrd, Option.bind_some, nI_1]
    by_cases c1 : e = f
    · rw [List.filter_cons, if_neg (by rw [c1]; simp)] at hoo
      rw [if_pos (by rw [c1])]
      exact ih (i + 1) o g5 _ (by omega) hoo hg
    · rw [if_neg (fun q => c1 (off_inj (nI_inj (by omega) (by omega) q)))]
      by_cases c2 : e = s
      · rw [List.filter_cons, if_neg (by rw [c2]; simp)] at hoo
        rw [if_pos (by rw [c2])]
        exact ih (i + 1) o g5 _ (by omega) hoo hg
      · rw [if_neg (fun q => c2 (off_inj (nI_inj (by omega) (by omega) q)))]
        rw [List.filter_cons, if_pos (show (!(e == f) && !(e == s)) = true by rw [beq_false_of_ne c1, beq_false_of_ne c2]; rfl)] at hoo
        have hol : o.length < 3 := by
          have := congrArg List.length hoo
          rw [List.length_append, List.length_cons, ho] at this
          omega
        rw [if_pos (show nI o.length < (3 : Int32) from nI_lt (b := 3) hol (by decide)), sl_t6, Option.bind_some, c_w5 h a _ hol, Option.bind_some, nI_1, sB_s]
        have hg' := HL_snoc hg (off k e)
        rw [List.length_map] at hg'
        obtain ⟨g5', l8', z1, z2⟩ := ih (i + 1) (o ++ [e]) (upd g5 o.length (nI (off k e))) (some (.int (nI (off k e)))) (by omega) (by rw [List.append_assoc]; exact hoo) (by rw [List.map_append]; exact hg')
        refine ⟨g5', l8', ?_, z2⟩
        rw [List.length_append, List.length_singleton] at z1
        rw [← z1]
        congr 2
        unfold sB
        rw [bx_uu]
theorem c_seed {l : List Nat} {p : Nat × Nat} {oth : List Nat} (hX : HX T x w k) (hR : RC (newT T w k) sb (va_up bx w 0) S) (hE : EN T sb) (hl : T.2.2.1 x = l) (h5 : l.length = 5) (hnd : l.Nodup) (hp1 : p.1 < p.2) (hp2 : p.2 < 5) (hot : oth = l.filter fun e => !(e == l.getD p.1 0) && !(e == l.getD p.2 0)) (ho : oth.length = 3) :
    ∃ S' b', xM 67 [.ref (a + 1), .int (nI (16 + x)), .int (nI (16 + w)), .int (nI (5 * p.1 + p.2))] (pS h a S) = some (none, pS h a S') ∧ RC (hvT T x w k [l.getD p.1 0] [l.getD p.2 0]) sb b' S' ∧ b' x = fbx (ebx T.2.1 sb bx x) [l.getD p.1 0] ∧ b' w = fbx (ebx T.2.1 sb bx x) [l.getD p.2 0] ∧ (∀ n j, T.2.1 n = some j → n ≠ x → b' n = bx n) ∧ HL (S'.1 5) (oth.map (off k)) ∧ KP ALLQ S S' := by
  have hxw := HX_ne hX
  have hxN : (newT T w k).2.1 x = some k := by
    show va_up T.2.1 w (some k) x = some k
    rw [up_n _ _ hxw]; exact hX.1
  have hlN : (newT T w k).2.2.1 x = l := by
    show va_up T.2.2.1 w [] x = l
    rw [up_n _ _ hxw]; exact hl
  obtain ⟨x16, k16, r2, r3, r4, r5, r6⟩ := hR.2.2.1 x _ hxN
  have hgd : ∀ i, i < 5 → l[i]? = some (l.getD i 0) := fun i hi => by
    rw [List.getD_eq_getElem?_getD, List.getElem?_eq_getElem (by omega)]; rfl
  have hmem : ∀ i, i < 5 → l.getD i 0 ∈ T.2.2.1 x := fun i hi => by rw [hl]; exact List.mem_of_getElem? (hgd i hi)
  have hrd : ∀ i, i < 5 → xri (pS h a S) 0 (a + 6) (nI (5 * x + i)) = some (nI (off k (l.getD i 0))) := fun i hi => by
    rw [c_r4 h a S (by omega), (r6 i _ (by rw [hlN]; exact hgd i hi)).2.1]
  have hfs : l.getD p.1 0 ≠ l.getD p.2 0 := fun q => by
    have := nd_getD hnd (by omega) (by omega) q
    omega
  have hdiv : nI (5 * p.1 + p.2) / (5 : Int32) = nI p.1 := by
    rw [show (5 : Int32) = nI 5 from rfl, pk_div (by omega) (by decide) (by decide)]
    congr 1
    omega
  have hrem : nI (5 * p.1 + p.2) - nI p.1 * (5 : Int32) = nI p.2 := by
    rw [show (5 : Int32) = nI 5 from rfl, pk_mul, pk_sub (by omega)]
    congr 1
    omega
  have hf := hmem p.1 (by omega)
  have hs := hmem p.2 (by omega)
  obtain ⟨g5, l8, c1, c2⟩ := c_seedL (h := h) (a := a) (f := l.getD p.1 0) (s := l.getD p.2 0) hR hxN hlN h5 (nI (16 + w)) (nI (5 * p.1 + p.2)) (hX.2.2.1 _ hf) (hX.2.2.1 _ hs) ho 5 0 [] (S.1 5) none (by decide) (by rw [List.drop_zero]; exact hot.symm) (HL_nil _)
  generalize hff : l.getD p.1 0 = f at *
  generalize hss : l.getD p.2 0 = s at *
  have hS0 : sB S 5 (S.1 5) = S := by
    refine Prod.ext ?_ rfl
    funext j
    show va_up S.1 5 (S.1 5) j = S.1 j
    by_cases q : j = 5
    · subst q; exact up_s _ _ _
    · exact up_n _ _ q
  rw [hS0] at c1
  have R0 : RC (newT T w k) sb (va_up bx w 0) (sB S 5 g5) := RC_rows hR (fun j hj => sB_n _ _ (by omega)) rfl
  have R1 := RC_empty R0 hxN
  generalize hS1 : sB (sB (sB S 5 g5) 3 (upd ((sB S 5 g5).1 3) (16 + x) 0)) 0 (upd ((sB S 5 g5).1 0) (16 + x) 0) = S1 at R1
  have hem : xM 65 [.ref (a + 1), .int (nI (16 + x))] (pS h a (sB S 5 g5)) = some (none, pS h a S1) := by rw [c_empty h a _ x16, hS1]
  have K1 : KP ALLQ S S1 := by
    rw [← hS1]
    exact KP_tr (KP_hi ALLQ S g5) (KP_e ALLQ _)
  have h51 : S1.1 5 = g5 := by rw [← hS1, sB_n _ _ (by decide), sB_n _ _ (by decide), sB_s]
  have R2 : RC (hvT T x w k [] []) sb (va_up (va_up bx w 0) x 0) S1 := by
    refine RC_congr R1 rfl (fun _ => rfl) (fun n j hn => ⟨?_, ?_, rfl⟩)
    · show va_up (va_up T.2.2.1 x []) w [] n = va_up (va_up T.2.2.1 w []) x [] n
      by_cases q1 : n = x
      · subst q1; rw [up_n _ _ hxw, up_s, up_s]
      · rw [up_n _ _ q1]
        by_cases q2 : n = w
        · subst q2; rw [up_s, up_s]
        · rw [up_n _ _ q2, up_n _ _ q2, up_n _ _ q1]
    · show va_up (paS T.2.2.2.1 k w []) w none n = va_up T.2.2.2.1 w none n
      by_cases q2 : n = w
      · subst q2; rw [up_s, up_s]
      · rw [up_n _ _ q2, up_n _ _ q2]
        unfold paS
        rw [if_neg (fun q => absurd q.2 List.not_mem_nil)]
  have hxe : k ≠ 0 → x ∉ T.2.2.1 x := fun hk q => (hX.2.2.2.1 hk x q).2.1 rfl
  have hb0 : ∀ n j, T.2.1 n = some j → n ≠ x → va_up (va_up bx w 0) x 0 n = bx n := fun n j hn hnx => by
    rw [up_n _ _ hnx, up_n _ _ (fun q : n = w => by rw [q, hX.2.1] at hn; cases hn)]
  obtain ⟨S2, p1, p2, p3, p4⟩ := c_putx (h := h) (a := a) hX R2 (by decide) hf List.not_mem_nil List.not_mem_nil
  rw [hv_E hE hX.1 hX.2.1 hxe hb0 (Or.inl rfl) hf, up_s] at p2
  have hb1 : ∀ n j, T.2.1 n = some j → n ≠ x → va_up (va_up (va_up bx w 0) x 0) x (cun 0 (ebx T.2.1 sb bx x f)) n = bx n := fun n j hn hnx => by
    rw [up_n _ _ hnx]; exact hb0 n j hn hnx
  obtain ⟨S3, q1, q2, q3, q4⟩ := c_putw (h := h) (a := a) hX p2 (by decide) hs (fun q => hfs (List.mem_singleton.mp q).symm) List.not_mem_nil
  rw [hv_E hE hX.1 hX.2.1 hxe hb1 (Or.inr rfl) hs] at q2
  refine ⟨S3, _, ?_, q2, ?_, ?_, fun n j hn hnx => ?_, ?_, KP_tr K1 (KP_tr p3 q3)⟩
  · rw [xb67, sl_t5, Option.bind_some, hdiv, hrem, c_place, xcI_some, hrd p.1 (by omega), Option.bind_some]
    rw [sl_t5, Option.bind_some, c_place, xcI_some, hrd p.2 (by omega), Option.bind_some, hff, hss]
    refine Eq.trans (show _ = _ from c1) ?_
    rw [xb67_34, if_neg (show ¬ nI 5 < (5 : Int32) by decide), sl_gt, hem, xcV_some, sl_gt, p1, xcV_some, sl_gt, q1, xcV_some]
  · rw [up_n _ _ hxw, up_s]; rfl
  · rw [up_s, up_n _ _ (fun q : w = x => hxw q.symm), up_n _ _ (fun q : w = x => hxw q.symm), up_s]; rfl
  · rw [up_n _ _ (fun q : n = w => by rw [q, hX.2.1] at hn; cases hn)]
    exact hb1 n j hn hnx
  · rw [q4, p4, h51]; exact c2
end CS
