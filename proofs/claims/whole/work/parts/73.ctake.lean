/-! The class's tree: a node is dissolved, the root is lowered, a shape is taken out -/
theorem KP_KC {Q : Nat → Prop} {S S' : sS} (hk : KP Q S S') : KC S S' := ⟨fun k h8 => hk.1 k (by omega), hk.2.1, hk.2.2.2.1⟩
section CD
variable {h : xH} {a : Nat} {sb : Nat → Int32}
theorem RC_free {T : tS} {bx : Nat → Int32} {S : sS} (hR : RC T sb bx S) {n : Nat} (hn : n < 16) : RC (T.1, va_up T.2.1 n none, T.2.2) sb bx (sB S 2 (upd (S.1 2) (16 + n) (-1))) := by
  obtain ⟨r1, r2, r3, r4⟩ := hR
  refine ⟨r1, fun m hm => ?_, fun m j hm => ?_, fun s hs => by rw [sB_n _ _ (by decide)]; exact r4 s hs⟩
  · rw [sB_s]
    show _ = rkC (va_up T.2.1 n none m)
    by_cases e : m = n
    · subst e; rw [pk_us, up_s]; rfl
    · rw [pk_un (by omega), up_n _ _ e]; exact r2 m hm
  · have hm' : va_up T.2.1 n none m = some j := hm
    have e : m ≠ n := fun q => by rw [q, up_s] at hm'; cases hm'
    rw [up_n _ _ e] at hm'
    rw [sB_n _ _ (show (0 : Nat) ≠ 2 by decide), sB_n _ _ (show (1 : Nat) ≠ 2 by decide), sB_n _ _ (show (3 : Nat) ≠ 2 by decide), sB_n _ _ (show (4 : Nat) ≠ 2 by decide)]
    exact r3 m j hm'
/-- the nodes of the line are free -/
theorem c_freeL {T : tS} {bx : Nat → Int32} {pl : List Nat} (l1 : Int32) (hp : ∀ n, n ∈ pl → n < 16) (hb : pl.length ≤ 16) : ∀ (d i : Nat) (S : sS), HL (S.1 6) (pl.map (fun m => 16 + m)) → i + d = pl.length → RC (T.1, rkD T.2.1 (pl.take i), T.2.2) sb bx S → ∃ S', xE 71 13 [some (.ref (a + 1)), some (.int l1), some (.int (nI pl.length)), some (.int (nI i))] [] (pS h a S) = some (none, pS h a S') ∧ RC (T.1, rkD T.2.1 pl, T.2.2) sb bx S' ∧ (∀ j, j ≠ 2 → S'.1 j = S.1 j) ∧ S'.2 = S.2 := by
  intro d
  induction d with
  | zero =>
    intro i S h6 hi hR
    rw [List.take_of_length_le (by omega)] at hR
    refine ⟨S, ?_, hR, fun _ _ => rfl, rfl⟩
    rw [xb71_13, if_neg (nI_nlt (by omega) (by omega))]
  | succ d ih =>
    intro i S h6 hi hR
    have hlt : i < pl.length := by omega
    have h16 := hp _ (List.getElem_mem hlt)
    have h6i : S.1 6 i = nI (16 + pl[i]) := h6 i (16 + pl[i]) (by rw [List.getElem?_map, List.getElem?_eq_getElem hlt]; rfl)
    have hR2 := RC_free hR h16
    have hR3 : RC (T.1, rkD T.2.1 (pl.take (i + 1)), T.2.2) sb bx (sB S 2 (upd (S.1 2) (16 + pl[i]) (-1))) := by
      refine RC_congr hR2 rfl (fun n => ?_) (fun n j hn => ⟨rfl, rfl, rfl⟩)
      show rkD T.2.1 (pl.take (i + 1)) n = va_up (rkD T.2.1 (pl.take i)) pl[i] none n
      rw [List.take_succ_eq_append_getElem hlt]
      unfold rkD
      by_cases e : n = pl[i]
      · rw [e, up_s, if_pos (List.mem_append_right _ (List.mem_singleton.mpr rfl))]
      · rw [up_n _ _ e]
        by_cases m : n ∈ pl.take i
        · rw [if_pos m, if_pos (List.mem_append_left _ m)]
        · rw [if_neg m, if_neg (fun q => (List.mem_append.mp q).elim m (fun z => e (List.mem_singleton.mp z)))]
    obtain ⟨S', q1, q2, q3, q4⟩ := ih (i + 1) _ (by rw [sB_n _ _ (by decide)]; exact h6) (by omega) hR3
    refine ⟨S', ?_, q2, fun j hj => by rw [q3 j hj, sB_n _ _ hj], q4⟩
    rw [xb71_13, if_pos (nI_lt hlt (by omega)), sl_t3, Option.bind_some, sl_t7, Option.bind_some, c_r6 h a S (by omega), Option.bind_some, h6i, c_w2 h a S (by omega), Option.bind_some, nI_1]
    exact q1
theorem c_dissolve {T : tS} {bx : Nat → Int32} {S : sS} (hch : ∀ n k c, T.2.1 n = some (k + 1) → c ∈ T.2.2.1 n → T.2.1 c = some k) (hR : RC T sb bx S) {n k : Nat} (hn : T.2.1 n = some k) (hpl : (preR T.2.2.1 k n).length ≤ 16) (hrk : ∀ m, m ∈ preR T.2.2.1 k n → ∃ j, T.2.1 m = some j) {nt : List Nat} (h7 : HL (S.1 7) nt) (h1 : S.2 1 = nI nt.length) (hb : nt.length + (shR T.2.2.1 k n).length ≤ 16) :
    ∃ S', xM 71 [.ref (a + 1), .int (nI (16 + n))] (pS h a S) = some (none, pS h a S') ∧ HL (S'.1 7) (nt ++ shR T.2.2.1 k n) ∧ S'.2 1 = nI (nt ++ shR T.2.2.1 k n).length ∧ RC (T.1, rkD T.2.1 (preR T.2.2.1 k n), T.2.2) sb bx S' ∧ KC S S' := by
  obtain ⟨g6, w1, w2⟩ := c_lineUp (h := h) (a := a) hR hch hn hpl
  have hsp := sh_pre hch k n hn
  obtain ⟨S2, q1, q2, q3, q4, q5⟩ := c_noteL (h := h) (a := a) (T := T) (sb := sb) (bx := bx) (pl := preR T.2.2.1 k n) hrk hpl (preR T.2.2.1 k n) 0 nt (sB S 6 g6) none (RC_rows hR (fun j hj => sB_n _ _ (by omega)) rfl) (by rw [sB_s]; exact w2) List.drop_zero (Nat.zero_le _) h1 (by rw [sB_n _ _ (by decide)]; exact h7) (by rw [← hsp]; exact hb)
  rw [← hsp] at q2 q3
  obtain ⟨S3, z1, z2, z3, z4⟩ := c_freeL (h := h) (a := a) (T := T) (sb := sb) (bx := bx) (pl := preR T.2.2.1 k n) (nI (16 + n)) (fun m hm => by
      obtain ⟨j, hj⟩ := hrk m hm
      exact RC_lt hR hj) hpl (preR T.2.2.1 k n).length 0 S2 (by rw [q4 6 (by decide), sB_s]; exact w2) (by omega) (RC_congr (RC_rows hR (fun j hj => by rw [q4 j (by omega), sB_n _ _ (by omega)]) (by rw [q5 0 (by decide)]; rfl)) rfl (fun m => rkD_nil _ _) (fun _ _ _ => ⟨rfl, rfl, rfl⟩))
  refine ⟨S3, ?_, by rw [z3 7 (by decide)]; exact q2, by rw [z4]; exact q3, z2, ⟨fun j hj => by rw [z3 j (by omega), q4 j (by omega), sB_n _ _ (by omega)], fun s hs => by rw [z3 0 (by decide), q4 0 (by decide), sB_n _ _ (by decide)], by rw [z4, q5 2 (by decide)]; rfl⟩⟩
  rw [xb71, sl_gt, w1, xcI_some, sl_gt, xb70]
  have q1' : xE 70 2 [some (.ref (a + 1)), some (.int (nI (preR T.2.2.1 k n).length)), some (.int 0), none] [] (pS h a (sB S 6 g6)) = some (none, pS h a S2) := q1
  rw [q1', xcV_some]
  exact z1
theorem RC_pa {T : tS} {bx : Nat → Int32} {S : sS} (hR : RC T sb bx S) {c : Nat} (hc : c < 16) : RC (T.1, T.2.1, T.2.2.1, va_up T.2.2.2.1 c none, T.2.2.2.2) sb bx (sB S 1 (upd (S.1 1) (16 + c) (-1))) := by
  obtain ⟨r1, r2, r3, r4⟩ := hR
  refine ⟨r1, fun m hm => by rw [sB_n _ _ (by decide)]; exact r2 m hm, fun m j hm => ?_, fun s hs => by rw [sB_n _ _ (by decide)]; exact r4 s hs⟩
  obtain ⟨q0, q00, q2, q3, q4, q5, q6⟩ := r3 m j hm
  rw [sB_s, sB_n _ _ (show (0 : Nat) ≠ 1 by decide), sB_n _ _ (show (3 : Nat) ≠ 1 by decide), sB_n _ _ (show (4 : Nat) ≠ 1 by decide)]
  refine ⟨q0, q00, q2, ?_, q4, q5, fun i y hy => ?_⟩
  · show _ = paC (va_up T.2.2.2.1 c none m)
    by_cases e : m = c
    · subst e; rw [pk_us, up_s]; rfl
    · rw [pk_un (by omega), up_n _ _ e]; exact q3
  · obtain ⟨y1, y2, y3⟩ := q6 i y hy
    exact ⟨y1, y2, fun hj => by rw [pk_un (by omega)]; exact y3 hj⟩
/-- what lowering may change -/
def KL (S S' : sS) : Prop := (∀ j, 6 ≤ j → S'.1 j = S.1 j) ∧ S'.1 0 = S.1 0 ∧ S'.2 1 = S.2 1 ∧ S'.2 2 = S.2 2
theorem KL_rf (S : sS) : KL S S := ⟨fun _ _ => rfl, rfl, rfl, rfl⟩
theorem KL_tr {S S' S'' : sS} (h1 : KL S S') (h2 : KL S' S'') : KL S S'' := ⟨fun k a => (h2.1 k a).trans (h1.1 k a), h2.2.1.trans h1.2.1, h2.2.2.1.trans h1.2.2.1, h2.2.2.2.trans h1.2.2.2⟩
theorem c_low : ∀ (d : Nat) {S : sS} {T : tS} {bx : Nat → Int32} {r i : Nat} {I : Nat → Prop} (l2 : Option Value), INVt T I → LBx T T.1 → UBt T 4 → T.2.1 T.1 = some r → r < d → i + r < 16 → RC T sb bx S → (∀ n j, T.2.1 n = some j → Con T.2.1 T.2.2.1 sb bx n) →
    ∃ S', xE 72 2 [some (.ref (a + 1)), some (.int (nI i)), l2] [] (pS h a S) = some (none, pS h a S') ∧ RC (lowT d T) sb bx S' ∧ (∀ n j, (lowT d T).2.1 n = some j → Con (lowT d T).2.1 (lowT d T).2.2.1 sb bx n) ∧ KL S S' := by
  intro d
  induction d with
  | zero => exact fun _ _ _ _ _ hd => absurd hd (Nat.not_lt_zero _)
  | succ d ih =>
    intro S T bx r i I l2 hI hL hU hr hd hi hR hC
    obtain ⟨t16, r16, r2, r3, r4, r5, r6⟩ := hR.2.2.1 T.1 r hr
    have hrk : ∀ S' : sS, S'.1 2 = S.1 2 → xri (pS h a S') 0 (a + 4) (nI (16 + T.1)) = some (nI r) := fun S' q => by
      rw [c_r2 h a S' (by omega), q, hR.2.1 T.1 t16, hr]; rfl
    have hsz : xri (pS h a S) 0 (a + 5) (nI (16 + T.1)) = some (nI (T.2.2.1 T.1).length) := by
      rw [c_r3 h a S (by omega), r2]
    have hfin : ∀ l2 : Option Value, xE 72 75 [some (.ref (a + 1)), some (.int (nI i)), l2] [] (pS h a S) = some (none, pS h a S) := fun l2 => by
      rw [xb72_75, sl_t4, Option.bind_some, sl_t0, Option.bind_some, hR.1, hsz, Option.bind_some]
      by_cases c0 : (T.2.2.1 T.1).length = 0
      · rw [if_pos (by rw [c0]; rfl), sl_t3, Option.bind_some, Option.bind_some]
        have hr0 : r = 0 := by
          cases r with
          | zero => rfl
          | succ r => have := hL.2 r hr; omega
        subst hr0
        rw [c_w2 h a S (by omega), Option.bind_some]
        have : sB S 2 (upd (S.1 2) (16 + T.1) 0) = S := by
          have e : upd (S.1 2) (16 + T.1) 0 = S.1 2 := by
            funext j
            by_cases q : j = 16 + T.1
            · rw [q, pk_us, hR.2.1 T.1 t16, hr]; rfl
            · rw [pk_un q]
          rw [e, sB_id]
        rw [this]
      · rw [if_neg (show ¬ nI (T.2.2.1 T.1).length = (0 : Int32) from fun q => c0 (nI_inj (b := 0) (by omega) (by decide) q))]
    unfold lowT
    rw [xb72_2, if_pos (show nI i < (16 : Int32) from nI_lt (b := 16) (by omega) (by decide)), sl_t3, Option.bind_some, sl_t0, Option.bind_some, hR.1, hrk S rfl, Option.bind_some]
    cases r with
    | zero =>
      rw [if_neg (show ¬ (0 : Int32) < nI 0 by decide), if_neg (fun q => q.1 hr)]
      exact ⟨S, hfin l2, hR, hC, KL_rf S⟩
    | succ k =>
      rw [if_pos (show (0 : Int32) < nI (k + 1) from nI_lt (a := 0) (by omega) (by omega)), sl_t4, Option.bind_some, Option.bind_some, hsz, Option.bind_some]
      have hne0 : T.2.1 T.1 ≠ some 0 := by rw [hr]; intro z; cases z
      by_cases hc : (T.2.2.1 T.1).length = 1
      · obtain ⟨c, he⟩ : ∃ c, T.2.2.1 T.1 = [c] := List.length_eq_one_iff.mp hc
        have c1 := hI.2.2.2.1 T.1 k c hr (by rw [he]; exact List.mem_singleton.mpr rfl)
        have hcr : c ≠ T.1 := fun q => by rw [q, hI.2.1] at c1; cases c1.2
        have c16 := (hI.2.2.1 c k c1.1).1
        have f5 : S.1 4 (5 * T.1 + 0) = nI (16 + c) := by
          have := (r6 0 c (by rw [he]; rfl)).2.1
          rw [off_s] at this
          exact this
        rw [if_pos (show nI (T.2.2.1 T.1).length = (1 : Int32) by rw [hc]; rfl), if_pos ⟨hne0, hc⟩, he]
        show ∃ S', _ = _ ∧ RC (lowT d (loT T c)) sb bx S' ∧ (∀ n j, (lowT d (loT T c)).2.1 n = some j → Con (lowT d (loT T c)).2.1 (lowT d (loT T c)).2.2.1 sb bx n) ∧ KL S S'
        have R1 := RC_root (RC_pa (RC_free hR t16) c16) c
        generalize hS1 : sB S 2 (upd (S.1 2) (16 + T.1) (-1)) = S1 at R1
        have R2 : RC (loT T c) sb bx (sJ (sB S1 1 (upd (S1.1 1) (16 + c) (-1))) 0 (nI (16 + c))) := R1
        have rk_i : ∀ n j, (loT T c).2.1 n = some j → T.2.1 n = some j ∧ n ≠ T.1 := fun n j hn => by
          have hn' : va_up T.2.1 T.1 none n = some j := hn
          by_cases e : n = T.1
          · rw [e, up_s] at hn'; cases hn'
          · rw [up_n _ _ e] at hn'; exact ⟨hn', e⟩
        have hge : ∀ n j, T.2.1 n = some j → n ≠ T.1 → 2 ≤ (T.2.2.1 n).length := fun n j hn hne => by
          rcases hL.1 n j hn hne with q | ⟨q, -⟩
          · exact q
          · exact absurd q hne
        have hrc : (loT T c).2.1 (loT T c).1 = some k := by
          show va_up T.2.1 T.1 none c = some k
          rw [up_n _ _ hcr]; exact c1.1
        obtain ⟨S', z1, z2, z3, z4⟩ := ih (T := loT T c) (I := I) (i := i + 1) (some (.int (nI (16 + c)))) (INV_low hI hr he) ⟨fun n j hn hne => Or.inl (hge n j (rk_i n j hn).1 (rk_i n j hn).2), fun j hj => by
            have := hge c k c1.1 hcr
            show 1 ≤ (T.2.2.1 c).length
            omega⟩ (fun n j hn => hU n j (rk_i n j hn).1) hrc (by omega) (by omega) R2 (fun n j hn => Con_gen (rk := T.2.1) (bx := bx) (m := n) (hC n j (rk_i n j hn).1) (by rw [hn, (rk_i n j hn).1]) (fun _ _ _ => rfl))
        refine ⟨S', ?_, z2, z3, KL_tr ⟨fun j hj => by rw [sJ_1, sB_n _ _ (by omega), ← hS1, sB_n _ _ (by omega)], by rw [sJ_1, sB_n _ _ (by decide), ← hS1, sB_n _ _ (by decide)], by rw [sJ_n _ _ (by decide), ← hS1]; rfl, by rw [sJ_n _ _ (by decide), ← hS1]; rfl⟩ z4⟩
        have hsJ : ∀ (S : sS) (v : Int32), xpf (pS h a S) (a + 1) 3 0 (.int v) = some (pS h a (sJ S 0 v)) := fun S v => sl_pt0 ..
        have h20 : S1.2 0 = nI (16 + T.1) := by rw [← hS1]; exact hR.1
        rw [sl_t5, Option.bind_some, Option.bind_some, show (0 : Int32) = nI 0 from rfl, c_place, xcI_some, c_r4 h a S (by omega), Option.bind_some, f5, sl_t3, Option.bind_some, sl_t0, Option.bind_some, hR.1, c_w2 h a S (by omega), Option.bind_some, hS1, sl_t2, Option.bind_some, c_w1 h a S1 (by omega), Option.bind_some, hsJ, Option.bind_some, nI_1]
        exact z1
      · rw [if_neg (show ¬ nI (T.2.2.1 T.1).length = (1 : Int32) from fun q => hc (nI_inj (b := 1) (by omega) (by decide) q)), if_neg (fun q => hc q.2)]
        exact ⟨S, hfin l2, hR, hC, KL_rf S⟩
theorem KL_KC {S S' : sS} (hk : KL S S') : KC S S' := ⟨fun k h8 => hk.1 k (by omega), fun s _ => by rw [hk.2.1], hk.2.2.2⟩
/-- nodes with too few entries go; then the root is lowered -/
theorem c_climb (l1 : Int32) : ∀ (d : Nat) {S : sS} {T : tS} {bx : Nat → Int32} {nt : List Nat} {x k r : Nat} {I : Nat → Prop} (l4 : Option Value), INVt T I → (∀ t, t ∈ nt → ¬ I t) → (∀ t, t ∈ nt → t < 16) → nt.Nodup → LBx T x → UBt T 4 → T.2.1 T.1 = some r → T.2.1 x = some k → r - k < d → RC T sb bx S → (∀ n j, T.2.1 n = some j → ¬ AN T x n → Con T.2.1 T.2.2.1 sb bx n) → (∀ t, I t → sb t ≠ 0) → HL (S.1 7) nt → S.2 1 = nI nt.length →
    ∃ S' bx', xE 54 26 [some (.ref (a + 1)), some (.int l1), some (.int (nI (16 + x))), some (.int (nI k)), l4] [] (pS h a S) = some (none, pS h a S') ∧ RC (lowT 17 (climbT d T nt x).1) sb bx' S' ∧ (∀ n j, (lowT 17 (climbT d T nt x).1).2.1 n = some j → Con (lowT 17 (climbT d T nt x).1).2.1 (lowT 17 (climbT d T nt x).1).2.2.1 sb bx' n) ∧ HL (S'.1 7) (climbT d T nt x).2 ∧ S'.2 1 = nI (climbT d T nt x).2.length ∧ KC S S' := by
  intro d
  induction d with
  | zero => exact fun _ _ _ _ _ _ _ _ _ hd => absurd hd (Nat.not_lt_zero _)
  | succ d ih =>
    intro S T bx nt x k r I l4 hI hd h16 hnd hL hU hr hx hdk hR hC hs hn7 hn1
    have hE := EN_of hI hs
    obtain ⟨x16, k16, r2, r3, r4, r5, r6⟩ := hR.2.2.1 x k hx
    have hpr : xri (pS h a S) 0 (a + 3) (nI (16 + x)) = some (paC (T.2.2.2.1 x)) := by rw [c_r1 h a S (by omega), r3]
    unfold climbT
    rw [xb54_26, if_pos (show nI k < (16 : Int32) from nI_lt (b := 16) k16 (by decide)), sl_t2, Option.bind_some, hpr, Option.bind_some]
    cases hp : T.2.2.2.1 x with
    | none =>
      have hxr : x = T.1 := Classical.byContradiction fun q => by
        obtain ⟨p', pa1, -⟩ := hI.2.2.2.2.2.1 x k hx q
        rw [hp] at pa1
        cases pa1
      subst hxr
      have hkr : k = r := by rw [hx] at hr; exact Option.some.inj hr
      subst hkr
      have R1 := RC_bx hR hx (fbx (ebx T.2.1 sb bx T.1) (T.2.2.1 T.1))
      obtain ⟨S', z1, z2, z3, z4⟩ := c_low (h := h) (a := a) (sb := sb) 17 (i := 0) (I := I) none hI hL hU hx (by omega) (by omega) R1 (fun n j hn => Con_one hI hx hn (fun e => hC n j hn (fun q => e (AN_root hp q))) (fun p q => by rw [hp] at q; cases q))
      have h0 : S'.1 7 = S.1 7 := by rw [z4.1 7 (by decide), sB_n _ _ (by decide)]
      have h1 : S'.2 1 = S.2 1 := by rw [z4.2.2.1]; rfl
      refine ⟨S', _, ?_, z2, z3, by rw [h0]; exact hn7, by rw [h1]; exact hn1, KC_tr (KP_KC (KP_0 ALLQ S _)) (KL_KC z4)⟩
      have z1' : xE 72 2 [some (.ref (a + 1)), some (.int 0), none] [] (pS h a (sB S 0 (upd (S.1 0) (16 + T.1) (fbx (ebx T.2.1 sb bx T.1) (T.2.2.1 T.1))))) = some (none, pS h a S') := z1
      rw [if_pos (show paC none = -1 from rfl), sl_t0, Option.bind_some, hR.1, sl_gt, c_fit hR hE hx, xcV_some, sl_gt, xb72, z1', xcV_some]
    | some p =>
      obtain ⟨rkp, hxp, hxr, hpx⟩ := pa_up hI hx hp
      have p16 := (hI.2.2.1 p _ rkp).1
      have hkr : k + 1 ≤ r := by
        obtain ⟨⟨r', hr', -, hrk⟩, -⟩ := id hI
        rw [hr] at hr'
        cases hr'
        exact (hrk p _ rkp).1
      have hsz : xri (pS h a S) 0 (a + 5) (nI (16 + x)) = some (nI (T.2.2.1 x).length) := by rw [c_r3 h a S (by omega), r2]
      have hpr' : xri (pS h a S) 0 (a + 3) (nI (16 + x)) = some (nI (16 + p)) := by rw [hpr, hp]; rfl
      rw [show paC (some p) = nI (16 + p) from rfl, if_neg (nI_m1 (16 + p) (by omega)), Option.bind_some, hpr', Option.bind_some, sl_t4, Option.bind_some, hsz, Option.bind_some, nI_1, show (T.2.1 x).getD 0 = k by rw [hx]; rfl]
      dsimp only
      by_cases hc : (T.2.2.1 x).length < 2
      · rw [if_pos (show nI (T.2.2.1 x).length < (2 : Int32) from nI_lt (b := 2) hc (by decide)), if_pos hc]
        obtain ⟨d1, d2, d3, d4, d5, d6, d7, d8, d9, d10, d11, hpp⟩ := dis_ok hI hd hnd hL hU hr hx hp
        obtain ⟨S1, t1, t2, t3⟩ := c_cut (h := h) (a := a) hR rkp (hI.2.2.1 p _ rkp).2 x16 (fun q => absurd q (Nat.succ_ne_zero k))
        rw [off_s] at t1
        have hpc := pre_congr (en := T.2.2.1) (en' := (cuT T p x (k + 1)).2.2.1) (k := k) (n := x) (fun m hm => by
          show va_up T.2.2.1 p _ m = _
          rw [up_n _ _ (fun q : m = p => hpp (q ▸ hm))])
        have hul : (used T.2.1).length ≤ 16 := by
          have := nd_len (used_nd T.2.1) (l2 := List.range 16) (fun x hx => (List.mem_filter.mp hx).1)
          rw [List.length_range] at this
          exact this
        have hpl := pre_len hI hx
        have hns : (nt ++ shR T.2.2.1 k x).length ≤ 16 := by
          have := nd_len d2 (l2 := List.range 16) (fun t ht => List.mem_range.mpr (by
            rcases List.mem_append.mp ht with q | q
            · exact h16 t q
            · obtain ⟨m, m1, m2, m3⟩ := (sh_iff hI hx).mp q
              exact (hI.2.2.2.2.1 m t m2 m3).1))
          rw [List.length_range] at this
          exact this
        rw [List.length_append] at hns
        obtain ⟨S2, g1, g3, g4, g5, g6⟩ := c_dissolve (h := h) (a := a) (T := cuT T p x (k + 1)) (n := x) (k := k) (nt := nt) (fun n k' c hn hc => by
          have hc' : c ∈ va_up T.2.2.1 p ((T.2.2.1 p).erase x) n := hc
          by_cases e : n = p
          · subst e
            rw [up_s] at hc'
            exact (hI.2.2.2.1 n k' c hn (List.mem_of_mem_erase hc')).1
          · rw [up_n _ _ e] at hc'
            exact (hI.2.2.2.1 n k' c hn hc').1) t2 hx (by rw [hpc.1]; omega) (fun m hm => by
          rw [hpc.1] at hm
          obtain ⟨j, hj, -⟩ := pre_rk hI hx hm
          exact ⟨j, hj⟩) (by rw [t3.1 7 (by decide)]; exact hn7) (by rw [t3.2.2.1]; exact hn1) (by rw [hpc.2]; omega)
        rw [hpc.2] at g3 g4
        rw [hpc.1] at g5
        have hrk : ∀ n j, (disT T x p k).2.1 n = some j → T.2.1 n = some j ∧ n ∉ preR T.2.2.1 k x := fun n j hn => by
          have h' : (if n ∈ preR T.2.2.1 k x then none else T.2.1 n) = some j := hn
          by_cases e : n ∈ preR T.2.2.1 k x
          · rw [if_pos e] at h'; cases h'
          · rw [if_neg e] at h'; exact ⟨h', e⟩
        have R3 : RC (disT T x p k) sb bx S2 := by
          refine RC_congr g5 rfl (fun _ => rfl) (fun n j hn => ⟨rfl, ?_, rfl⟩)
          have hnx : n ≠ x := fun q => (hrk n j hn).2 (by rw [q]; exact pre_self _ k x)
          show T.2.2.2.1 n = (if k + 1 = 0 then T.2.2.2.1 else va_up T.2.2.2.1 x none) n
          rw [if_neg (Nat.succ_ne_zero k), up_n _ _ hnx]
        have hC3 : ∀ n j, (disT T x p k).2.1 n = some j → ¬ AN (disT T x p k) p n → Con (disT T x p k).2.1 (disT T x p k).2.2.1 sb bx n := fun n j hn hna => by
          have hna' : ¬ AN T p n := hna
          have hnp : n ≠ p := fun q => hna' (q ▸ AN_self T p)
          obtain ⟨hn1, hn2⟩ := hrk n j hn
          have hnx : n ≠ x := fun q => hn2 (by rw [q]; exact pre_self _ k x)
          have en1 : (disT T x p k).2.2.1 n = T.2.2.1 n := up_n _ _ hnp
          exact Con_gen (rk := T.2.1) (bx := bx) (m := n) (by
            rw [en1]
            refine hC n j hn1 (fun q => ?_)
            rcases (AN_cons hp).mp q with z | z
            · exact hnx z
            · exact hna' z) (by rw [hn, hn1]) (fun _ _ _ => rfl)
        obtain ⟨S4, b4, v1, v3, v5, v6, v7, v8⟩ := ih (some (.int (nI (16 + p)))) d1 d3 (fun t ht => by
            rcases List.mem_append.mp ht with q | q
            · exact h16 t q
            · obtain ⟨m, m1, m2, m3⟩ := (sh_iff hI hx).mp q
              exact (hI.2.2.2.2.1 m t m2 m3).1) d2 d4 d5 d6 d7 (by omega) R3 hC3 (fun t ht => hs t ht.1) g3 g4
        refine ⟨S4, b4, ?_, v3, v5, v6, v7, KC_tr (KP_KC t3) (KC_tr g6 v8)⟩
        rw [sl_gt, t1, xcV_some, sl_gt, g1, xcV_some]
        exact v1
      · rw [if_neg (show ¬ nI (T.2.2.1 x).length < (2 : Int32) from nI_nlt (b := 2) (by omega) (by omega)), if_neg hc]
        have R1 := RC_bx hR hx (fbx (ebx T.2.1 sb bx x) (T.2.2.1 x))
        have K1 := KP_0 ALLQ S (n := x) (fbx (ebx T.2.1 sb bx x) (T.2.2.1 x))
        obtain ⟨S4, b4, v1, v3, v5, v6, v7, v8⟩ := ih (some (.int (nI (16 + p)))) hI hd h16 hnd ⟨fun n j hj hne => by
            by_cases e : n = x
            · rw [e]; exact Or.inl (by omega)
            · exact hL.1 n j hj e, fun j hj => by
            rcases hL.1 p _ rkp hpx with q | ⟨-, q⟩
            · omega
            · omega⟩ hU hr rkp (by omega) R1 (fun n j hn hna => Con_one hI hx hn (fun e => hC n j hn (fun q => by
          rcases (AN_cons hp).mp q with z | z
          · exact e z
          · exact hna z)) (fun p' q => by
          rw [hp] at q
          cases q
          exact fun z => hna (z ▸ AN_self T p))) hs (by rw [K1.1 7 (by decide)]; exact hn7) (by rw [K1.2.2.1]; exact hn1)
        refine ⟨S4, b4, ?_, v3, v5, v6, v7, KC_tr (KP_KC K1) v8⟩
        rw [sl_gt, c_fit hR hE hx, xcV_some]
        exact v1
theorem c_takeOut {S : sS} {T : tS} {bx : Nat → Int32} {I : Nat → Prop} {s : Nat} (hs : ∀ t, I t → sb t ≠ 0) (hI : INVt T I) (hL : LBt T) (hU : UBt T 4) (hR : RC T sb bx S) (hC : ∀ n j, T.2.1 n = some j → Con T.2.1 T.2.2.1 sb bx n) (hIs : I s) :
    ∃ S' bx', xM 54 [.ref (a + 1), .int (nI s)] (pS h a S) = some (none, pS h a S') ∧ RC (remT T s) sb bx' S' ∧ (∀ n j, (remT T s).2.1 n = some j → Con (remT T s).2.1 (remT T s).2.2.1 sb bx' n) ∧ HL (S'.1 7) (remC T s).2 ∧ S'.2 1 = nI (remC T s).2.length ∧ KC S S' := by
  obtain ⟨⟨r, hr, hr16, -⟩, -⟩ := id hI
  obtain ⟨sp0, sp1⟩ := hI.2.2.2.2.2.2 s hIs
  have s16 := (hI.2.2.2.2.1 _ s sp0 sp1).1
  have x16 := (hI.2.2.1 _ _ sp0).1
  have R0 : RC T sb bx (sJ S 1 0) := RC_rows hR (fun _ _ => rfl) (sJ_n _ _ (by decide))
  obtain ⟨n16, k16, r2, r3, r4, r5, r6⟩ := hR.2.2.1 _ _ sp0
  have hpar : S.1 1 s = nI (16 + T.2.2.2.2 s) := by
    obtain ⟨i, hi⟩ := List.mem_iff_getElem?.mp sp1
    exact (r6 i s hi).2.2 rfl
  obtain ⟨S1, t1, t2, t3⟩ := c_cut (h := h) (a := a) R0 sp0 (hI.2.2.1 _ _ sp0).2 s16 (fun _ m hm hne q => hne ((hI.2.2.2.2.1 m s hm q).2.2).symm)
  rw [off_0] at t1
  have R1 : RC (cutT T s) sb bx S1 := RC_congr t2 rfl (fun _ => rfl) (fun n j hn => ⟨rfl, by
    show T.2.2.2.1 n = (if 0 = 0 then T.2.2.2.1 else va_up T.2.2.2.1 s none) n
    rw [if_pos rfl], rfl⟩)
  have hIc : INVt (cutT T s) (fun t => I t ∧ t ≠ s) := INV_cut hI hIs
  have en_x : (cutT T s).2.2.1 (T.2.2.2.2 s) = (T.2.2.1 (T.2.2.2.2 s)).erase s := up_s _ _ _
  have en_o : ∀ n, n ≠ T.2.2.2.2 s → (cutT T s).2.2.1 n = T.2.2.1 n := fun n q => up_n _ _ q
  have hLx : LBx (cutT T s) (T.2.2.2.2 s) := ⟨fun n j hn hne => by
      show 2 ≤ ((cutT T s).2.2.1 n).length ∨ _
      rw [en_o n hne]; exact hL n j hn, fun j hj => by
      have hj' : T.2.1 (T.2.2.2.2 s) = some (j + 1) := hj
      rw [sp0] at hj'
      cases hj'⟩
  have hUc : UBt (cutT T s) 4 := fun n j hn => by
    show ((cutT T s).2.2.1 n).length ≤ 4
    by_cases e : n = T.2.2.2.2 s
    · rw [e, en_x]
      have := er_len sp1
      have := hU _ _ sp0
      omega
    · rw [en_o n e]; exact hU n j hn
  obtain ⟨S3, b3, v1, v3, v5, v6, v7, v8⟩ := c_climb (h := h) (a := a) (sb := sb) (nI s) 17 (nt := []) none hIc (fun t q => absurd q List.not_mem_nil) (fun t q => absurd q List.not_mem_nil) List.nodup_nil hLx hUc hr sp0 (by omega) R1 (fun n j hn hna => by
      have hnx : n ≠ T.2.2.2.2 s := fun q => hna (by rw [q]; exact AN_self _ _)
      exact Con_gen (rk := T.2.1) (bx := bx) (m := n) (by rw [en_o n hnx]; exact hC n j hn) rfl (fun _ _ _ => rfl)) (fun t ht => hs t ht.1) (HL_nil _) (by rw [t3.2.2.1, sJ_s]; rfl)
  refine ⟨S3, b3, ?_, v3, v5, v6, v7, KC_tr (show KC S (sJ S 1 0) from ⟨fun _ _ => rfl, fun _ _ => rfl, sJ_n _ _ (by decide)⟩) (KC_tr (KP_KC t3) v8)⟩
  have hsJ : ∀ v : Int32, xpf (pS h a S) (a + 1) 3 9 (.int v) = some (pS h a (sJ S 1 v)) := fun v => sl_pt9 ..
  rw [xb54, hsJ, Option.bind_some, sl_t2, Option.bind_some, c_r1 h a _ (by omega), Option.bind_some, sJ_1, hpar, if_neg (nI_m1 (16 + T.2.2.2.2 s) (by omega)), sl_gt, t1, xcV_some]
  exact v1
end CD
