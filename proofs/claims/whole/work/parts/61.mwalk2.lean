/-! The reference's walk, whole; a node is given up; the leaf of a shape -/
theorem fm_congr {α β : Type} {g g' : α → List β} : ∀ {l : List α}, (∀ x, x ∈ l → g x = g' x) → l.flatMap g = l.flatMap g'
  | [], _ => rfl
  | x :: l, hh => by
    rw [List.flatMap_cons, List.flatMap_cons, hh x List.mem_cons_self, fm_congr fun y hy => hh y (List.mem_cons_of_mem _ hy)]
theorem fm_app {α β : Type} {g : α → List β} : ∀ (l l' : List α), (l ++ l').flatMap g = l.flatMap g ++ l'.flatMap g
  | [], l' => rfl
  | x :: l, l' => by
    rw [List.cons_append, List.flatMap_cons, List.flatMap_cons, fm_app l l', List.append_assoc]
theorem sI_1 (S : mS) (k : Nat) (v : Int32) : (sI S k v).1 = S.1 := rfl
theorem sA_2 (S : mS) (k : Nat) (g : Nat → Int32) : (sA S k g).2 = S.2 := rfl
section WL
variable {h : xH} {a : Nat} {f : Nat → Int32} {T : tS} {sb bx : Nat → Int32}
theorem PW_pos (T : tS) (m : Nat) : 1 ≤ (PW T m).length := List.length_pos_of_mem (pre_self T.2.2.1 (rkv T m) m)
theorem PW_len (T : tS) (l : List Nat) : l.length ≤ (l.flatMap (PW T)).length := by
  have := len_flatMap2 (f := PW T) (c := fun _ => 1) (l := l) (fun x _ => PW_pos T x)
  rw [sum_const] at this
  omega
theorem w_main (hR : RM T sb bx f) (hch : ∀ n k c, T.2.1 n = some (k + 1) → c ∈ T.2.2.1 n → T.2.1 c = some k) (K : Nat) (l1 : Int32) : ∀ (d : Nat) (S : mS) (rs out sh : List Nat) (l3 l4 l5 l6 : Option Value), (rs.flatMap (PW T)).length ≤ d → (∀ m, m ∈ rs → ∃ k, T.2.1 m = some k ∧ k ≤ K) → HL (S.1 8) rs.reverse → HL (S.1 9) (rs.reverse.map (dep T K)) → HL (S.1 10) out → HL (S.1 11) (out.map (dep T K)) → S.2.1 12 = nI out.length → HL (S.1 13) sh → S.2.1 14 = nI sh.length → out.length + (rs.flatMap (PW T)).length ≤ 24 → sh.length + (rs.flatMap (SW T)).length ≤ 16 →
    ∃ S', xE 143 26 [some (.ref a), some (.int l1), some (.int (nI rs.length)), l3, l4, l5, l6] [] (pM h a (m0 S f)) = some (none, pM h a (m0 S' f)) ∧ SV S S' ∧ HL (S'.1 10) (out ++ rs.flatMap (PW T)) ∧ HL (S'.1 11) ((out ++ rs.flatMap (PW T)).map (dep T K)) ∧ S'.2.1 12 = nI (out ++ rs.flatMap (PW T)).length ∧ HL (S'.1 13) (sh ++ rs.flatMap (SW T)) ∧ S'.2.1 14 = nI (sh ++ rs.flatMap (SW T)).length := by
  intro d
  induction d with
  | zero =>
    intro S rs out sh l3 l4 l5 l6 hd hrk h8 h9 h10 h11 h12 h13 h14 _ _
    have hrs : rs = [] := by
      have := PW_len T rs
      exact List.length_eq_zero_iff.mp (by omega)
    subst hrs
    refine ⟨S, ?_, SV_rf S, ?_, ?_, ?_, ?_, ?_⟩
    · rw [xb143_26, if_neg (show ¬ (0 : Int32) < nI ([] : List Nat).length by decide)]
    · rw [List.flatMap_nil, List.append_nil]; exact h10
    · rw [List.flatMap_nil, List.append_nil]; exact h11
    · rw [List.flatMap_nil, List.append_nil]; exact h12
    · rw [List.flatMap_nil, List.append_nil]; exact h13
    · rw [List.flatMap_nil, List.append_nil]; exact h14
  | succ d ih =>
    intro S rs out sh l3 l4 l5 l6 hd hrk h8 h9 h10 h11 h12 h13 h14 b1 b2
    cases rs with
    | nil =>
      refine ⟨S, ?_, SV_rf S, ?_, ?_, ?_, ?_, ?_⟩
      · rw [xb143_26, if_neg (show ¬ (0 : Int32) < nI ([] : List Nat).length by decide)]
      · rw [List.flatMap_nil, List.append_nil]; exact h10
      · rw [List.flatMap_nil, List.append_nil]; exact h11
      · rw [List.flatMap_nil, List.append_nil]; exact h12
      · rw [List.flatMap_nil, List.append_nil]; exact h13
      · rw [List.flatMap_nil, List.append_nil]; exact h14
    | cons m rs =>
      obtain ⟨k, hm, hkK⟩ := hrk m List.mem_cons_self
      have hrsl := PW_len T rs
      obtain ⟨n16, r1, r2, r3, r4, r5, r6⟩ := hR.2.2.1 m k hm
      have hl8 : rs.reverse.length = rs.length := List.length_reverse
      have hl9 : (rs.reverse.map (dep T K)).length = rs.length := by rw [List.length_map, hl8]
      rw [List.reverse_cons] at h8
      rw [List.reverse_cons, List.map_append] at h9
      have t8 := HL_last h8
      have t9 := HL_last (e := dep T K m) h9
      rw [hl8] at t8
      rw [hl9] at t9
      have h8' := HL_pre h8
      have h9' := HL_pre h9
      have h10' := HL_snoc h10 m
      have h11' := HL_snoc h11 (dep T K m)
      have hl11 : (out.map (dep T K)).length = out.length := List.length_map _
      rw [hl11] at h11'
      have hlc : (m :: rs).length = rs.length + 1 := List.length_cons
      rw [List.flatMap_cons, List.length_append] at hd b1 b2
      have hp1 := PW_pos T m
      have hout : out.length < 24 := by omega
      have hrl : rs.length < 24 := by omega
      generalize hS3 : sI (sA (sA S 10 (upd (S.1 10) out.length (nI m))) 11 (upd (S.1 11) out.length (nI (dep T K m)))) 12 (nI (out.length + 1)) = S3
      have hhead : xE 143 26 [some (.ref a), some (.int l1), some (.int (nI (m :: rs).length)), l3, l4, l5, l6] [] (pM h a (m0 S f)) = xE 143 90 [some (.ref a), some (.int l1), some (.int (nI rs.length)), some (.int (nI m)), some (.int (nI (dep T K m))), some (.int (nI (T.2.2.1 m).length)), some (.int (nI 0))] [] (pM h a (m0 S3 f)) := by
        rw [hlc, xb143_26, if_pos (show (0 : Int32) < nI (rs.length + 1) from nI_lt (a := 0) (by omega) (by omega)), pk_m1, ml_f8, Option.bind_some, a_r8 h a S f hrl, Option.bind_some, t8, ml_f9, Option.bind_some, a_r9 h a S f hrl, Option.bind_some, t9, ml_f10, Option.bind_some, a_i12, Option.bind_some, h12, a_w10 h a S f hout, Option.bind_some, ml_f11, Option.bind_some, a_i12, Option.bind_some, show (sA S 10 (upd (S.1 10) out.length (nI m))).2.1 12 = nI out.length from h12, a_w11 h a _ f hout, Option.bind_some, a_i12, Option.bind_some, show (sA (sA S 10 (upd (S.1 10) out.length (nI m))) 11 (upd ((sA S 10 (upd (S.1 10) out.length (nI m))).1 11) out.length (nI (dep T K m)))).2.1 12 = nI out.length from h12, nI_1, a_p12, Option.bind_some, sA_n _ _ (by decide), hS3, ml_gu, m_n2 h a S3 f (by omega), xcI_some, r2]
        rfl
      have g8 : S3.1 8 = S.1 8 := by rw [← hS3, sI_1, sA_n _ _ (by decide), sA_n _ _ (by decide)]
      have g9 : S3.1 9 = S.1 9 := by rw [← hS3, sI_1, sA_n _ _ (by decide), sA_n _ _ (by decide)]
      have g10 : S3.1 10 = upd (S.1 10) out.length (nI m) := by rw [← hS3, sI_1, sA_n _ _ (by decide), sA_s]
      have g11 : S3.1 11 = upd (S.1 11) out.length (nI (dep T K m)) := by rw [← hS3, sI_1, sA_s]
      have g13 : S3.1 13 = S.1 13 := by rw [← hS3, sI_1, sA_n _ _ (by decide), sA_n _ _ (by decide)]
      have g12 : S3.2.1 12 = nI (out.length + 1) := by rw [← hS3, sI_s]
      have g14 : S3.2.1 14 = S.2.1 14 := by rw [← hS3, sI_n _ _ (by decide)]; rfl
      have gv : SV S S3 := by
        rw [← hS3]
        exact SV_tr (SV_tr (SV_A S _ (by omega)) (SV_A _ _ (by omega))) (SV_I _ _ (by omega))
      have hol : (out ++ [m]).length = out.length + 1 := by rw [List.length_append]; rfl
      rw [hhead]
      cases k with
      | zero =>
        have hPW : PW T m = [m] := by unfold PW; rw [rkv_eq hm]; rfl
        have hSW : SW T m = T.2.2.1 m := by unfold SW; rw [rkv_eq hm]; rfl
        rw [hPW] at hd b1
        rw [hSW] at b2
        obtain ⟨S4, q1, q2, q3, q4, q5, q6⟩ := w_leaf (h := h) (a := a) hR hm l1 (nI rs.length) (nI (dep T K m)) (T.2.2.1 m).length 0 S3 sh (by omega) (by rw [g13]; exact h13) (by rw [g14]; exact h14) (by omega)
        rw [List.drop_zero] at q2 q3
        have h147 : ∃ l6', xE 143 147 [some (.ref a), some (.int l1), some (.int (nI rs.length)), some (.int (nI m)), some (.int (nI (dep T K m))), some (.int (nI (T.2.2.1 m).length)), some (.int (nI (T.2.2.1 m).length - 1))] [] (pM h a (m0 S4 f)) = xE 143 26 [some (.ref a), some (.int l1), some (.int (nI rs.length)), some (.int (nI m)), some (.int (nI (dep T K m))), some (.int (nI (T.2.2.1 m).length)), l6'] [] (pM h a (m0 S4 f)) := by
          refine ⟨some (.int (nI (T.2.2.1 m).length - 1)), ?_⟩
          rw [xb143_147]
          by_cases c : nI (T.2.2.1 m).length - 1 < 0
          · rw [if_pos c]
          · rw [if_neg c, ml_gu, m_n1 h a S4 f (by omega), xcI_some, r1, if_pos rfl, if_neg (show ¬ (1 : Int32) = 0 by decide)]
        obtain ⟨l6', h147⟩ := h147
        obtain ⟨S', z1, z2, z3, z4, z5, z6, z7⟩ := ih S4 rs (out ++ [m]) (sh ++ T.2.2.1 m) _ _ _ l6' (by rw [List.length_singleton] at hd; omega) (fun x hx => hrk x (List.mem_cons_of_mem _ hx)) (by rw [q4 8 (by decide), g8]; exact h8') (by rw [q4 9 (by decide), g9]; exact h9') (by rw [q4 10 (by decide), g10]; exact h10') (by rw [q4 11 (by decide), g11, List.map_append]; exact h11') (by rw [q5 12 (by decide), g12, hol]) q2 q3 (by rw [List.length_singleton] at b1; rw [hol]; omega) (by rw [List.length_append]; omega)
        refine ⟨S', (q1.trans h147).trans z1, ?_, ?_, ?_, ?_, ?_, ?_⟩
        · refine SV_tr gv (SV_tr ⟨fun j _ _ _ _ e => q4 j e, fun j _ e => q5 j e, q6⟩ z2)
        · rw [List.flatMap_cons, hPW, ← List.append_assoc]; exact z3
        · rw [List.flatMap_cons, hPW, ← List.append_assoc]; exact z4
        · rw [List.flatMap_cons, hPW, ← List.append_assoc]; exact z5
        · rw [List.flatMap_cons, hSW, ← List.append_assoc]; exact z6
        · rw [List.flatMap_cons, hSW, ← List.append_assoc]; exact z7
      | succ k =>
        have hcc : ∀ c, c ∈ T.2.2.1 m → T.2.1 c = some k := fun c hc => hch m k c hm hc
        have hPW : PW T m = m :: (T.2.2.1 m).flatMap (PW T) := by
          unfold PW
          rw [rkv_eq hm]
          show m :: (T.2.2.1 m).flatMap (preR T.2.2.1 k) = _
          rw [fm_congr (g := preR T.2.2.1 k) (g' := fun c => preR T.2.2.1 (rkv T c) c) (fun c hc => by rw [rkv_eq (hcc c hc)])]
        have hSW : SW T m = (T.2.2.1 m).flatMap (SW T) := by
          unfold SW
          rw [rkv_eq hm]
          show (T.2.2.1 m).flatMap (shR T.2.2.1 k) = _
          rw [fm_congr (g := shR T.2.2.1 k) (g' := fun c => shR T.2.2.1 (rkv T c) c) (fun c hc => by rw [rkv_eq (hcc c hc)])]
        have hcl := PW_len T (T.2.2.1 m)
        rw [hPW, List.length_cons] at hd b1
        rw [hSW] at b2
        have h90 : xE 143 90 [some (.ref a), some (.int l1), some (.int (nI rs.length)), some (.int (nI m)), some (.int (nI (dep T K m))), some (.int (nI (T.2.2.1 m).length)), some (.int (nI 0))] [] (pM h a (m0 S3 f)) = xE 143 147 [some (.ref a), some (.int l1), some (.int (nI rs.length)), some (.int (nI m)), some (.int (nI (dep T K m))), some (.int (nI (T.2.2.1 m).length)), some (.int (nI (T.2.2.1 m).length + (-1)))] [] (pM h a (m0 S3 f)) := by
          rw [xb143_90, nI_sub1]
          by_cases c : nI 0 < nI (T.2.2.1 m).length
          · rw [if_pos c, ml_gu, m_n1 h a S3 f (by omega), xcI_some, r1, if_neg (show ¬ k + 1 = 0 by omega), if_neg (show ¬ (0 : Int32) = 1 by decide)]
          · rw [if_neg c]
        obtain ⟨S4, l6', q1, q2, q3, q4, q5⟩ := w_push (h := h) (a := a) hR hm hkK hcc l1 (nI (T.2.2.1 m).length) (T.2.2.1 m).length S3 rs (Nat.le_refl _) (by rw [g8]; exact h8') (by rw [g9]; exact h9') (by omega)
        rw [List.take_length] at q1 q2 q3
        have hfa : ((T.2.2.1 m) ++ rs).flatMap (PW T) = (T.2.2.1 m).flatMap (PW T) ++ rs.flatMap (PW T) := fm_app _ _
        have hfs : ((T.2.2.1 m) ++ rs).flatMap (SW T) = (T.2.2.1 m).flatMap (SW T) ++ rs.flatMap (SW T) := fm_app _ _
        obtain ⟨S', z1, z2, z3, z4, z5, z6, z7⟩ := ih S4 (T.2.2.1 m ++ rs) (out ++ [m]) sh _ _ _ l6' (by rw [hfa, List.length_append]; omega) (fun x hx => by
            rcases List.mem_append.mp hx with q | q
            · exact ⟨k, hcc x q, by omega⟩
            · exact hrk x (List.mem_cons_of_mem _ q)) q2 q3 (by rw [q4 10 (by decide) (by decide), g10]; exact h10') (by rw [q4 11 (by decide) (by decide), g11, List.map_append]; exact h11') (by rw [q5, g12, hol]) (by rw [q4 13 (by decide) (by decide), g13]; exact h13) (by rw [q5, g14]; exact h14) (by rw [hfa, hol, List.length_append]; omega) (by rw [hfs, List.length_append]; omega)
        have e1 : out ++ [m] ++ (T.2.2.1 m ++ rs).flatMap (PW T) = out ++ (m :: rs).flatMap (PW T) := by
          rw [List.flatMap_cons, hPW, hfa, List.append_assoc]; rfl
        have e2 : sh ++ (T.2.2.1 m ++ rs).flatMap (SW T) = sh ++ (m :: rs).flatMap (SW T) := by
          rw [List.flatMap_cons, hSW, hfs]
        rw [e1] at z3 z4 z5
        rw [e2] at z6 z7
        refine ⟨S', (h90.trans q1).trans z1, ?_, z3, z4, z5, z6, z7⟩
        refine SV_tr gv (SV_tr ⟨fun j e8 e9 _ _ _ => q4 j e8 e9, fun j _ _ => by rw [q5], by rw [q5]⟩ z2)
theorem m_walksG {S : mS} (hch : ∀ n k c, T.2.1 n = some (k + 1) → c ∈ T.2.2.1 n → T.2.1 c = some k) (hR : RM T sb bx f) {n k : Nat} (hn : T.2.1 n = some k) (hpl : (preR T.2.2.1 k n).length ≤ 24) (hsl : (shR T.2.2.1 k n).length ≤ 16) : ∃ S', xM 143 [.ref a, .int (nI n)] (pM h a (m0 S f)) = some (none, pM h a (m0 S' f)) ∧ SV S S' ∧ HL (S'.1 10) (preR T.2.2.1 k n) ∧ HL (S'.1 11) ((preR T.2.2.1 k n).map (dep T k)) ∧ S'.2.1 12 = nI (preR T.2.2.1 k n).length ∧ HL (S'.1 13) (shR T.2.2.1 k n) ∧ S'.2.1 14 = nI (shR T.2.2.1 k n).length := by
  have hPW : [n].flatMap (PW T) = preR T.2.2.1 k n := by
    rw [List.flatMap_cons, List.flatMap_nil, List.append_nil]; unfold PW; rw [rkv_eq hn]
  have hSW : [n].flatMap (SW T) = shR T.2.2.1 k n := by
    rw [List.flatMap_cons, List.flatMap_nil, List.append_nil]; unfold SW; rw [rkv_eq hn]
  have hS2 : ∀ g8 g9 : Nat → Int32, SV S (sA (sA (sI (sI S 12 0) 14 0) 8 g8) 9 g9) := fun g8 g9 => SV_tr (SV_I S 0 (by omega)) (SV_tr (SV_I _ 0 (by omega)) (SV_tr (SV_A _ g8 (by omega)) (SV_A _ g9 (by omega))))
  obtain ⟨S', z1, z2, z3⟩ := w_main (h := h) (a := a) hR hch k (nI n) (preR T.2.2.1 k n).length (sA (sA (sI (sI S 12 0) 14 0) 8 (upd (S.1 8) 0 (nI n))) 9 (upd (S.1 9) 0 0)) [n] [] [] none none none none (by rw [hPW]; exact Nat.le_refl _) (fun x hx => ⟨k, by rw [List.mem_singleton.mp hx]; exact hn, Nat.le_refl _⟩)
    (by rw [sA_n _ _ (by decide), sA_s]; exact HL_snoc (HL_nil _) n)
    (by
      rw [sA_s]
      have : dep T k n = 0 := by unfold dep; rw [rkv_eq hn]; omega
      show HL _ [dep T k n]
      rw [this]
      exact HL_snoc (HL_nil _) 0)
    (HL_nil _) (HL_nil _) (by show (sI (sI S 12 0) 14 0).2.1 12 = _; rw [sI_n _ _ (by decide), sI_s]; rfl) (HL_nil _) (by show (sI (sI S 12 0) 14 0).2.1 14 = _; rw [sI_s]; rfl) (by rw [hPW]; show 0 + _ ≤ 24; omega) (by rw [hSW]; show 0 + _ ≤ 16; omega)
  rw [hPW, hSW] at z3
  refine ⟨S', ?_, SV_tr (hS2 _ _) z2, z3⟩
  have e8 : (sI (sI S 12 0) 14 0).1 8 = S.1 8 := rfl
  have e9 : (sA (sI (sI S 12 0) 14 0) 8 (upd (S.1 8) 0 (nI n))).1 9 = S.1 9 := sA_n _ _ (by decide)
  have w8 : xwi (pM h a (m0 (sI (sI S 12 0) 14 0) f)) 0 (a + 7) 0 (nI n) = some (pM h a (m0 (sA (sI (sI S 12 0) 14 0) 8 (upd (S.1 8) 0 (nI n))) f)) := a_w8 h a (sI (sI S 12 0) 14 0) f (i := 0) (by decide) (nI n)
  have w9 : xwi (pM h a (m0 (sA (sI (sI S 12 0) 14 0) 8 (upd (S.1 8) 0 (nI n))) f)) 0 (a + 8) 0 0 = some (pM h a (m0 (sA (sA (sI (sI S 12 0) 14 0) 8 (upd (S.1 8) 0 (nI n))) 9 (upd (S.1 9) 0 0)) f)) := by
    rw [← e9]
    exact a_w9 h a (sA (sI (sI S 12 0) 14 0) 8 (upd (S.1 8) 0 (nI n))) f (i := 0) (by decide) 0
  rw [xb143, a_p12, Option.bind_some, a_p14, Option.bind_some, ml_f8, Option.bind_some, w8, Option.bind_some, ml_f9, Option.bind_some, w9, Option.bind_some]
  exact z1
theorem m_walks {S : mS} {I : Nat → Prop} (hI : INVt T I) (hR : RM T sb bx f) {n k : Nat} (hn : T.2.1 n = some k) : ∃ S', xM 143 [.ref a, .int (nI n)] (pM h a (m0 S f)) = some (none, pM h a (m0 S' f)) ∧ SV S S' ∧ HL (S'.1 10) (preR T.2.2.1 k n) ∧ HL (S'.1 11) ((preR T.2.2.1 k n).map (dep T k)) ∧ S'.2.1 12 = nI (preR T.2.2.1 k n).length ∧ HL (S'.1 13) (shR T.2.2.1 k n) ∧ S'.2.1 14 = nI (shR T.2.2.1 k n).length := by
  have hpl := pre_len hI hn
  have hul : (used T.2.1).length ≤ 16 := by
    have := nd_len (used_nd T.2.1) (l2 := List.range 16) (fun x hx => (List.mem_filter.mp hx).1)
    rw [List.length_range] at this
    exact this
  exact m_walksG (fun n k c hn hc => (hI.2.2.2.1 n k c hn hc).1) hR hn (by omega) (sh_len hI hn)
end WL
