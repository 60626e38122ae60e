/-! The class's tree: an entry is cut, the line, what is noted -/
def cuT (T : tS) (n e k : Nat) : tS := (T.1, T.2.1, va_up T.2.2.1 n ((T.2.2.1 n).erase e), (if k = 0 then T.2.2.2.1 else va_up T.2.2.2.1 e none), T.2.2.2.2)
theorem sB_id (S : sS) (k : Nat) : sB S k (S.1 k) = S := by
  refine Prod.ext ?_ rfl
  funext j
  show va_up S.1 k (S.1 k) j = S.1 j
  by_cases q : j = k
  · subst q; exact up_s _ _ _
  · exact up_n _ _ q
theorem sB_sB (S : sS) (k : Nat) (g g' : Nat → Int32) : sB (sB S k g) k g' = sB S k g' := by
  unfold sB
  rw [bx_uu]
section CC
variable {h : xH} {a : Nat} {S : sS} {T : tS} {sb bx : Nat → Int32}
theorem c_cutL {n k e : Nat} {l : List Nat} (hR : RC T sb bx S) (hn : T.2.1 n = some k) (hl : T.2.2.1 n = l) (he : e < 16) : ∀ (d i : Nat) (o : List Nat) (g : Nat → Int32) (l5 : Option Value), i + d = l.length → o.length ≤ i → (∀ j y, o[j]? = some y → g (5 * n + j) = nI (off k y)) → (∀ j y, i ≤ j → l[j]? = some y → g (5 * n + j) = nI (off k y)) → (∀ q, q < 5 * n ∨ 5 * n + 5 ≤ q → g q = S.1 4 q) →
    ∃ g', xE 62 5 [some (.ref (a + 1)), some (.int (nI (16 + n))), some (.int (nI (off k e))), some (.int (nI o.length)), some (.int (nI i)), l5] [] (pS h a (sB S 4 g)) = some (none, pS h a (sB (sB (sB S 4 g') 3 (upd (S.1 3) (16 + n) (nI (o ++ (l.drop i).filter (fun y => y != e)).length))) 1 (upd (S.1 1) (off k e) (-1)))) ∧ (∀ j y, (o ++ (l.drop i).filter (fun y => y != e))[j]? = some y → g' (5 * n + j) = nI (off k y)) ∧ (∀ q, q < 5 * n ∨ 5 * n + 5 ≤ q → g' q = S.1 4 q) := by
  obtain ⟨n16, k16, r2, r3, r4, r5, r6⟩ := hR.2.2.1 n _ hn
  rw [hl] at r2 r5 r6
  intro d
  induction d with
  | zero =>
    intro i o g l5 hi hoi h1 h2 h3
    rw [List.drop_eq_nil_of_le (by omega), List.filter_nil, List.append_nil]
    refine ⟨g, ?_, h1, h3⟩
    rw [xb62_5, sl_t4, Option.bind_some, c_r3 h a _ (by omega), Option.bind_some, sB_n _ _ (by decide), r2, if_neg (nI_nlt (by omega) (by omega)), Option.bind_some, c_w3 h a _ (by omega), Option.bind_some, sl_t2, Option.bind_some, c_w1 h a _ (off_lt he), Option.bind_some, sB_n _ _ (by decide), sB_n _ _ (by decide), sB_n _ _ (by decide)]
  | succ d ih =>
    intro i o g l5 hi hoi h1 h2 h3
    have hlt : i < l.length := by omega
    have y2 := h2 i l[i] (Nat.le_refl _) (List.getElem?_eq_getElem hlt)
    have y1 := (r6 i l[i] (List.getElem?_eq_getElem hlt)).1
    rw [List.drop_eq_getElem_cons hlt]
    have hfu : ∀ j z, i + 1 ≤ j → l[j]? = some z → g (5 * n + j) = nI (off k z) := fun j z hj hz => h2 j z (by omega) hz
    generalize l[i] = y at y1 y2 ⊢
    have hoe := off_lt (k := k) he
    have hoy := off_lt (k := k) y1
    rw [xb62_5, sl_t4, Option.bind_some, c_r3 h a _ (by omega), Option.bind_some, sB_n _ _ (by decide), r2, if_pos (nI_lt hlt (by omega)), sl_t5, Option.bind_some, c_place, xcI_some, c_r4 h a _ (by omega), Option.bind_some, sB_s, y2, nI_1]
    by_cases c : y = e
    · rw [if_pos (by rw [c]), List.filter_cons, if_neg (by rw [c]; simp)]
      exact ih (i + 1) o g _ (by omega) (by omega) h1 hfu h3
    · rw [if_neg (fun q => c (off_inj (nI_inj (by omega) (by omega) q))), List.filter_cons, if_pos (by simp [c]), sl_t5, Option.bind_some, c_place, xcI_some, c_w4 h a _ (by omega), Option.bind_some, nI_1, sB_s, sB_sB]
      have hol : (o ++ [y]).length = o.length + 1 := by rw [List.length_append]; rfl
      obtain ⟨g', z1, z2, z3⟩ := ih (i + 1) (o ++ [y]) (upd g (5 * n + o.length) (nI (off k y))) (some (.int (nI (off k y)))) (by omega) (by omega)
        (fun j z hz => by
          by_cases q : j < o.length
          · rw [pk_un (by omega)]
            rw [List.getElem?_append_left q] at hz
            exact h1 j z hz
          · have hj := (List.getElem?_eq_some_iff.mp hz).1
            have hj : j = o.length := by omega
            subst hj
            rw [pk_us]
            rw [List.getElem?_append_right (Nat.le_refl _), Nat.sub_self] at hz
            rw [Option.some.inj hz])
        (fun j z hj hz => by rw [pk_un (by omega)]; exact hfu j z hj hz)
        (fun q hq => by rw [pk_un (by omega)]; exact h3 q hq)
      rw [hol] at z1
      rw [List.append_assoc] at z1 z2
      exact ⟨g', z1, z2, z3⟩
theorem c_cut (hR : RC T sb bx S) {n k e : Nat} (hn : T.2.1 n = some k) (hnd : (T.2.2.1 n).Nodup) (he : e < 16) (hk0 : k = 0 → ∀ m, T.2.1 m = some 0 → m ≠ n → e ∉ T.2.2.1 m) : ∃ S', xM 62 [.ref (a + 1), .int (nI (16 + n)), .int (nI (off k e))] (pS h a S) = some (none, pS h a S') ∧ RC (cuT T n e k) sb bx S' ∧ KP ALLQ S S' := by
  obtain ⟨n16, k16, r2, r3, r4, r5, r6⟩ := hR.2.2.1 n _ hn
  obtain ⟨g', z1, z2, z3⟩ := c_cutL (h := h) (a := a) hR hn rfl he (T.2.2.1 n).length 0 [] (S.1 4) none (by omega) (Nat.le_refl _) (fun j y q => by cases q) (fun j y _ hy => (r6 j y hy).2.1) (fun _ _ => rfl)
  rw [sB_id] at z1
  rw [List.drop_zero, List.nil_append, ← List.Nodup.erase_eq_filter hnd] at z1 z2
  refine ⟨_, (by rw [xb62]; exact z1), ?_, ?_⟩
  · generalize hS' : sB (sB (sB S 4 g') 3 (upd (S.1 3) (16 + n) (nI ((T.2.2.1 n).erase e).length))) 1 (upd (S.1 1) (off k e) (-1)) = S'
    have g0 : S'.1 0 = S.1 0 := by rw [← hS', sB_n _ _ (by decide), sB_n _ _ (by decide), sB_n _ _ (by decide)]
    have g1 : S'.1 1 = upd (S.1 1) (off k e) (-1) := by rw [← hS', sB_s]
    have g2 : S'.1 2 = S.1 2 := by rw [← hS', sB_n _ _ (by decide), sB_n _ _ (by decide), sB_n _ _ (by decide)]
    have g3 : S'.1 3 = upd (S.1 3) (16 + n) (nI ((T.2.2.1 n).erase e).length) := by rw [← hS', sB_n _ _ (by decide), sB_s]
    have g4 : S'.1 4 = g' := by rw [← hS', sB_n _ _ (by decide), sB_n _ _ (by decide), sB_s]
    have gi : S'.2 = S.2 := by rw [← hS']; rfl
    obtain ⟨t1, t2, t3, t4⟩ := hR
    refine ⟨by rw [gi]; exact t1, fun m hm => by rw [g2]; exact t2 m hm, fun m j hm => ?_, fun s hs => by rw [g0]; exact t4 s hs⟩
    have hm' : T.2.1 m = some j := hm
    obtain ⟨q0, q00, q2, q3, q4, q5, q6⟩ := t3 m j hm'
    have hpa : S'.1 1 (16 + m) = paC ((cuT T n e k).2.2.2.1 m) := by
      rw [g1]
      show _ = paC ((if k = 0 then T.2.2.2.1 else va_up T.2.2.2.1 e none) m)
      unfold off
      by_cases hk' : k = 0
      · rw [if_pos hk', if_pos hk', pk_un (by omega)]; exact q3
      · rw [if_neg hk', if_neg hk']
        by_cases hme : m = e
        · subst hme; rw [pk_us, up_s]; rfl
        · rw [pk_un (by omega), up_n _ _ hme]; exact q3
    have hpe : ∀ y, y < 16 → (k = 0 → y ≠ e) → S'.1 1 y = S.1 1 y := fun y hy hye => by
      rw [g1]
      unfold off
      by_cases hk' : k = 0
      · rw [if_pos hk', pk_un (hye hk')]
      · rw [if_neg hk', pk_un (by omega)]
    by_cases em : m = n
    · subst em
      have hjk : j = k := by rw [hn] at hm'; exact (Option.some.inj hm').symm
      subst hjk
      have e0 : (cuT T m e j).2.2.1 m = (T.2.2.1 m).erase e := up_s _ _ _
      have hle := List.length_erase_le (a := e) (l := T.2.2.1 m)
      refine ⟨q0, q00, by rw [g3, pk_us, e0], hpa, by rw [g0]; exact q4, by rw [e0]; omega, fun i y hy => ?_⟩
      rw [e0] at hy
      have hym := List.mem_of_getElem? hy
      have hye : y ≠ e := ((List.Nodup.mem_erase_iff hnd).mp hym).1
      obtain ⟨i', hi'⟩ := List.mem_iff_getElem?.mp (List.mem_of_mem_erase hym)
      obtain ⟨y1, y2, y3⟩ := q6 i' y hi'
      exact ⟨y1, by rw [g4]; exact z2 i y hy, fun hj => by rw [hpe y y1 (fun _ => hye)]; exact y3 hj⟩
    · have e0 : (cuT T n e k).2.2.1 m = T.2.2.1 m := up_n _ _ em
      refine ⟨q0, q00, by rw [g3, pk_un (by omega), e0]; exact q2, hpa, by rw [g0]; exact q4, by rw [e0]; exact q5, fun i y hy => ?_⟩
      rw [e0] at hy
      have hi : i < (T.2.2.1 m).length := (List.getElem?_eq_some_iff.mp hy).1
      obtain ⟨y1, y2, y3⟩ := q6 i y hy
      refine ⟨y1, by rw [g4, z3 _ (by omega)]; exact y2, fun hj => ?_⟩
      rw [hpe y y1 (fun hk q => hk0 hk m (by rw [hm', hj]) em (q ▸ List.mem_of_getElem? hy))]
      exact y3 hj
  · refine ⟨fun j hj => by rw [sB_n _ _ (by omega), sB_n _ _ (by omega), sB_n _ _ (by omega)], fun s hs => by rw [sB_n _ _ (by decide), sB_n _ _ (by decide), sB_n _ _ (by decide)], rfl, rfl, fun s hs hq => absurd trivial hq⟩
theorem HL_ins {g0 G : Nat → Int32} {A B C : List Nat} (hA : HL g0 (A ++ C)) (h1 : ∀ q, q < A.length → G q = g0 q) (h2 : ∀ j e, B[j]? = some e → G (A.length + j) = nI e) (h3 : ∀ j, j < C.length → G (A.length + B.length + j) = g0 (A.length + j)) : HL G (A ++ B ++ C) := fun i e q => by
  by_cases c1 : i < A.length
  · rw [List.append_assoc, List.getElem?_append_left c1] at q
    rw [h1 i c1]
    exact hA i e (by rw [List.getElem?_append_left c1]; exact q)
  · by_cases c2 : i < (A ++ B).length
    · rw [List.getElem?_append_left c2, List.getElem?_append_right (by omega)] at q
      have := h2 _ e q
      rw [show A.length + (i - A.length) = i by omega] at this
      exact this
    · rw [List.getElem?_append_right (by omega)] at q
      have hl := (List.getElem?_eq_some_iff.mp q).1
      rw [List.length_append] at c2 q hl
      have := h3 (i - (A.length + B.length)) (by omega)
      rw [show A.length + B.length + (i - (A.length + B.length)) = i by omega] at this
      rw [this]
      exact hA _ e (by rw [List.getElem?_append_right (by omega), Nat.add_sub_cancel_left]; exact q)
/-- the tail moves on -/
theorem c_shift {m i cnt sz : Nat} {g0 : Nat → Int32} (hm : m < 16) (hsz : S.1 3 (16 + m) = nI sz) (hb : cnt + sz ≤ 16) (l1 : Int32) : ∀ (d j : Nat) (g : Nat → Int32), j = i + d → j < cnt → (∀ q, j < q → q < cnt → g (q + sz) = g0 q) → (∀ q, q ≤ j → g q = g0 q) →
    ∃ g', xE 55 59 [some (.ref (a + 1)), some (.int l1), some (.int (nI cnt)), some (.int (nI i)), some (.int (nI (16 + m))), some (.int (nI j))] [] (pS h a (sB S 6 g)) = xE 55 59 [some (.ref (a + 1)), some (.int l1), some (.int (nI cnt)), some (.int (nI i)), some (.int (nI (16 + m))), some (.int (nI i))] [] (pS h a (sB S 6 g')) ∧ (∀ q, i < q → q < cnt → g' (q + sz) = g0 q) ∧ (∀ q, q ≤ i → g' q = g0 q) := by
  intro d
  induction d with
  | zero =>
    intro j g hj hjc h1 h2
    have hj : j = i := by omega
    subst hj
    exact ⟨g, rfl, h1, h2⟩
  | succ d ih =>
    intro j g hj hjc h1 h2
    obtain ⟨j', rfl⟩ : ∃ j', j = j' + 1 := ⟨j - 1, by omega⟩
    obtain ⟨g', z1, z2⟩ := ih j' (upd g (j' + 1 + sz) (g0 (j' + 1))) (by omega) (by omega)
      (fun q hq hqc => by
        by_cases e : q = j' + 1
        · rw [e, pk_us]
        · rw [pk_un (by omega)]; exact h1 q (by omega) hqc)
      (fun q hq => by rw [pk_un (by omega)]; exact h2 q (by omega))
    refine ⟨g', ?_, z2⟩
    rw [← z1]
    rw [xb55_59, if_pos (nI_lt (by omega) (by omega)), sl_t7, Option.bind_some, sl_t4, Option.bind_some, c_r3 h a _ (by omega), Option.bind_some, sB_n _ _ (by decide), hsz, Option.bind_some, c_r6 h a _ (by omega), Option.bind_some, sB_s, h2 _ (Nat.le_refl _), nI_add, c_w6 h a _ (by omega), Option.bind_some, sB_s, sB_sB, pk_m1]
theorem c_lineL (hR : RC T sb bx S) (hch : ∀ n k c, T.2.1 n = some (k + 1) → c ∈ T.2.2.1 n → T.2.1 c = some k) (l1 : Int32) : ∀ (d : Nat) (rs out : List Nat) (g : Nat → Int32) (l4 l5 : Option Value), (rs.flatMap (PW T)).length ≤ d → (∀ m, m ∈ rs → ∃ k, T.2.1 m = some k) → HL g ((out ++ rs).map (fun m => 16 + m)) → out.length + (rs.flatMap (PW T)).length ≤ 16 →
    ∃ g', xE 55 11 [some (.ref (a + 1)), some (.int l1), some (.int (nI (out.length + rs.length))), some (.int (nI out.length)), l4, l5] [] (pS h a (sB S 6 g)) = some (some (.int (nI (out ++ rs.flatMap (PW T)).length)), pS h a (sB S 6 g')) ∧ HL g' ((out ++ rs.flatMap (PW T)).map (fun m => 16 + m)) := by
  intro d
  induction d with
  | zero =>
    intro rs out g l4 l5 hd hrk hg _
    have hrs : rs = [] := by
      have := PW_len T rs
      exact List.length_eq_zero_iff.mp (by omega)
    subst hrs
    refine ⟨g, ?_, by rw [List.flatMap_nil]; exact hg⟩
    rw [xb55_11, if_neg (nI_nlt (show out.length + ([] : List Nat).length ≤ out.length from Nat.le_refl _) (by omega)), List.flatMap_nil, List.append_nil]
    rfl
  | succ d ih =>
    intro rs out g l4 l5 hd hrk hg hb
    cases rs with
    | nil =>
      refine ⟨g, ?_, by rw [List.flatMap_nil]; exact hg⟩
      rw [xb55_11, if_neg (nI_nlt (show out.length + ([] : List Nat).length ≤ out.length from Nat.le_refl _) (by omega)), List.flatMap_nil, List.append_nil]
      rfl
    | cons m rs =>
      obtain ⟨k, hm⟩ := hrk m List.mem_cons_self
      obtain ⟨m16, k16, r2, r3, r4, r5, r6⟩ := hR.2.2.1 m k hm
      have hp1 := PW_pos T m
      have hpl := PW_len T rs
      rw [List.flatMap_cons, List.length_append] at hd hb
      have hgm : g out.length = nI (16 + m) := hg out.length (16 + m) (by rw [List.getElem?_map, List.getElem?_append_right (Nat.le_refl _), Nat.sub_self]; rfl)
      have hol : (out ++ [m]).length = out.length + 1 := by rw [List.length_append]; rfl
      rw [xb55_11, List.length_cons, if_pos (nI_lt (by omega) (by omega)), if_pos (show nI out.length < (16 : Int32) from nI_lt (b := 16) (by omega) (by decide)), sl_t7, Option.bind_some, c_r6 h a _ (by omega), Option.bind_some, sB_s, hgm, sl_t3, Option.bind_some, c_r2 h a _ (by omega), Option.bind_some, sB_n _ _ (by decide), hR.2.1 m m16, hm]
      cases k with
      | zero =>
        have hPW : PW T m = [m] := by unfold PW; rw [rkv_eq hm]; rfl
        rw [hPW, List.length_singleton] at hd hb
        rw [if_neg (show ¬ (0 : Int32) < rkC (some 0) by decide), nI_1]
        obtain ⟨g', z1, z2⟩ := ih rs (out ++ [m]) g (some (.int (nI (16 + m)))) l5 (by omega) (fun x hx => hrk x (List.mem_cons_of_mem _ hx)) (by rw [List.append_assoc]; exact hg) (by omega)
        rw [hol, show out.length + 1 + rs.length = out.length + (rs.length + 1) by omega] at z1
        rw [List.flatMap_cons, hPW, ← List.append_assoc]
        exact ⟨g', z1, z2⟩
      | succ k =>
        have hcc : ∀ c, c ∈ T.2.2.1 m → T.2.1 c = some k := fun c hc => hch m k c hm hc
        have hPW : PW T m = m :: (T.2.2.1 m).flatMap (PW T) := by
          unfold PW
          rw [rkv_eq hm]
          show m :: (T.2.2.1 m).flatMap (preR T.2.2.1 k) = _
          rw [fm_congr (g := preR T.2.2.1 k) (g' := fun c => preR T.2.2.1 (rkv T c) c) (fun c hc => by rw [rkv_eq (hcc c hc)])]
        have hcl := PW_len T (T.2.2.1 m)
        rw [hPW, List.length_cons] at hd hb
        have hfa : ((T.2.2.1 m) ++ rs).flatMap (PW T) = (T.2.2.1 m).flatMap (PW T) ++ rs.flatMap (PW T) := fm_app _ _
        obtain ⟨g1, s1, s2, s3⟩ := c_shift (h := h) (a := a) (i := out.length) (cnt := out.length + (rs.length + 1)) (g0 := g) m16 r2 (by omega) l1 rs.length (out.length + rs.length) g rfl (by omega) (fun q h1 h2 => by omega) (fun _ _ => rfl)
        rw [if_pos (show (0 : Int32) < rkC (some (k + 1)) from nI_lt (a := 0) (by omega) (by omega)), sl_t4, Option.bind_some, c_r3 h a _ (by omega), Option.bind_some, sB_n _ _ (by decide), r2, nI_add, if_neg (show ¬ (16 : Int32) < nI (out.length + (rs.length + 1) + (T.2.2.1 m).length) from nI_nlt (b := out.length + (rs.length + 1) + (T.2.2.1 m).length) (a := 16) (by omega) (by decide)), show out.length + (rs.length + 1) = out.length + rs.length + 1 by omega, nI_pred]
        rw [show out.length + (rs.length + 1) = out.length + rs.length + 1 by omega] at s1
        rw [s1]
        have hcp : xcp (pS h a (sB S 6 g1)) (a + 6) (nI (5 * m + 0)) (a + 8) (nI (out.length + 1)) (nI (T.2.2.1 m).length) = some (pS h a (sB S 6 (va_cpy (S.1 4) g1 (5 * m + 0) (out.length + 1) (T.2.2.1 m).length))) := by
          rw [sl_c6, nI_clamp (by omega), nI_clamp (by omega), nI_clamp (by omega)]
          rw [show (!(decide (nI (5 * m + 0) < 0)) && !(decide (nI (out.length + 1) < 0)) && !(decide (nI (T.2.2.1 m).length < 0))) = true by
            rw [decide_eq_false (nI_pos (by omega)), decide_eq_false (nI_pos (by omega)), decide_eq_false (nI_pos (by omega))]; rfl]
          rw [show Nat.ble (5 * m + 0 + (T.2.2.1 m).length) 80 = true from Nat.ble_eq_true_of_le (by omega), show Nat.ble (out.length + 1 + (T.2.2.1 m).length) 16 = true from Nat.ble_eq_true_of_le (by omega)]
          show some (pS h a (sB (sB S 6 g1) 6 (va_cpy ((sB S 6 g1).1 4) ((sB S 6 g1).1 6) (5 * m + 0) (out.length + 1) (T.2.2.1 m).length))) = _
          rw [sB_s, sB_sB, sB_n _ _ (by decide)]
        have hG : HL (va_cpy (S.1 4) g1 (5 * m + 0) (out.length + 1) (T.2.2.1 m).length) ((out ++ [m] ++ (T.2.2.1 m ++ rs)).map (fun m => 16 + m)) := by
          rw [← List.append_assoc, List.map_append, List.map_append]
          refine HL_ins (g0 := g) (by rw [← List.map_append, List.append_assoc]; exact hg) (fun q hq => ?_) (fun j e he => ?_) (fun j hj => ?_)
          · rw [List.length_map, hol] at hq
            rw [pk_cpy_out (by omega)]
            exact s3 q (by omega)
          · rw [List.length_map, hol]
            rw [List.getElem?_map] at he
            cases hq : (T.2.2.1 m)[j]? with
            | none => rw [hq] at he; cases he
            | some y =>
              rw [hq] at he
              have hjl := (List.getElem?_eq_some_iff.mp hq).1
              rw [pk_cpy_in (by omega) (by omega)]
              have := (r6 j y hq).2.1
              rw [off_s] at this
              rw [show 5 * m + 0 + (out.length + 1 + j - (out.length + 1)) = 5 * m + j by omega, this]
              have he' : 16 + y = e := Option.some.inj he
              rw [he']
          · rw [List.length_map] at hj
            rw [List.length_map, List.length_map, hol, pk_cpy_out (by omega)]
            have := s2 (out.length + 1 + j) (by omega) (by omega)
            rw [← this]
            congr 1
            omega
        obtain ⟨g', z1, z2⟩ := ih (T.2.2.1 m ++ rs) (out ++ [m]) _ (some (.int (nI (16 + m)))) (some (.int (nI out.length))) (by rw [hfa, List.length_append]; omega) (fun x hx => by
            rcases List.mem_append.mp hx with q | q
            · exact ⟨k, hcc x q⟩
            · exact hrk x (List.mem_cons_of_mem _ q)) hG (by rw [hfa, hol, List.length_append]; omega)
        have e1 : out ++ [m] ++ (T.2.2.1 m ++ rs).flatMap (PW T) = out ++ (m :: rs).flatMap (PW T) := by
          rw [List.flatMap_cons, hPW, hfa, List.append_assoc]; rfl
        rw [e1] at z1 z2
        refine ⟨g', ?_, z2⟩
        have hn0 : nI (5 * m + 0) = nI (5 * m + 0) := rfl
        rw [xb55_59, if_neg (nI_nlt (Nat.le_refl _) (by omega)), sl_t5, Option.bind_some, show (0 : Int32) = nI 0 from rfl, c_place, xcI_some, sl_t7, Option.bind_some, sl_t4, Option.bind_some, c_r3 h a _ (by omega), Option.bind_some, sB_n _ _ (by decide), r2, nI_1, hcp, Option.bind_some, sl_t4, Option.bind_some, c_r3 h a _ (by omega), Option.bind_some, sB_n _ _ (by decide), r2, nI_add]
        rw [← z1, hol, List.length_append, show out.length + rs.length + 1 + (T.2.2.1 m).length = out.length + 1 + ((T.2.2.1 m).length + rs.length) by omega]
theorem c_lineUp (hR : RC T sb bx S) (hch : ∀ n k c, T.2.1 n = some (k + 1) → c ∈ T.2.2.1 n → T.2.1 c = some k) {n k : Nat} (hn : T.2.1 n = some k) (hpl : (preR T.2.2.1 k n).length ≤ 16) : ∃ g', xM 55 [.ref (a + 1), .int (nI (16 + n))] (pS h a S) = some (some (.int (nI (preR T.2.2.1 k n).length)), pS h a (sB S 6 g')) ∧ HL g' ((preR T.2.2.1 k n).map (fun m => 16 + m)) := by
  have hPW : [n].flatMap (PW T) = preR T.2.2.1 k n := by
    rw [List.flatMap_cons, List.flatMap_nil, List.append_nil]; unfold PW; rw [rkv_eq hn]
  obtain ⟨g', z1, z2⟩ := c_lineL (h := h) (a := a) hR hch (nI (16 + n)) (preR T.2.2.1 k n).length [n] [] (upd (S.1 6) 0 (nI (16 + n))) none none (by rw [hPW]; exact Nat.le_refl _) (fun x hx => ⟨k, by rw [List.mem_singleton.mp hx]; exact hn⟩) (HL_snoc (HL_nil _) (16 + n)) (by rw [hPW]; show 0 + _ ≤ 16; omega)
  rw [hPW, List.nil_append] at z1 z2
  refine ⟨g', ?_, z2⟩
  have hw : xwi (pS h a S) 0 (a + 8) 0 (nI (16 + n)) = some (pS h a (sB S 6 (upd (S.1 6) 0 (nI (16 + n))))) := c_w6 h a S (i := 0) (by decide) _
  rw [xb55, sl_t7, Option.bind_some, hw, Option.bind_some]
  exact z1
/-- a leaf's entries -/
def lv (T : tS) (m : Nat) : List Nat := if T.2.1 m = some 0 then T.2.2.1 m else []
theorem sh_pre (hch : ∀ n k c, T.2.1 n = some (k + 1) → c ∈ T.2.2.1 n → T.2.1 c = some k) : ∀ (k n : Nat), T.2.1 n = some k → shR T.2.2.1 k n = (preR T.2.2.1 k n).flatMap (lv T)
  | 0, n, hn => by
    show T.2.2.1 n = [n].flatMap (lv T)
    rw [List.flatMap_cons, List.flatMap_nil, List.append_nil]
    unfold lv
    rw [if_pos hn]
  | k + 1, n, hn => by
    show (T.2.2.1 n).flatMap (shR T.2.2.1 k) = (n :: (T.2.2.1 n).flatMap (preR T.2.2.1 k)).flatMap (lv T)
    rw [List.flatMap_cons, List.flatMap_assoc, fm_congr (g := shR T.2.2.1 k) (g' := fun c => (preR T.2.2.1 k c).flatMap (lv T)) (fun c hc => sh_pre hch k c (hch n k c hn hc))]
    have : lv T n = [] := by
      unfold lv
      rw [if_neg (by rw [hn]; intro z; cases z)]
    rw [this, List.nil_append]
theorem c_noteL {pl : List Nat} (hch : ∀ m, m ∈ pl → ∃ k, T.2.1 m = some k) (hpl : pl.length ≤ 16) : ∀ (rest : List Nat) (i : Nat) (nt : List Nat) (S : sS) (l3 : Option Value), RC T sb bx S → HL (S.1 6) (pl.map (fun m => 16 + m)) → pl.drop i = rest → i ≤ pl.length → S.2 1 = nI nt.length → HL (S.1 7) nt → nt.length + (rest.flatMap (lv T)).length ≤ 16 →
    ∃ S', xE 70 2 [some (.ref (a + 1)), some (.int (nI pl.length)), some (.int (nI i)), l3] [] (pS h a S) = some (none, pS h a S') ∧ HL (S'.1 7) (nt ++ rest.flatMap (lv T)) ∧ S'.2 1 = nI (nt ++ rest.flatMap (lv T)).length ∧ (∀ j, j ≠ 7 → S'.1 j = S.1 j) ∧ (∀ j, j ≠ 1 → S'.2 j = S.2 j)
  | [], i, nt, S, l3, hR, h6, hdr, hil, h1, h7, hb => by
    have : pl.length ≤ i := List.drop_eq_nil_iff.mp hdr
    refine ⟨S, ?_, by rw [List.flatMap_nil, List.append_nil]; exact h7, by rw [List.flatMap_nil, List.append_nil]; exact h1, fun _ _ => rfl, fun _ _ => rfl⟩
    rw [xb70_2, if_neg (nI_nlt (by omega) (by omega))]
  | m :: rest, i, nt, S, l3, hR, h6, hdr, hil, h1, h7, hb => by
    have hlt : i < pl.length := Classical.byContradiction fun q => by
      rw [List.drop_eq_nil_of_le (by omega)] at hdr
      cases hdr
    rw [List.drop_eq_getElem_cons hlt] at hdr
    injection hdr with hd1 hd2
    obtain ⟨k, hm⟩ := hch m (by rw [← hd1]; exact List.getElem_mem hlt)
    obtain ⟨m16, k16, r2, r3, r4, r5, r6⟩ := hR.2.2.1 m k hm
    have h6i : S.1 6 i = nI (16 + m) := h6 i (16 + m) (by rw [List.getElem?_map, List.getElem?_eq_getElem hlt, hd1]; rfl)
    rw [List.flatMap_cons, List.length_append] at hb
    rw [xb70_2, if_pos (nI_lt hlt (by omega)), sl_t7, Option.bind_some, c_r6 h a S (by omega), Option.bind_some, h6i, sl_t3, Option.bind_some, c_r2 h a S (by omega), Option.bind_some, hR.2.1 m m16, hm, nI_1]
    cases k with
    | succ k =>
      have hlv : lv T m = [] := by
        unfold lv
        rw [if_neg (by rw [hm]; intro z; cases z)]
      rw [if_neg (show ¬ rkC (some (k + 1)) = 0 from nI_ne0 (by omega) (by omega)), List.flatMap_cons, hlv, List.nil_append]
      rw [hlv, List.length_nil] at hb
      exact c_noteL hch hpl rest (i + 1) nt S _ hR h6 hd2 (by omega) h1 h7 (by omega)
    | zero =>
      have hlv : lv T m = T.2.2.1 m := by
        unfold lv
        rw [if_pos hm]
      rw [hlv] at hb
      have hcp : xcp (pS h a S) (a + 6) (nI (5 * m + 0)) (a + 9) (nI nt.length) (nI (T.2.2.1 m).length) = some (pS h a (sB S 7 (va_cpy (S.1 4) (S.1 7) (5 * m + 0) nt.length (T.2.2.1 m).length))) := by
        rw [sl_c7, nI_clamp (by omega), nI_clamp (by omega), nI_clamp (by omega)]
        rw [show (!(decide (nI (5 * m + 0) < 0)) && !(decide (nI nt.length < 0)) && !(decide (nI (T.2.2.1 m).length < 0))) = true by
          rw [decide_eq_false (nI_pos (by omega)), decide_eq_false (nI_pos (by omega)), decide_eq_false (nI_pos (by omega))]; rfl]
        rw [show Nat.ble (5 * m + 0 + (T.2.2.1 m).length) 80 = true from Nat.ble_eq_true_of_le (by omega), show Nat.ble (nt.length + (T.2.2.1 m).length) 16 = true from Nat.ble_eq_true_of_le (by omega)]
        rfl
      generalize hG : va_cpy (S.1 4) (S.1 7) (5 * m + 0) nt.length (T.2.2.1 m).length = G at hcp
      have hG7 : HL G (nt ++ T.2.2.1 m) := by
        have := HL_ins (g0 := S.1 7) (G := G) (A := nt) (B := T.2.2.1 m) (C := []) (by rw [List.append_nil]; exact h7) (fun q hq => by rw [← hG, pk_cpy_out (by omega)]) (fun j e he => by
          have hjl := (List.getElem?_eq_some_iff.mp he).1
          have z := (r6 j e he).2.1
          rw [off_0] at z
          rw [← hG, pk_cpy_in (by omega) (by omega), show 5 * m + 0 + (nt.length + j - nt.length) = 5 * m + j by omega, z]) (fun j hj => absurd hj (Nat.not_lt_zero _))
        rw [List.append_nil] at this
        exact this
      have hS2 : ∀ v, xpf (pS h a (sB S 7 G)) (a + 1) 3 9 (.int v) = some (pS h a (sJ (sB S 7 G) 1 v)) := fun v => sl_pt9 ..
      have hl2 : (nt ++ T.2.2.1 m).length = nt.length + (T.2.2.1 m).length := List.length_append
      obtain ⟨S', z1, z2, z3, z4, z5⟩ := c_noteL hch hpl rest (i + 1) (nt ++ T.2.2.1 m) (sJ (sB S 7 G) 1 (nI (nt.length + (T.2.2.1 m).length))) (some (.int (nI (16 + m)))) (RC_rows hR (fun j hj => by rw [sJ_1, sB_n _ _ (by omega)]) (by rw [sJ_n _ _ (by decide)]; rfl)) (by rw [sJ_1, sB_n _ _ (by decide)]; exact h6) hd2 (by omega) (by rw [sJ_s, hl2]) (by rw [sJ_1, sB_s]; exact hG7) (by rw [hl2]; omega)
      refine ⟨S', ?_, by rw [List.flatMap_cons, hlv, ← List.append_assoc]; exact z2, by rw [List.flatMap_cons, hlv, ← List.append_assoc]; exact z3, fun j hj => by rw [z4 j hj, sJ_1, sB_n _ _ hj], fun j hj => by rw [z5 j hj, sJ_n _ _ hj]; rfl⟩
      rw [if_pos (show rkC (some 0) = 0 from rfl), sl_t9, Option.bind_some, h1, sl_t4, Option.bind_some, c_r3 h a S (by omega), Option.bind_some, r2, nI_add, if_neg (show ¬ (16 : Int32) < nI (nt.length + (T.2.2.1 m).length) from nI_nlt (a := 16) (by omega) (by decide)), sl_t5, Option.bind_some, show (0 : Int32) = nI 0 from rfl, c_place, xcI_some, sl_t8, Option.bind_some, sl_t9, Option.bind_some, h1, sl_t4, Option.bind_some, c_r3 h a S (by omega), Option.bind_some, r2, hcp, Option.bind_some, sl_t9, Option.bind_some, sl_t4, Option.bind_some, c_r3 h a _ (by omega), Option.bind_some, sB_n _ _ (by decide), sB_2, h1, r2, nI_add, hS2, Option.bind_some]
      exact z1
end CC
