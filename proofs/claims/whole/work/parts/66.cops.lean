/-! The class's tree: an entry comes to the end, a box is made anew -/
/-- what putting may change; Q: the shapes whose parents may change -/
def KP (Q : Nat → Prop) (S S' : sS) : Prop := (∀ k, 6 ≤ k → S'.1 k = S.1 k) ∧ (∀ s, s < 16 → S'.1 0 s = S.1 0 s) ∧ S'.2 1 = S.2 1 ∧ S'.2 2 = S.2 2 ∧ ∀ s, s < 16 → ¬ Q s → S'.1 1 s = S.1 1 s
theorem KP_rf (Q : Nat → Prop) (S : sS) : KP Q S S := ⟨fun _ _ => rfl, fun _ _ => rfl, rfl, rfl, fun _ _ _ => rfl⟩
theorem KP_tr {Q : Nat → Prop} {S S' S'' : sS} (h1 : KP Q S S') (h2 : KP Q S' S'') : KP Q S S'' := ⟨fun k a => (h2.1 k a).trans (h1.1 k a), fun s a => (h2.2.1 s a).trans (h1.2.1 s a), h2.2.2.1.trans h1.2.2.1, h2.2.2.2.1.trans h1.2.2.2.1, fun s a b => (h2.2.2.2.2 s a b).trans (h1.2.2.2.2 s a b)⟩
theorem off_lt {k e : Nat} (he : e < 16) : off k e < 32 := by
  unfold off
  split <;> omega
section CO
variable {h : xH} {a : Nat} {S : sS} {T : tS} {sb bx : Nat → Int32} {Q : Nat → Prop}
theorem RC_lt (hR : RC T sb bx S) {n k : Nat} (hn : T.2.1 n = some k) : n < 16 := (hR.2.2.1 n k hn).1
/-- an entry's box -/
theorem RC_box (hR : RC T sb bx S) {n k e : Nat} (hn : T.2.1 n = some k) (he : e < 16) (hk : k ≠ 0 → ∃ j, T.2.1 e = some j) : S.1 0 (off k e) = ebx T.2.1 sb bx n e := by
  unfold off ebx
  cases k with
  | zero => rw [if_pos rfl, if_pos hn]; exact hR.2.2.2 e he
  | succ k =>
    rw [if_neg (Nat.succ_ne_zero k), if_neg (by rw [hn]; intro z; cases z)]
    obtain ⟨j, hj⟩ := hk (Nat.succ_ne_zero k)
    exact (hR.2.2.1 e j hj).2.2.2.2.1
theorem c_append (hR : RC T sb bx S) {n k e : Nat} (hn : T.2.1 n = some k) (hlen : (T.2.2.1 n).length ≤ 4) (he : e < 16) (hk : k ≠ 0 → (∃ j, T.2.1 e = some j) ∧ e ≠ n) (hk0 : k = 0 → Q e ∧ ∀ m, T.2.1 m = some 0 → e ∉ T.2.2.1 m) :
    ∃ S', xM 61 [.ref (a + 1), .int (nI (16 + n)), .int (nI (off k e))] (pS h a S) = some (none, pS h a S') ∧ RC (insT0 T n (T.2.2.1 n).length e k) sb (va_up bx n (cun (bx n) (ebx T.2.1 sb bx n e))) S' ∧ KP Q S S' ∧ S'.1 5 = S.1 5 := by
  obtain ⟨n16, k16, r2, r3, r4, r5, r6⟩ := hR.2.2.1 n k hn
  have ho := off_lt (k := k) he
  have hbox := RC_box hR hn he (fun q => (hk q).1)
  have hon : off k e ≠ 16 + n := by
    unfold off
    by_cases q : k = 0
    · rw [if_pos q]; omega
    · rw [if_neg q]; have := (hk q).2; omega
  generalize hlg : (T.2.2.1 n).length = len at hlen r2
  have hcal : xM 61 [.ref (a + 1), .int (nI (16 + n)), .int (nI (off k e))] (pS h a S) = some (none, pS h a (sB (sB (sB (sB S 4 (upd (S.1 4) (5 * n + len) (nI (off k e)))) 3 (upd (S.1 3) (16 + n) (nI (len + 1)))) 1 (upd (S.1 1) (off k e) (nI (16 + n)))) 0 (upd (S.1 0) (16 + n) (cun (bx n) (ebx T.2.1 sb bx n e))))) := by
    rw [xb61, sl_t4, Option.bind_some, c_r3 h a S (by omega), Option.bind_some, r2, if_pos (show nI len < (5 : Int32) from nI_lt (b := 5) (by omega) (by decide)), sl_t5, Option.bind_some, Option.bind_some, c_r3 h a S (by omega), Option.bind_some, r2, c_place, xcI_some, c_w4 h a S (by omega), Option.bind_some, sl_t4, Option.bind_some, c_r3 h a _ (by omega), Option.bind_some, sB_n _ _ (by decide), r2, nI_1, c_w3 h a _ (by omega), Option.bind_some, sl_t2, Option.bind_some, c_w1 h a _ ho, Option.bind_some, sl_t1, Option.bind_some, Option.bind_some, c_r0 h a _ (by omega), Option.bind_some, Option.bind_some, c_r0 h a _ ho, Option.bind_some, c_union, xcI_some, c_w0 h a _ (by omega), Option.bind_some]
    simp only [sB_n _ _ (show (0 : Nat) ≠ 1 by decide), sB_n _ _ (show (0 : Nat) ≠ 3 by decide), sB_n _ _ (show (0 : Nat) ≠ 4 by decide), sB_n _ _ (show (1 : Nat) ≠ 3 by decide), sB_n _ _ (show (1 : Nat) ≠ 4 by decide), sB_n _ _ (show (3 : Nat) ≠ 4 by decide), r4, hbox]
  refine ⟨_, hcal, ?_, ?_, by rw [sB_n _ _ (by decide), sB_n _ _ (by decide), sB_n _ _ (by decide), sB_n _ _ (by decide)]⟩
  · generalize hS' : sB (sB (sB (sB S 4 (upd (S.1 4) (5 * n + len) (nI (off k e)))) 3 (upd (S.1 3) (16 + n) (nI (len + 1)))) 1 (upd (S.1 1) (off k e) (nI (16 + n)))) 0 (upd (S.1 0) (16 + n) (cun (bx n) (ebx T.2.1 sb bx n e))) = S'
    have g0 : S'.1 0 = upd (S.1 0) (16 + n) (cun (bx n) (ebx T.2.1 sb bx n e)) := by rw [← hS', sB_s]
    have g1 : S'.1 1 = upd (S.1 1) (off k e) (nI (16 + n)) := by rw [← hS', sB_n _ _ (by decide), sB_s]
    have g2 : S'.1 2 = S.1 2 := by rw [← hS', sB_n _ _ (by decide), sB_n _ _ (by decide), sB_n _ _ (by decide), sB_n _ _ (by decide)]
    have g3 : S'.1 3 = upd (S.1 3) (16 + n) (nI (len + 1)) := by rw [← hS', sB_n _ _ (by decide), sB_n _ _ (by decide), sB_s]
    have g4 : S'.1 4 = upd (S.1 4) (5 * n + len) (nI (off k e)) := by rw [← hS', sB_n _ _ (by decide), sB_n _ _ (by decide), sB_n _ _ (by decide), sB_s]
    have gi : S'.2 = S.2 := by rw [← hS']; rfl
    obtain ⟨t1, t2, t3, t4⟩ := hR
    refine ⟨by rw [gi]; exact t1, fun m hm => by rw [g2]; exact t2 m hm, fun m j hm => ?_, fun s hs => by rw [g0, pk_un (by omega)]; exact t4 s hs⟩
    have hm' : T.2.1 m = some j := hm
    obtain ⟨q0, q00, q2, q3, q4, q5, q6⟩ := t3 m j hm'
    have hpa : S'.1 1 (16 + m) = paC ((insT0 T n len e k).2.2.2.1 m) := by
      rw [g1]
      show _ = paC ((if k = 0 then T.2.2.2.1 else va_up T.2.2.2.1 e (some n)) m)
      unfold off
      by_cases hk' : k = 0
      · rw [if_pos hk', if_pos hk', pk_un (by omega)]; exact q3
      · rw [if_neg hk', if_neg hk']
        by_cases hme : m = e
        · subst hme; rw [pk_us, up_s]; rfl
        · rw [pk_un (by omega), up_n _ _ hme]; exact q3
    have hpe : ∀ x, j = 0 → x ∈ T.2.2.1 m → x < 16 → S'.1 1 x = S.1 1 x := fun x hj hx hx16 => by
      rw [g1]
      unfold off
      by_cases hk' : k = 0
      · rw [if_pos hk', pk_un]
        intro q
        subst q
        exact (hk0 hk').2 m (by rw [hm', hj]) hx
      · rw [if_neg hk', pk_un (by omega)]
    by_cases em : m = n
    · subst em
      have hjk : j = k := by rw [hn] at hm'; exact (Option.some.inj hm').symm
      subst hjk
      have e0 : (insT0 T m len e j).2.2.1 m = T.2.2.1 m ++ [e] := by
        show va_up T.2.2.1 m (insL len e (T.2.2.1 m)) m = _
        rw [up_s, ← hlg, insL_end]
      refine ⟨q0, q00, ?_, hpa, ?_, ?_, fun i x hx => ?_⟩
      · rw [g3, pk_us, e0, List.length_append, hlg]; rfl
      · rw [g0, pk_us, up_s]
      · rw [e0, List.length_append, List.length_singleton]; omega
      · rw [e0] at hx
        by_cases hi : i < (T.2.2.1 m).length
        · rw [List.getElem?_append_left hi] at hx
          obtain ⟨y1, y2, y3⟩ := q6 i x hx
          refine ⟨y1, ?_, fun hj => ?_⟩
          · rw [g4, pk_un (by omega)]; exact y2
          · rw [hpe x hj (List.mem_of_getElem? hx) y1]; exact y3 hj
        · have hl := (List.getElem?_eq_some_iff.mp hx).1
          rw [List.length_append, List.length_singleton] at hl
          have hi : i = (T.2.2.1 m).length := by omega
          subst hi
          rw [List.getElem?_append_right (Nat.le_refl _), Nat.sub_self] at hx
          have hxe : e = x := Option.some.inj hx
          subst hxe
          refine ⟨he, ?_, fun hj => ?_⟩
          · rw [g4, hlg, pk_us]
          · rw [g1]; unfold off; rw [if_pos hj, pk_us]
    · have e0 : (insT0 T n len e k).2.2.1 m = T.2.2.1 m := up_n _ _ em
      refine ⟨q0, q00, ?_, hpa, ?_, ?_, fun i x hx => ?_⟩
      · rw [g3, pk_un (by omega), e0]; exact q2
      · rw [g0, pk_un (by omega), up_n _ _ em]; exact q4
      · rw [e0]; exact q5
      · rw [e0] at hx
        have hi : i < (T.2.2.1 m).length := (List.getElem?_eq_some_iff.mp hx).1
        obtain ⟨y1, y2, y3⟩ := q6 i x hx
        refine ⟨y1, ?_, fun hj => ?_⟩
        · rw [g4, pk_un (by omega)]; exact y2
        · rw [hpe x hj (List.mem_of_getElem? hx) y1]; exact y3 hj
  · refine ⟨fun j hj => ?_, fun s hs => ?_, rfl, rfl, fun s hs hq => ?_⟩
    · rw [sB_n _ _ (by omega), sB_n _ _ (by omega), sB_n _ _ (by omega), sB_n _ _ (by omega)]
    · rw [sB_s, pk_un (by omega)]
    · rw [sB_n _ _ (by decide), sB_s, pk_un]
      unfold off
      by_cases hk' : k = 0
      · rw [if_pos hk']
        intro q
        subst q
        exact hq (hk0 hk').1
      · rw [if_neg hk']; omega
end CO
section CF
variable {h : xH} {a : Nat} {S : sS} {T : tS} {sb bx : Nat → Int32} {Q : Nat → Prop}
theorem RC_bx (hR : RC T sb bx S) {n k : Nat} (hn : T.2.1 n = some k) (b : Int32) : RC T sb (va_up bx n b) (sB S 0 (upd (S.1 0) (16 + n) b)) := by
  have n16 := RC_lt hR hn
  obtain ⟨t1, t2, t3, t4⟩ := hR
  refine ⟨t1, fun m hm => by rw [sB_n _ _ (by decide)]; exact t2 m hm, fun m j hm => ?_, fun s hs => by rw [sB_s, pk_un (by omega)]; exact t4 s hs⟩
  obtain ⟨q0, q00, q2, q3, q4, q5, q6⟩ := t3 m j hm
  refine ⟨q0, q00, by rw [sB_n _ _ (by decide)]; exact q2, by rw [sB_n _ _ (by decide)]; exact q3, ?_, q5, fun i x hx => ?_⟩
  · rw [sB_s]
    by_cases e : m = n
    · subst e; rw [pk_us, up_s]
    · rw [pk_un (by omega), up_n _ _ e]; exact q4
  · rw [sB_n _ _ (by decide), sB_n _ _ (by decide)]; exact q6 i x hx
theorem c_fit (hR : RC T sb bx S) (hE : EN T sb) {n k : Nat} (hn : T.2.1 n = some k) : xM 63 [.ref (a + 1), .int (nI (16 + n))] (pS h a S) = some (none, pS h a (sB S 0 (upd (S.1 0) (16 + n) (fbx (ebx T.2.1 sb bx n) (T.2.2.1 n))))) := by
  obtain ⟨n16, k16, r2, r3, r4, r5, r6⟩ := hR.2.2.1 n k hn
  have loop : ∀ (d i : Nat) (b : Int32), i + d = (T.2.2.1 n).length → xE 63 4 [some (.ref (a + 1)), some (.int (nI (16 + n))), some (.int b), some (.int (nI i))] [] (pS h a S) = some (none, pS h a (sB S 0 (upd (S.1 0) (16 + n) (((T.2.2.1 n).drop i).foldl (fun b e => cun b (ebx T.2.1 sb bx n e)) b)))) := by
    intro d
    induction d with
    | zero =>
      intro i b hi
      rw [xb63_4, sl_t4, Option.bind_some, c_r3 h a S (by omega), Option.bind_some, r2, if_neg (nI_nlt (by omega) (by omega)), sl_t1, Option.bind_some, c_w0 h a S (by omega), Option.bind_some, List.drop_eq_nil_of_le (by omega), List.foldl_nil]
    | succ d ih =>
      intro i b hi
      have hlt : i < (T.2.2.1 n).length := by omega
      obtain ⟨y1, y2, y3⟩ := r6 i _ (List.getElem?_eq_getElem hlt)
      have hbox := RC_box hR hn y1 (fun hk => by
        cases k with
        | zero => exact absurd rfl hk
        | succ k => exact hE.2 n k _ hn (List.getElem_mem hlt))
      rw [xb63_4, sl_t4, Option.bind_some, c_r3 h a S (by omega), Option.bind_some, r2, if_pos (nI_lt hlt (by omega)), sl_t1, Option.bind_some, sl_t5, Option.bind_some, c_place, xcI_some, c_r4 h a S (by omega), Option.bind_some, y2, c_r0 h a S (off_lt y1), Option.bind_some, hbox, c_union, xcI_some, nI_1, ih (i + 1) _ (by omega), List.drop_eq_getElem_cons hlt, List.foldl_cons]
  rw [xb63]
  have := loop (T.2.2.1 n).length 0 0 (by omega)
  rw [List.drop_zero] at this
  exact this
theorem KP_0 (Q : Nat → Prop) (S : sS) {n : Nat} (b : Int32) : KP Q S (sB S 0 (upd (S.1 0) (16 + n) b)) := ⟨fun j hj => sB_n _ _ (by omega), fun s hs => by rw [sB_s, pk_un (by omega)], rfl, rfl, fun s _ _ => by rw [sB_n _ _ (by decide)]⟩
end CF
