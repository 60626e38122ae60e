/-! The reference's tree: a node is given up, the leaf of a shape -/
section MG
variable {h : xH} {a : Nat} {f : Nat → Int32} {T : tS} {sb bx : Nat → Int32}
theorem RM_free (hR : RM T sb bx f) {n : Nat} (hn : n < 16) : RM (T.1, va_up T.2.1 n none, T.2.2) sb bx (upd f (64 + 10 * n + 0) 0) := by
  obtain ⟨r1, r2, r3, r4⟩ := hR
  refine ⟨by rw [pk_un (by omega)]; exact r1, fun m hm => ?_, fun m j hm => ?_, fun s hs hb => by rw [pk_un (by omega)]; exact r4 s hs hb⟩
  · show _ = if (va_up T.2.1 n none m).isSome then 1 else 0
    by_cases e : m = n
    · subst e; rw [pk_us, up_s]; rfl
    · rw [pk_un (by omega), up_n _ _ e]; exact r2 m hm
  · have hm' : va_up T.2.1 n none m = some j := hm
    have e : m ≠ n := fun q => by rw [q, up_s] at hm'; cases hm'
    rw [up_n _ _ e] at hm'
    obtain ⟨q0, q1, q2, q3, q4, q5, q6⟩ := r3 m j hm'
    refine ⟨q0, by rw [pk_un (by omega)]; exact q1, by rw [pk_un (by omega)]; exact q2, by rw [pk_un (by omega)]; exact q3, by rw [pk_un (by omega)]; exact q4, q5, fun i x hx => ?_⟩
    have hi : i < (T.2.2.1 m).length := (List.getElem?_eq_some_iff.mp hx).1
    rw [pk_un (by omega)]
    exact q6 i x hx
theorem rkD_nil (rk : Nat → Option Nat) (n : Nat) : rkD rk [] n = rk n := if_neg List.not_mem_nil
/-- the shapes walked over are noted -/
theorem g_note {sh nt : List Nat} (l1 : Int32) : ∀ (d i : Nat) (S : mS), i + d = sh.length → HL (S.1 13) sh → S.2.1 14 = nI sh.length → HL (S.1 15) (nt ++ sh.take i) → S.2.1 16 = nI (nt.length + i) → nt.length + sh.length ≤ 16 →
    ∃ S', xE 144 7 [some (.ref a), some (.int l1), some (.int (nI i))] [] (pM h a (m0 S f)) = xE 144 48 [some (.ref a), some (.int l1), some (.int 0)] [] (pM h a (m0 S' f)) ∧ HL (S'.1 15) (nt ++ sh) ∧ S'.2.1 16 = nI (nt ++ sh).length ∧ (∀ k, k ≠ 15 → S'.1 k = S.1 k) ∧ (∀ k, k ≠ 16 → S'.2.1 k = S.2.1 k) ∧ S'.2.2 = S.2.2 := by
  intro d
  induction d with
  | zero =>
    intro i S hi h13 h14 h15 h16 hb
    rw [List.take_of_length_le (by omega)] at h15
    refine ⟨S, ?_, h15, ?_, fun _ _ => rfl, fun _ _ => rfl, rfl⟩
    · rw [xb144_7, a_i14, Option.bind_some, h14, if_neg (nI_nlt (by omega) (by omega))]
    · rw [h16, List.length_append]; congr 1; omega
  | succ d ih =>
    intro i S hi h13 h14 h15 h16 hb
    have hlt : i < sh.length := by omega
    have hl : (nt ++ sh.take i).length = nt.length + i := by rw [List.length_append, List.length_take]; omega
    have h15' := HL_snoc h15 sh[i]
    rw [hl, List.append_assoc, ← List.take_succ_eq_append_getElem hlt] at h15'
    obtain ⟨S', q1, q2, q3, q4, q5, q6⟩ := ih (i + 1) (sI (sA S 15 (upd (S.1 15) (nt.length + i) (nI sh[i]))) 16 (nI (nt.length + i + 1))) (by omega)
      (by rw [sI_1, sA_n _ _ (by decide)]; exact h13) (by rw [sI_n _ _ (by decide), sA_2]; exact h14) (by rw [sI_1, sA_s]; exact h15') (by rw [sI_s]; rfl) hb
    refine ⟨S', ?_, q2, q3, fun k hk => by rw [q4 k hk, sI_1, sA_n _ _ hk], fun k hk => by rw [q5 k hk, sI_n _ _ hk, sA_2], q6⟩
    rw [xb144_7, a_i14, Option.bind_some, h14, if_pos (nI_lt hlt (by omega)), ml_f15, Option.bind_some, a_i16, Option.bind_some, h16, ml_f13, Option.bind_some, a_r13 h a S f (by omega), Option.bind_some, h13 i _ (List.getElem?_eq_getElem hlt), a_w15 h a S f (by omega), Option.bind_some, a_i16, Option.bind_some, sA_2, h16, nI_1, a_p16, Option.bind_some, nI_1]
    exact q1
/-- the nodes walked over are free -/
theorem g_free {S : mS} {pl : List Nat} (l1 : Int32) (hp : ∀ n, n ∈ pl → n < 16) (h10 : HL (S.1 10) pl) (h12 : S.2.1 12 = nI pl.length) (hb : pl.length ≤ 16) : ∀ (d i : Nat) (f : Nat → Int32), i + d = pl.length → RM (T.1, rkD T.2.1 (pl.take i), T.2.2) sb bx f → ∃ f', xE 144 48 [some (.ref a), some (.int l1), some (.int (nI i))] [] (pM h a (m0 S f)) = some (none, pM h a (m0 S f')) ∧ RM (T.1, rkD T.2.1 pl, T.2.2) sb bx f' ∧ FR f f' := by
  intro d
  induction d with
  | zero =>
    intro i f hi hR
    rw [List.take_of_length_le (by omega)] at hR
    refine ⟨f, ?_, hR, FR_rf f⟩
    rw [xb144_48, a_i12, Option.bind_some, h12, if_neg (nI_nlt (by omega) (by omega))]
  | succ d ih =>
    intro i f hi hR
    have hlt : i < pl.length := by omega
    have h16 := hp _ (List.getElem_mem hlt)
    have hR2 := RM_free hR h16
    have hR3 : RM (T.1, rkD T.2.1 (pl.take (i + 1)), T.2.2) sb bx (upd f (64 + 10 * pl[i] + 0) 0) := by
      refine RM_congr hR2 rfl (fun n => ?_) (fun n j hn => ⟨rfl, rfl, rfl⟩)
      show rkD T.2.1 (pl.take (i + 1)) n = va_up (rkD T.2.1 (pl.take i)) pl[i] none n
      rw [List.take_succ_eq_append_getElem hlt]
      unfold rkD
      by_cases e : n = pl[i]
      · rw [e, up_s, if_pos (List.mem_append_right _ (List.mem_singleton.mpr rfl))]
      · rw [up_n _ _ e]
        by_cases m : n ∈ pl.take i
        · rw [if_pos m, if_pos (List.mem_append_left _ m)]
        · rw [if_neg m, if_neg (fun q => (List.mem_append.mp q).elim m (fun z => e (List.mem_singleton.mp z)))]
    obtain ⟨f', q1, q2, q3⟩ := ih (i + 1) _ (by omega) hR3
    refine ⟨f', ?_, q2, FR_tr (FR_upd _ _ (by omega) (by omega)) q3⟩
    rw [xb144_48, a_i12, Option.bind_some, h12, if_pos (nI_lt hlt (by omega)), ml_f10, Option.bind_some, a_r10 h a S f (by omega), Option.bind_some, h10 i _ (List.getElem?_eq_getElem hlt), ml_gu, m_t0 h a S f (by omega), xcV_some, nI_1]
    exact q1
theorem m_givesUp {S : mS} (hch : ∀ n k c, T.2.1 n = some (k + 1) → c ∈ T.2.2.1 n → T.2.1 c = some k) (hR : RM T sb bx f) {n k : Nat} (hn : T.2.1 n = some k) (hpl : (preR T.2.2.1 k n).length ≤ 16) (hp16 : ∀ m, m ∈ preR T.2.2.1 k n → m < 16) {nt : List Nat} (h15 : HL (S.1 15) nt) (h16 : S.2.1 16 = nI nt.length) (hb : nt.length + (shR T.2.2.1 k n).length ≤ 16) :
    ∃ S' f', xM 144 [.ref a, .int (nI n)] (pM h a (m0 S f)) = some (none, pM h a (m0 S' f')) ∧ SC S S' ∧ HL (S'.1 15) (nt ++ shR T.2.2.1 k n) ∧ S'.2.1 16 = nI (nt ++ shR T.2.2.1 k n).length ∧ RM (T.1, rkD T.2.1 (preR T.2.2.1 k n), T.2.2) sb bx f' ∧ FR f f' := by
  obtain ⟨S1, w1, w2, w3, w4, w5, w6, w7⟩ := m_walksG (h := h) (a := a) (S := S) hch hR hn (by omega) (by omega)
  obtain ⟨S2, q1, q2, q3, q4, q5, q6⟩ := g_note (h := h) (a := a) (f := f) (nt := nt) (nI n) (shR T.2.2.1 k n).length 0 S1 (by omega) w6 w7 (by rw [List.take_zero, List.append_nil, w2.1 15 (by decide) (by decide) (by decide) (by decide) (by decide)]; exact h15) (by rw [w2.2.1 16 (by decide) (by decide)]; exact h16) hb
  obtain ⟨f', z1, z2, z3⟩ := g_free (h := h) (a := a) (S := S2) (T := T) (sb := sb) (bx := bx) (pl := preR T.2.2.1 k n) (nI n) hp16 (by rw [q4 10 (by decide)]; exact w3) (by rw [q5 12 (by decide)]; exact w5) (by omega) (preR T.2.2.1 k n).length 0 f (by omega) (RM_congr hR rfl (fun m => rkD_nil _ _) (fun _ _ _ => ⟨rfl, rfl, rfl⟩))
  refine ⟨S2, f', ?_, SC_tr (SV_SC w2) ⟨fun j hj _ => q4 j (fun q => by subst q; cases hj), fun j hj => q5 j (fun q => by subst q; cases hj), q6⟩, q2, q3, z2, z3⟩
  rw [xb144, ml_gu, w1, xcV_some]
  exact q1.trans z1
theorem m_leafOf {S : mS} {I : Nat → Prop} (hI : INVt T I) (hR : RM T sb bx f) {s : Nat} (hs : I s) (hs16 : s < 16) : xM 145 [.ref a, .int (nI s)] (pM h a (m0 S f)) = some (some (.int (nI (T.2.2.2.2 s))), pM h a (m0 S f)) := by
  obtain ⟨l0, l1⟩ := hI.2.2.2.2.2.2 s hs
  have hsp16 := (hI.2.2.1 _ _ l0).1
  have loop : ∀ (d i : Nat) (l4 : Option Value), i + d = 24 → xE 145 4 [some (.ref a), some (.int (nI s)), some (.int (if T.2.2.2.2 s < i then nI (T.2.2.2.2 s) else -1)), some (.int (nI i)), l4] [] (pM h a (m0 S f)) = some (some (.int (nI (T.2.2.2.2 s))), pM h a (m0 S f)) := by
    intro d
    induction d with
    | zero =>
      intro i l4 hi
      have hi : i = 24 := by omega
      subst hi
      rw [xb145_4, if_neg (show ¬ nI 24 < (24 : Int32) by decide), if_pos (by omega)]
    | succ d ih =>
      intro i l4 hi
      have skip : i ≠ T.2.2.2.2 s → ∀ l4 : Option Value, xE 145 49 [some (.ref a), some (.int (nI s)), some (.int (if T.2.2.2.2 s < i then nI (T.2.2.2.2 s) else -1)), some (.int (nI i)), l4] [] (pM h a (m0 S f)) = some (some (.int (nI (T.2.2.2.2 s))), pM h a (m0 S f)) := fun hne l4 => by
        rw [xb145_49, if_pos rfl, nI_1, ← ih (i + 1) (some (.int 0)) (by omega)]
        by_cases c : T.2.2.2.2 s < i
        · rw [if_pos c, if_pos (show T.2.2.2.2 s < i + 1 by omega)]
        · rw [if_neg c, if_neg (show ¬ T.2.2.2.2 s < i + 1 by omega)]
      rw [xb145_4, if_pos (show nI i < (24 : Int32) from nI_lt (b := 24) (by omega) (by decide)), ml_gu, m_n0 h a S f (by omega), xcI_some, hR.2.1 i (by omega)]
      cases hk : T.2.1 i with
      | none =>
        rw [if_neg (show ¬ (if (none : Option Nat).isSome = true then (1 : Int32) else 0) = 1 by decide)]
        exact skip (fun q => by rw [q, l0] at hk; cases hk) l4
      | some k =>
        obtain ⟨i16, r1, r2, -, -, r5, -⟩ := hR.2.2.1 i k hk
        rw [if_pos (show (if (some k).isSome = true then (1 : Int32) else 0) = 1 from rfl), ml_gu, m_n1 h a S f (by omega), xcI_some, r1]
        cases k with
        | succ k =>
          rw [if_neg (show ¬ k + 1 = 0 by omega), if_neg (show ¬ (0 : Int32) = 1 by decide)]
          exact skip (fun q => by rw [q, l0] at hk; cases hk) l4
        | zero =>
          rw [if_pos rfl, if_pos rfl, ml_gu, m_indexOf hR hk (fun x hx => by have := (hI.2.2.2.2.1 i x hk hx).1; omega) (by omega), xcI_some, ml_gu, m_n2 h a S f (by omega), xcI_some, r2]
          by_cases hm : s ∈ T.2.2.1 i
          · have hi := (hI.2.2.2.2.1 i s hk hm).2.2
            rw [if_pos (nI_lt (idx_lt hm) (by omega)), if_neg (show ¬ (1 : Nat) = 0 by decide), nI_1, ← ih (i + 1) (some (.int 1)) (by omega), hi, if_pos (show i < i + 1 by omega)]
          · rw [List.idxOf_eq_length hm, if_neg (nI_nlt (Nat.le_refl _) (by omega))]
            exact skip (fun q => hm (by rw [q]; exact l1)) l4
  rw [xb145]
  have := loop 24 0 none (by omega)
  rw [if_neg (Nat.not_lt_zero _)] at this
  exact this
end MG
