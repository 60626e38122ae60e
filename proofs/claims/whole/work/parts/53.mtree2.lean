/-! The reference's tree: a new node, entries come and go, the leaf for a box -/
theorem nI_inj {a b : Nat} (ha : a < 2 ^ 31) (hb : b < 2 ^ 31) (e : nI a = nI b) : a = b := (nI_eq ha hb).mp e
theorem nI_m1 (n : Nat) (hn : n < 2 ^ 31) : nI n ≠ -1 := fun q => by
  have := nI_pos' hn
  rw [q] at this
  exact absurd this (by decide)
section MN
variable {h : xH} {a : Nat} {S : mS} {f : Nat → Int32} {T : tS} {sb bx : Nat → Int32}
def newT (T : tS) (w k : Nat) : tS := (T.1, va_up T.2.1 w (some k), va_up T.2.2.1 w [], va_up T.2.2.2.1 w none, T.2.2.2.2)
def nwf (f : Nat → Int32) (w : Nat) (v : Int32) : Nat → Int32 := upd (upd (upd (upd (upd f (64 + 10 * w + 0) 1) (64 + 10 * w + 1) v) (64 + 10 * w + 2) 0) (64 + 10 * w + 3) (-1)) (64 + 10 * w + 4) (-1)
theorem nwf_o (f : Nat → Int32) {w : Nat} (v : Int32) {i : Nat} (hi : i < 64 + 10 * w ∨ 64 + 10 * w + 5 ≤ i) : nwf f w v i = f i := by
  unfold nwf
  rw [pk_un (by omega), pk_un (by omega), pk_un (by omega), pk_un (by omega), pk_un (by omega)]
theorem RM_new (hR : RM T sb bx f) {w k : Nat} (hw : w < 16) (hk : T.2.1 w = none) : RM (newT T w k) sb (va_up bx w 0) (nwf f w (if k = 0 then 1 else 0)) := by
  obtain ⟨r1, r2, r3, r4⟩ := hR
  refine ⟨by rw [nwf_o _ _ (by omega)]; exact r1, fun m hm => ?_, fun m j hm => ?_, fun s hs hb => by rw [nwf_o _ _ (by omega)]; exact r4 s hs hb⟩
  · by_cases e : m = w
    · subst e
      show nwf f m _ _ = if (va_up T.2.1 m (some k) m).isSome then 1 else 0
      rw [up_s]
      unfold nwf
      rw [pk_un (by omega), pk_un (by omega), pk_un (by omega), pk_un (by omega), pk_us]
      rfl
    · show nwf f w _ _ = if (va_up T.2.1 w (some k) m).isSome then 1 else 0
      rw [up_n _ _ e, nwf_o _ _ (by omega)]
      exact r2 m hm
  · have hm' : va_up T.2.1 w (some k) m = some j := hm
    by_cases e : m = w
    · subst e
      rw [up_s] at hm'
      cases hm'
      have e0 : (newT T m k).2.2.1 m = [] := up_s _ _ _
      have e1 : (newT T m k).2.2.2.1 m = none := up_s _ _ _
      refine ⟨hw, ?_, ?_, ?_, ?_, by rw [e0]; decide, fun i e he => by rw [e0] at he; cases he⟩
      · unfold nwf; rw [pk_un (by omega), pk_un (by omega), pk_un (by omega), pk_us]
      · rw [e0]; unfold nwf; rw [pk_un (by omega), pk_un (by omega), pk_us]; rfl
      · rw [e1]; unfold nwf; rw [pk_un (by omega), pk_us]; rfl
      · rw [up_s]; unfold nwf; rw [pk_us]; rfl
    · rw [up_n _ _ e] at hm'
      have e0 : (newT T w k).2.2.1 m = T.2.2.1 m := up_n _ _ e
      have e1 : (newT T w k).2.2.2.1 m = T.2.2.2.1 m := up_n _ _ e
      obtain ⟨q0, q1, q2, q3, q4, q5, q6⟩ := r3 m j hm'
      refine ⟨q0, by rw [nwf_o _ _ (by omega)]; exact q1, by rw [e0, nwf_o _ _ (by omega)]; exact q2, by rw [e1, nwf_o _ _ (by omega)]; exact q3, by rw [up_n _ _ e, nwf_o _ _ (by omega)]; exact q4, by rw [e0]; exact q5, fun i x hx => ?_⟩
      rw [e0] at hx
      have hi : i < (T.2.2.1 m).length := (List.getElem?_eq_some_iff.mp hx).1
      rw [nwf_o _ _ (by omega)]
      exact q6 i x hx
theorem m_newNode (hR : RM T sb bx f) (hf : freeN T.2.1 < 16) (hn : T.2.1 (freeN T.2.1) = none) (hl : ∀ n, n < freeN T.2.1 → T.2.1 n ≠ none) (v : Int32) : xM 132 [.ref a, .int v] (pM h a (m0 S f)) = some (some (.int (nI (freeN T.2.1))), pM h a (m0 S (nwf f (freeN T.2.1) v))) := by
  generalize freeN T.2.1 = w at hf hn hl ⊢
  have loop : ∀ (d i : Nat), i + d = w → xE 132 2 [some (.ref a), some (.int v), some (.int (nI i))] [] (pM h a (m0 S f)) = some (some (.int (nI w)), pM h a (m0 S (nwf f w v))) := by
    intro d
    induction d with
    | zero =>
      intro i hi
      have hi : i = w := by omega
      subst hi
      rw [xb132_2, ml_gu, m_n0 h a S f (by omega), xcI_some, hR.2.1 i (by omega), hn]
      rw [if_neg (show ¬ (if (none : Option Nat).isSome = true then (1 : Int32) else 0) = 1 by decide)]
      rw [ml_gu, m_t0 h a S _ (by omega), xcV_some, ml_gu, m_t1 h a S _ (by omega), xcV_some, ml_gu, m_t2 h a S _ (by omega), xcV_some, ml_gu, m_t3 h a S _ (by omega), xcV_some, ml_gu, m_t4 h a S _ (by omega), xcV_some]
      rfl
    | succ d ih =>
      intro i hi
      have hu := hl i (by omega)
      rw [xb132_2, ml_gu, m_n0 h a S f (by omega), xcI_some, hR.2.1 i (by omega)]
      rw [if_pos (show (if (T.2.1 i).isSome = true then (1 : Int32) else 0) = 1 by
        cases hq : T.2.1 i with
        | none => exact absurd hq hu
        | some q => rfl), nI_1]
      exact ih (i + 1) (by omega)
  rw [xb132]
  exact loop w 0 (by omega)
-- an entry comes
def insL (p e : Nat) (l : List Nat) : List Nat := l.take p ++ e :: l.drop p
theorem insL_len {p e : Nat} {l : List Nat} (hp : p ≤ l.length) : (insL p e l).length = l.length + 1 := by
  unfold insL
  simp
  omega
theorem insL_get {p e : Nat} {l : List Nat} (hp : p ≤ l.length) {j x : Nat} (hx : (insL p e l)[j]? = some x) : (j < p ∧ l[j]? = some x) ∨ (j = p ∧ x = e) ∨ (p < j ∧ l[j - 1]? = some x) := by
  unfold insL at hx
  have hlt : (l.take p).length = p := by rw [List.length_take]; omega
  rcases Nat.lt_trichotomy j p with q | q | q
  · rw [List.getElem?_append_left (by omega), List.getElem?_take_of_lt q] at hx
    exact Or.inl ⟨q, hx⟩
  · subst q
    rw [List.getElem?_append_right (by omega), hlt, Nat.sub_self] at hx
    exact Or.inr (Or.inl ⟨rfl, (Option.some.inj hx).symm⟩)
  · rw [List.getElem?_append_right (by omega), hlt, show j - p = (j - p - 1) + 1 by omega, List.getElem?_cons_succ, List.getElem?_drop] at hx
    exact Or.inr (Or.inr ⟨q, by rw [← hx]; congr 1; omega⟩)
def insT0 (T : tS) (n p e k : Nat) : tS := (T.1, T.2.1, va_up T.2.2.1 n (insL p e (T.2.2.1 n)), (if k = 0 then T.2.2.2.1 else va_up T.2.2.2.1 e (some n)), T.2.2.2.2)
theorem m_inserts (hR : RM T sb bx f) {n k p e : Nat} (hn : T.2.1 n = some k) (hlen : (T.2.2.1 n).length ≤ 4) (hp : p ≤ (T.2.2.1 n).length) (he : k ≠ 0 → e < 16) :
    ∃ f', xM 133 [.ref a, .int (nI n), .int (nI p), .int (nI e)] (pM h a (m0 S f)) = some (none, pM h a (m0 S f')) ∧ RM (insT0 T n p e k) sb bx f' ∧ FR f f' := by
  obtain ⟨n16, r1, r2, r3, r4, r5, r6⟩ := hR.2.2.1 n k hn
  have hll : ∀ l, l = (T.2.2.1 n).length → l ≤ 4 := fun l hl => by omega
  generalize hlg : (T.2.2.1 n).length = len at hlen hp r2
  -- the loop moves the entries from p on
  have loop : ∀ (d i : Nat) (g : Nat → Int32), p + d = i → i ≤ len → (∀ q, ¬ (64 + 10 * n + (5 + i) < q ∧ q ≤ 64 + 10 * n + (5 + len)) → g q = f q) → (∀ j, i ≤ j → j < len → g (64 + 10 * n + (5 + (j + 1))) = f (64 + 10 * n + (5 + j))) →
      ∃ g', xE 133 12 [some (.ref a), some (.int (nI n)), some (.int (nI p)), some (.int (nI e)), some (.int (nI len)), some (.int (nI i))] [] (pM h a (m0 S g)) = xE 133 12 [some (.ref a), some (.int (nI n)), some (.int (nI p)), some (.int (nI e)), some (.int (nI len)), some (.int (nI p))] [] (pM h a (m0 S g')) ∧
        (∀ q, ¬ (64 + 10 * n + (5 + p) < q ∧ q ≤ 64 + 10 * n + (5 + len)) → g' q = f q) ∧ (∀ j, p ≤ j → j < len → g' (64 + 10 * n + (5 + (j + 1))) = f (64 + 10 * n + (5 + j))) := by
    intro d
    induction d with
    | zero =>
      intro i g hi _ h1 h2
      have hi : i = p := by omega
      subst hi
      exact ⟨g, rfl, h1, h2⟩
    | succ d ih =>
      intro i g hi hil h1 h2
      obtain ⟨i', rfl⟩ : ∃ i', i = i' + 1 := ⟨i - 1, by omega⟩
      have e1 : (5 + nI (i' + 1)) - 1 = 5 + nI i' := by
        rw [show (5 : Int32) = nI 5 from rfl, nI_add, nI_add, show 5 + (i' + 1) = (5 + i') + 1 by omega, nI_pred]
      obtain ⟨g', q1, q2, q3⟩ := ih i' (upd g (64 + 10 * n + (5 + (i' + 1))) (g (64 + 10 * n + (5 + i')))) (by omega) (by omega)
        (fun q hq => by
          by_cases e : q = 64 + 10 * n + (5 + (i' + 1))
          · omega
          · rw [pk_un e]; exact h1 q (by omega))
        (fun j hj1 hj2 => by
          by_cases e : j = i'
          · subst e; rw [pk_us]; exact h1 _ (by omega)
          · rw [pk_un (by omega)]; exact h2 j (by omega) hj2)
      refine ⟨g', ?_, q2, q3⟩
      rw [← q1]
      rw [xb133_12, if_pos (nI_lt (by omega) (by omega)), ml_gu, e1, m_nE h a S g (by omega) (by omega), xcI_some, ml_gu, m_tE h a S g (by omega) (by omega), xcV_some, pk_m1]
  obtain ⟨g, l1, l2, l3⟩ := loop (len - p) len f (by omega) (Nat.le_refl _) (fun q _ => rfl) (fun j h1 h2 => absurd h2 (by omega))
  have hg1 : ∀ v1 v2, (upd (upd g (64 + 10 * n + (5 + p)) v1) (64 + 10 * n + 2) v2) (64 + 10 * n + 1) = f (64 + 10 * n + 1) := fun v1 v2 => by
    rw [pk_un (by omega), pk_un (by omega)]; exact l2 _ (by omega)
  have hfin : xM 133 [.ref a, .int (nI n), .int (nI p), .int (nI e)] (pM h a (m0 S f)) = some (none, pM h a (m0 S (if k = 0 then upd (upd g (64 + 10 * n + (5 + p)) (nI e)) (64 + 10 * n + 2) (nI (len + 1)) else upd (upd (upd g (64 + 10 * n + (5 + p)) (nI e)) (64 + 10 * n + 2) (nI (len + 1))) (64 + 10 * e + 3) (nI n)))) := by
    rw [xb133, ml_gu, m_n2 h a S f (by omega), xcI_some, r2, l1, xb133_12, if_neg (nI_nlt (Nat.le_refl _) (by omega)), ml_gu, m_tE h a S g (by omega) (by omega), xcV_some, ml_gu, nI_1, m_t2 h a S _ (by omega), xcV_some, ml_gu, m_n1 h a S _ (by omega), xcI_some, hg1, r1]
    by_cases hk : k = 0
    · rw [if_pos hk, if_neg (show ¬ (1 : Int32) = 0 by decide), if_pos hk]
    · rw [if_neg hk, if_pos rfl, if_neg hk, ml_gu, m_t3 h a S _ (by have := he hk; omega), xcV_some]
  refine ⟨_, hfin, ?_, ?_⟩
  · -- the row holds the tree with the entry
    have heq : ∀ q, (k = 0 ∨ q ≠ 64 + 10 * e + 3) → (if k = 0 then upd (upd g (64 + 10 * n + (5 + p)) (nI e)) (64 + 10 * n + 2) (nI (len + 1)) else upd (upd (upd g (64 + 10 * n + (5 + p)) (nI e)) (64 + 10 * n + 2) (nI (len + 1))) (64 + 10 * e + 3) (nI n)) q = upd (upd g (64 + 10 * n + (5 + p)) (nI e)) (64 + 10 * n + 2) (nI (len + 1)) q := fun q hq => by
      by_cases hk : k = 0
      · rw [if_pos hk]
      · rw [if_neg hk, pk_un (hq.resolve_left hk)]
    have hpa : k ≠ 0 → (if k = 0 then upd (upd g (64 + 10 * n + (5 + p)) (nI e)) (64 + 10 * n + 2) (nI (len + 1)) else upd (upd (upd g (64 + 10 * n + (5 + p)) (nI e)) (64 + 10 * n + 2) (nI (len + 1))) (64 + 10 * e + 3) (nI n)) (64 + 10 * e + 3) = nI n := fun hk => by rw [if_neg hk, pk_us]
    generalize (if k = 0 then upd (upd g (64 + 10 * n + (5 + p)) (nI e)) (64 + 10 * n + 2) (nI (len + 1)) else upd (upd (upd g (64 + 10 * n + (5 + p)) (nI e)) (64 + 10 * n + 2) (nI (len + 1))) (64 + 10 * e + 3) (nI n)) = f' at heq hpa ⊢
    have hout : ∀ q, (k = 0 ∨ q ≠ 64 + 10 * e + 3) → (q < 64 + 10 * n + 5 ∧ q ≠ 64 + 10 * n + 2) ∨ 64 + 10 * n + 10 ≤ q → f' q = f q := fun q h1 h2 => by
      rw [heq q h1, pk_un (by omega), pk_un (by omega)]
      exact l2 q (by omega)
    have he16 : k ≠ 0 → e < 16 := he
    obtain ⟨t1, t2, t3, t4⟩ := hR
    refine ⟨?_, fun m hm => ?_, fun m j hm => ?_, fun s hs hb => ?_⟩
    · rw [hout 304 (by by_cases hk : k = 0; exact Or.inl hk; have := he hk; exact Or.inr (by omega)) (by omega)]; exact t1
    · rw [hout _ (Or.inr (by omega)) (by omega)]; exact t2 m hm
    · have hm' : T.2.1 m = some j := hm
      obtain ⟨q0, q1, q2, q3, q4, q5, q6⟩ := t3 m j hm'
      have hab : (insT0 T n p e k).2.2.2.1 m = (if k ≠ 0 ∧ m = e then some n else T.2.2.2.1 m) := by
        show (if k = 0 then T.2.2.2.1 else va_up T.2.2.2.1 e (some n)) m = _
        by_cases hk : k = 0
        · rw [if_pos hk, if_neg (fun q => q.1 hk)]
        · rw [if_neg hk]
          by_cases hme : m = e
          · rw [if_pos ⟨hk, hme⟩, hme, up_s]
          · rw [if_neg (fun q => hme q.2), up_n _ _ hme]
      have habove : f' (64 + 10 * m + 3) = paI ((insT0 T n p e k).2.2.2.1 m) := by
        rw [hab]
        by_cases hc : k ≠ 0 ∧ m = e
        · rw [if_pos hc, hc.2, hpa hc.1]; rfl
        · rw [if_neg hc, hout _ (by by_cases hk : k = 0; exact Or.inl hk; exact Or.inr (fun q => hc ⟨hk, by omega⟩)) (by omega)]
          exact q3
      by_cases em : m = n
      · subst em
        have e0 : (insT0 T m p e k).2.2.1 m = insL p e (T.2.2.1 m) := up_s _ _ _
        refine ⟨q0, ?_, ?_, habove, ?_, ?_, fun i x hx => ?_⟩
        · rw [hout _ (Or.inr (by omega)) (by omega)]; exact q1
        · rw [e0, insL_len (by omega), heq _ (Or.inr (by omega)), pk_us, hlg]
        · rw [hout _ (Or.inr (by omega)) (by omega)]; exact q4
        · rw [e0, insL_len (by omega)]; omega
        · rw [e0] at hx
          rcases insL_get (by omega) hx with ⟨a1, a2⟩ | ⟨a1, a2⟩ | ⟨a1, a2⟩
          · have hi : i < (T.2.2.1 m).length := (List.getElem?_eq_some_iff.mp a2).1
            rw [heq _ (Or.inr (by omega)), pk_un (by omega), pk_un (by omega), l2 _ (by omega)]
            exact q6 i x a2
          · subst a1; subst a2
            rw [heq _ (Or.inr (by omega)), pk_un (by omega), pk_us]
          · have hi : i - 1 < (T.2.2.1 m).length := (List.getElem?_eq_some_iff.mp a2).1
            rw [heq _ (Or.inr (by omega)), pk_un (by omega), pk_un (by omega)]
            have := l3 (i - 1) (by omega) (by omega)
            rw [show i - 1 + 1 = i by omega] at this
            rw [this]
            exact q6 (i - 1) x a2
      · have e0 : (insT0 T n p e k).2.2.1 m = T.2.2.1 m := up_n _ _ em
        refine ⟨q0, ?_, ?_, habove, ?_, ?_, fun i x hx => ?_⟩
        · rw [hout _ (Or.inr (by omega)) (by omega)]; exact q1
        · rw [e0, hout _ (Or.inr (by omega)) (by omega)]; exact q2
        · rw [hout _ (Or.inr (by omega)) (by omega)]; exact q4
        · rw [e0]; exact q5
        · rw [e0] at hx
          have hi : i < (T.2.2.1 m).length := (List.getElem?_eq_some_iff.mp hx).1
          rw [hout _ (Or.inr (by omega)) (by omega)]
          exact q6 i x hx
    · rw [hout _ (Or.inr (by omega)) (by omega)]; exact t4 s hs hb
  · intro q hq
    by_cases hk : k = 0
    · rw [if_pos hk, pk_un (by omega), pk_un (by omega)]; exact l2 q (by omega)
    · have := he hk
      rw [if_neg hk, pk_un (by omega), pk_un (by omega), pk_un (by omega)]; exact l2 q (by omega)
theorem idx_lt {l : List Nat} {x : Nat} (hx : x ∈ l) : l.idxOf x < l.length := List.idxOf_lt_length_iff.mpr hx
theorem m_indexOf (hR : RM T sb bx f) {n k e : Nat} (hn : T.2.1 n = some k) (hs : ∀ x, x ∈ T.2.2.1 n → x < 2 ^ 31) (he : e < 2 ^ 31) : xM 134 [.ref a, .int (nI n), .int (nI e)] (pM h a (m0 S f)) = some (some (.int (nI ((T.2.2.1 n).idxOf e))), pM h a (m0 S f)) := by
  obtain ⟨n16, r1, r2, r3, r4, r5, r6⟩ := hR.2.2.1 n k hn
  have loop : ∀ (d i : Nat), i + d = (T.2.2.1 n).length → xE 134 2 [some (.ref a), some (.int (nI n)), some (.int (nI e)), some (.int (nI i))] [] (pM h a (m0 S f)) = some (some (.int (nI (i + ((T.2.2.1 n).drop i).idxOf e))), pM h a (m0 S f)) := by
    intro d
    induction d with
    | zero =>
      intro i hi
      rw [xb134_2, ml_gu, m_n2 h a S f (by omega), xcI_some, r2, if_neg (nI_nlt (by omega) (by omega)), List.drop_eq_nil_of_le (by omega)]
      rfl
    | succ d ih =>
      intro i hi
      have hlt : i < (T.2.2.1 n).length := by omega
      rw [xb134_2, ml_gu, m_n2 h a S f (by omega), xcI_some, r2, if_pos (nI_lt hlt (by omega)), ml_gu, m_nE h a S f (by omega) (by omega), xcI_some, r6 i _ (List.getElem?_eq_getElem hlt), List.drop_eq_getElem_cons hlt]
      by_cases hc : (T.2.2.1 n)[i] = e
      · rw [if_pos (by rw [hc]), List.idxOf_cons, hc]
        simp
      · rw [if_neg (fun q => hc (nI_inj (hs _ (List.getElem_mem hlt)) he q)), nI_1, ih (i + 1) (by omega), List.idxOf_cons]
        rw [show ((T.2.2.1 n)[i] == e) = false from by simpa using hc, cond_false, show i + 1 + List.idxOf e (List.drop (i + 1) (T.2.2.1 n)) = i + (List.idxOf e (List.drop (i + 1) (T.2.2.1 n)) + 1) by omega]
  rw [xb134]
  have := loop (T.2.2.1 n).length 0 (by omega)
  rw [List.drop_zero, Nat.zero_add] at this
  exact this
end MN
