/-! The reference's walk: nodes before what is below them, shapes as they come -/
def sA (S : mS) (k : Nat) (g : Nat → Int32) : mS := (va_up S.1 k g, S.2)
def sI (S : mS) (k : Nat) (v : Int32) : mS := (S.1, va_up S.2.1 k v, S.2.2)
theorem sA_s (S : mS) (k : Nat) (g : Nat → Int32) : (sA S k g).1 k = g := by
  show va_up S.1 k g k = g
  exact up_s _ _ _
theorem sA_n (S : mS) {k j : Nat} (g : Nat → Int32) (hj : j ≠ k) : (sA S k g).1 j = S.1 j := by
  show va_up S.1 k g j = S.1 j
  exact up_n _ _ hj
theorem sI_s (S : mS) (k : Nat) (v : Int32) : (sI S k v).2.1 k = v := by
  show va_up S.2.1 k v k = v
  exact up_s _ _ _
theorem sI_n (S : mS) {k j : Nat} (v : Int32) (hj : j ≠ k) : (sI S k v).2.1 j = S.2.1 j := by
  show va_up S.2.1 k v j = S.2.1 j
  exact up_n _ _ hj
theorem m0_sA (S : mS) (f g : Nat → Int32) {k : Nat} (hk : k ≠ 0) : (va_up (m0 S f).1 k g, (m0 S f).2) = m0 (sA S k g) f := by
  refine Prod.ext ?_ rfl
  funext j
  show va_up (va_up S.1 0 f) k g j = va_up (va_up S.1 k g) 0 f j
  by_cases h : j = k
  · subst h; rw [up_s, up_n _ _ hk, up_s]
  · by_cases h0 : j = 0
    · subst h0; rw [up_n _ _ h, up_s, up_s]
    · rw [up_n _ _ h, up_n _ _ h0, up_n _ _ h0, up_n _ _ h]
section ACC
variable (h : xH) (a : Nat) (S : mS) (f : Nat → Int32)
theorem a_r8 {i : Nat} (hi : i < 24) : xri (pM h a (m0 S f)) 0 (a + 7) (nI i) = some (S.1 8 i) := by
  rw [ml_r8, xin_nI hi (by decide), cond_true, nI_clamp (by omega), m0_n _ _ (by decide)]
theorem a_r9 {i : Nat} (hi : i < 24) : xri (pM h a (m0 S f)) 0 (a + 8) (nI i) = some (S.1 9 i) := by
  rw [ml_r9, xin_nI hi (by decide), cond_true, nI_clamp (by omega), m0_n _ _ (by decide)]
theorem a_r10 {i : Nat} (hi : i < 24) : xri (pM h a (m0 S f)) 0 (a + 9) (nI i) = some (S.1 10 i) := by
  rw [ml_r10, xin_nI hi (by decide), cond_true, nI_clamp (by omega), m0_n _ _ (by decide)]
theorem a_r11 {i : Nat} (hi : i < 24) : xri (pM h a (m0 S f)) 0 (a + 10) (nI i) = some (S.1 11 i) := by
  rw [ml_r11, xin_nI hi (by decide), cond_true, nI_clamp (by omega), m0_n _ _ (by decide)]
theorem a_r13 {i : Nat} (hi : i < 16) : xri (pM h a (m0 S f)) 0 (a + 11) (nI i) = some (S.1 13 i) := by
  rw [ml_r13, xin_nI hi (by decide), cond_true, nI_clamp (by omega), m0_n _ _ (by decide)]
theorem a_r15 {i : Nat} (hi : i < 16) : xri (pM h a (m0 S f)) 0 (a + 12) (nI i) = some (S.1 15 i) := by
  rw [ml_r15, xin_nI hi (by decide), cond_true, nI_clamp (by omega), m0_n _ _ (by decide)]
theorem a_w8 {i : Nat} (hi : i < 24) (v : Int32) : xwi (pM h a (m0 S f)) 0 (a + 7) (nI i) v = some (pM h a (m0 (sA S 8 (upd (S.1 8) i v)) f)) := by
  rw [ml_w8, xin_nI hi (by decide), cond_true, nI_clamp (by omega), m0_n _ _ (by decide), m0_sA _ _ _ (by decide)]
theorem a_w9 {i : Nat} (hi : i < 24) (v : Int32) : xwi (pM h a (m0 S f)) 0 (a + 8) (nI i) v = some (pM h a (m0 (sA S 9 (upd (S.1 9) i v)) f)) := by
  rw [ml_w9, xin_nI hi (by decide), cond_true, nI_clamp (by omega), m0_n _ _ (by decide), m0_sA _ _ _ (by decide)]
theorem a_w10 {i : Nat} (hi : i < 24) (v : Int32) : xwi (pM h a (m0 S f)) 0 (a + 9) (nI i) v = some (pM h a (m0 (sA S 10 (upd (S.1 10) i v)) f)) := by
  rw [ml_w10, xin_nI hi (by decide), cond_true, nI_clamp (by omega), m0_n _ _ (by decide), m0_sA _ _ _ (by decide)]
theorem a_w11 {i : Nat} (hi : i < 24) (v : Int32) : xwi (pM h a (m0 S f)) 0 (a + 10) (nI i) v = some (pM h a (m0 (sA S 11 (upd (S.1 11) i v)) f)) := by
  rw [ml_w11, xin_nI hi (by decide), cond_true, nI_clamp (by omega), m0_n _ _ (by decide), m0_sA _ _ _ (by decide)]
theorem a_w13 {i : Nat} (hi : i < 16) (v : Int32) : xwi (pM h a (m0 S f)) 0 (a + 11) (nI i) v = some (pM h a (m0 (sA S 13 (upd (S.1 13) i v)) f)) := by
  rw [ml_w13, xin_nI hi (by decide), cond_true, nI_clamp (by omega), m0_n _ _ (by decide), m0_sA _ _ _ (by decide)]
theorem a_w15 {i : Nat} (hi : i < 16) (v : Int32) : xwi (pM h a (m0 S f)) 0 (a + 12) (nI i) v = some (pM h a (m0 (sA S 15 (upd (S.1 15) i v)) f)) := by
  rw [ml_w15, xin_nI hi (by decide), cond_true, nI_clamp (by omega), m0_n _ _ (by decide), m0_sA _ _ _ (by decide)]
theorem a_i12 : xfI (pM h a (m0 S f)) a 5 12 = some (S.2.1 12) := ml_i12 ..
theorem a_i14 : xfI (pM h a (m0 S f)) a 5 14 = some (S.2.1 14) := ml_i14 ..
theorem a_i16 : xfI (pM h a (m0 S f)) a 5 16 = some (S.2.1 16) := ml_i16 ..
theorem a_p12 (v : Int32) : xpf (pM h a (m0 S f)) a 5 12 (.int v) = some (pM h a (m0 (sI S 12 v) f)) := ml_p12 ..
theorem a_p14 (v : Int32) : xpf (pM h a (m0 S f)) a 5 14 (.int v) = some (pM h a (m0 (sI S 14 v) f)) := ml_p14 ..
theorem a_p16 (v : Int32) : xpf (pM h a (m0 S f)) a 5 16 (.int v) = some (pM h a (m0 (sI S 16 v) f)) := ml_p16 ..
end ACC
/-- the row's front is the list -/
def HL (g : Nat → Int32) (l : List Nat) : Prop := ∀ i e, l[i]? = some e → g i = nI e
theorem HL_nil (g : Nat → Int32) : HL g [] := fun _ _ q => by cases q
theorem HL_pre {g : Nat → Int32} {l l' : List Nat} (hh : HL g (l ++ l')) : HL g l := fun i e q => by
  have hi : i < l.length := (List.getElem?_eq_some_iff.mp q).1
  exact hh i e (by rw [List.getElem?_append_left hi]; exact q)
theorem HL_last {g : Nat → Int32} {l : List Nat} {e : Nat} (hh : HL g (l ++ [e])) : g l.length = nI e := hh _ e (by rw [List.getElem?_append_right (Nat.le_refl _), Nat.sub_self]; rfl)
theorem HL_snoc {g : Nat → Int32} {l : List Nat} (hh : HL g l) (e : Nat) : HL (upd g l.length (nI e)) (l ++ [e]) := fun i x q => by
  by_cases hi : i < l.length
  · rw [pk_un (by omega)]
    rw [List.getElem?_append_left hi] at q
    exact hh i x q
  · have hl := (List.getElem?_eq_some_iff.mp q).1
    rw [List.length_append, List.length_singleton] at hl
    have hi : i = l.length := by omega
    subst hi
    rw [pk_us]
    rw [List.getElem?_append_right (Nat.le_refl _), Nat.sub_self] at q
    have : e = x := Option.some.inj q
    rw [this]
theorem nI_sub1 (i : Int32) : i - 1 = i + (-1) := by
  rw [Int32.sub_eq_add_neg]
/-- what the walk may write -/
def SV (S S' : mS) : Prop := (∀ k, k ≠ 8 → k ≠ 9 → k ≠ 10 → k ≠ 11 → k ≠ 13 → S'.1 k = S.1 k) ∧ (∀ k, k ≠ 12 → k ≠ 14 → S'.2.1 k = S.2.1 k) ∧ S'.2.2 = S.2.2
theorem SV_rf (S : mS) : SV S S := ⟨fun _ _ _ _ _ _ => rfl, fun _ _ _ => rfl, rfl⟩
theorem SV_tr {S S' S'' : mS} (h1 : SV S S') (h2 : SV S' S'') : SV S S'' := ⟨fun k a b c d e => (h2.1 k a b c d e).trans (h1.1 k a b c d e), fun k a b => (h2.2.1 k a b).trans (h1.2.1 k a b), h2.2.2.trans h1.2.2⟩
theorem SV_A (S : mS) {k : Nat} (g : Nat → Int32) (hk : k = 8 ∨ k = 9 ∨ k = 10 ∨ k = 11 ∨ k = 13) : SV S (sA S k g) := ⟨fun j a b c d e => sA_n S g (by omega), fun _ _ _ => rfl, rfl⟩
theorem SV_I (S : mS) {k : Nat} (v : Int32) (hk : k = 12 ∨ k = 14) : SV S (sI S k v) := ⟨fun _ _ _ _ _ _ => rfl, fun j a b => sI_n S v (by omega), rfl⟩
theorem SV_SC {S S' : mS} (hv : SV S S') : SC S S' := ⟨fun k hk _ => hv.1 k (fun q => by subst q; cases hk) (fun q => by subst q; cases hk) (fun q => by subst q; cases hk) (fun q => by subst q; cases hk) (fun q => by subst q; cases hk), fun k hk => hv.2.1 k (fun q => by subst q; cases hk) (fun q => by subst q; cases hk), hv.2.2⟩
section WK
variable {h : xH} {a : Nat} {f : Nat → Int32} {T : tS} {sb bx : Nat → Int32}
def rkv (T : tS) (m : Nat) : Nat := (T.2.1 m).getD 0
def PW (T : tS) (m : Nat) : List Nat := preR T.2.2.1 (rkv T m) m
def SW (T : tS) (m : Nat) : List Nat := shR T.2.2.1 (rkv T m) m
def dep (T : tS) (K m : Nat) : Nat := K - rkv T m
theorem rkv_eq {m k : Nat} (hm : T.2.1 m = some k) : rkv T m = k := by
  unfold rkv
  rw [hm]; rfl
/-- the children are laid on the stack, the last one first -/
theorem w_push (hR : RM T sb bx f) {K n k : Nat} (hn : T.2.1 n = some (k + 1)) (hK : k + 1 ≤ K) (hch : ∀ c, c ∈ T.2.2.1 n → T.2.1 c = some k) (l1 l5 : Int32) : ∀ (i : Nat) (S : mS) (rs : List Nat), i ≤ (T.2.2.1 n).length → HL (S.1 8) rs.reverse → HL (S.1 9) (rs.reverse.map (dep T K)) → rs.length + i ≤ 24 →
    ∃ S' l6, xE 143 147 [some (.ref a), some (.int l1), some (.int (nI rs.length)), some (.int (nI n)), some (.int (nI (dep T K n))), some (.int l5), some (.int (nI i + (-1)))] [] (pM h a (m0 S f)) = xE 143 26 [some (.ref a), some (.int l1), some (.int (nI ((T.2.2.1 n).take i ++ rs).length)), some (.int (nI n)), some (.int (nI (dep T K n))), some (.int l5), l6] [] (pM h a (m0 S' f)) ∧ HL (S'.1 8) ((T.2.2.1 n).take i ++ rs).reverse ∧ HL (S'.1 9) (((T.2.2.1 n).take i ++ rs).reverse.map (dep T K)) ∧ (∀ k, k ≠ 8 → k ≠ 9 → S'.1 k = S.1 k) ∧ S'.2 = S.2 := by
  obtain ⟨n16, r1, r2, r3, r4, r5, r6⟩ := hR.2.2.1 n _ hn
  intro i
  induction i with
  | zero =>
    intro S rs _ h8 h9 _
    refine ⟨S, some (.int (nI 0 + (-1))), ?_, h8, h9, fun _ _ _ => rfl, rfl⟩
    rw [xb143_147, if_pos (show nI 0 + (-1) < 0 by decide)]
    rfl
  | succ i ih =>
    intro S rs hi h8 h9 hb
    have hlt : i < (T.2.2.1 n).length := by omega
    have hmem : (T.2.2.1 n)[i] ∈ T.2.2.1 n := List.getElem_mem hlt
    have hdc : dep T K (T.2.2.1 n)[i] = dep T K n + 1 := by
      unfold dep
      rw [rkv_eq hn, rkv_eq (hch _ hmem)]
      omega
    have hl8 : rs.reverse.length = rs.length := List.length_reverse
    have hl9 : (rs.reverse.map (dep T K)).length = rs.length := by rw [List.length_map, hl8]
    have h8' := HL_snoc h8 (T.2.2.1 n)[i]
    have h9' := HL_snoc h9 (dep T K (T.2.2.1 n)[i])
    rw [hl8] at h8'
    rw [hl9] at h9'
    obtain ⟨S', l6, q1, q2, q3, q4, q5⟩ := ih (sA (sA S 8 (upd (S.1 8) rs.length (nI (T.2.2.1 n)[i]))) 9 (upd (S.1 9) rs.length (nI (dep T K (T.2.2.1 n)[i])))) ((T.2.2.1 n)[i] :: rs) (by omega)
      (by rw [sA_n _ _ (by decide), sA_s, List.reverse_cons]; exact h8')
      (by rw [sA_s, List.reverse_cons, List.map_append]; exact h9') (by rw [List.length_cons]; omega)
    have htk : (T.2.2.1 n).take i ++ (T.2.2.1 n)[i] :: rs = (T.2.2.1 n).take (i + 1) ++ rs := by
      rw [List.take_succ_eq_append_getElem hlt, List.append_assoc]; rfl
    rw [htk] at q1 q2 q3
    refine ⟨S', l6, ?_, q2, q3, fun k k8 k9 => by rw [q4 k k8 k9, sA_n _ _ k9, sA_n _ _ k8], q5⟩
    rw [xb143_147, pk_m1, if_neg (nI_pos (by omega)), ml_gu, m_n1 h a S f (by omega), xcI_some, r1, if_neg (show ¬ k + 1 = 0 by omega), if_pos rfl, ml_f8, Option.bind_some, ml_gu, m_nE h a S f (by omega) (by omega), xcI_some, r6 i _ (List.getElem?_eq_getElem hlt), a_w8 h a S f (by omega), Option.bind_some, ml_f9, Option.bind_some, nI_1, a_w9 h a _ f (by omega), Option.bind_some, nI_1, sA_n _ _ (by decide), ← hdc]
    exact q1
/-- a leaf's shapes are noted -/
theorem w_leaf (hR : RM T sb bx f) {n : Nat} (hn : T.2.1 n = some 0) (l1 l2 l4 : Int32) : ∀ (d i : Nat) (S : mS) (sh : List Nat), i + d = (T.2.2.1 n).length → HL (S.1 13) sh → S.2.1 14 = nI sh.length → sh.length + d ≤ 16 →
    ∃ S', xE 143 90 [some (.ref a), some (.int l1), some (.int l2), some (.int (nI n)), some (.int l4), some (.int (nI (T.2.2.1 n).length)), some (.int (nI i))] [] (pM h a (m0 S f)) = xE 143 147 [some (.ref a), some (.int l1), some (.int l2), some (.int (nI n)), some (.int l4), some (.int (nI (T.2.2.1 n).length)), some (.int (nI (T.2.2.1 n).length - 1))] [] (pM h a (m0 S' f)) ∧ HL (S'.1 13) (sh ++ (T.2.2.1 n).drop i) ∧ S'.2.1 14 = nI (sh ++ (T.2.2.1 n).drop i).length ∧ (∀ k, k ≠ 13 → S'.1 k = S.1 k) ∧ (∀ k, k ≠ 14 → S'.2.1 k = S.2.1 k) ∧ S'.2.2 = S.2.2 := by
  obtain ⟨n16, r1, r2, r3, r4, r5, r6⟩ := hR.2.2.1 n _ hn
  intro d
  induction d with
  | zero =>
    intro i S sh hi h13 h14 _
    refine ⟨S, ?_, ?_, ?_, fun _ _ => rfl, fun _ _ => rfl, rfl⟩
    · rw [xb143_90, if_neg (nI_nlt (by omega) (by omega))]
    · rw [List.drop_eq_nil_of_le (by omega), List.append_nil]; exact h13
    · rw [List.drop_eq_nil_of_le (by omega), List.append_nil]; exact h14
  | succ d ih =>
    intro i S sh hi h13 h14 hb
    have hlt : i < (T.2.2.1 n).length := by omega
    have h13' := HL_snoc h13 (T.2.2.1 n)[i]
    obtain ⟨S', q1, q2, q3, q4, q5, q6⟩ := ih (i + 1) (sI (sA S 13 (upd (S.1 13) sh.length (nI (T.2.2.1 n)[i]))) 14 (nI (sh.length + 1))) (sh ++ [(T.2.2.1 n)[i]]) (by omega)
      (by show HL ((sA S 13 _).1 13) _; rw [sA_s]; exact h13')
      (by rw [sI_s, List.length_append]; rfl) (by rw [List.length_append, List.length_singleton]; omega)
    have hdr : sh ++ [(T.2.2.1 n)[i]] ++ (T.2.2.1 n).drop (i + 1) = sh ++ (T.2.2.1 n).drop i := by
      rw [List.drop_eq_getElem_cons hlt, List.append_assoc]; rfl
    rw [hdr] at q2 q3
    refine ⟨S', ?_, q2, q3, fun k hk => by rw [q4 k hk]; exact sA_n _ _ hk, fun k hk => by rw [q5 k hk, sI_n _ _ hk]; rfl, q6⟩
    rw [xb143_90, if_pos (nI_lt hlt (by omega)), ml_gu, m_n1 h a S f (by omega), xcI_some, r1, if_pos rfl, if_pos rfl, ml_f13, Option.bind_some, a_i14, Option.bind_some, ml_gu, m_nE h a S f (by omega) (by omega), xcI_some, r6 i _ (List.getElem?_eq_getElem hlt), h14, a_w13 h a S f (by omega), Option.bind_some, a_i14, Option.bind_some, show (sA S 13 (upd (S.1 13) sh.length (nI (T.2.2.1 n)[i]))).2.1 14 = nI sh.length from h14, nI_1, a_p14, Option.bind_some, nI_1]
    exact q1
end WK
