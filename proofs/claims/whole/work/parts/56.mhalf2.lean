/-! The reference's tree: halves -/
theorem RM_congr {T T' : tS} {sb bx bx' f : Nat → Int32} (hR : RM T sb bx f) (h1 : T'.1 = T.1) (h2 : ∀ n, T'.2.1 n = T.2.1 n) (h3 : ∀ n k, T.2.1 n = some k → T'.2.2.1 n = T.2.2.1 n ∧ T'.2.2.2.1 n = T.2.2.2.1 n ∧ bx' n = bx n) : RM T' sb bx' f := by
  obtain ⟨r1, r2, r3, r4⟩ := hR
  refine ⟨by rw [h1]; exact r1, fun n hn => by rw [h2]; exact r2 n hn, fun n k hn => ?_, r4⟩
  rw [h2] at hn
  obtain ⟨e1, e2, e3⟩ := h3 n k hn
  rw [e1, e2, e3]
  exact r3 n k hn
theorem RM_clear {T : tS} {sb bx f : Nat → Int32} (hR : RM T sb bx f) {n k : Nat} (hn : T.2.1 n = some k) : RM (T.1, T.2.1, va_up T.2.2.1 n [], T.2.2.2) sb bx (upd f (64 + 10 * n + 2) 0) := by
  have n16 := RM_lt hR hn
  obtain ⟨r1, r2, r3, r4⟩ := hR
  refine ⟨by rw [pk_un (by omega)]; exact r1, fun m hm => by rw [pk_un (by omega)]; exact r2 m hm, fun m j hm => ?_, fun s hs hb => by rw [pk_un (by omega)]; exact r4 s hs hb⟩
  obtain ⟨q0, q1, q2, q3, q4, q5, q6⟩ := r3 m j hm
  by_cases e : m = n
  · subst e
    have e0 : va_up T.2.2.1 m [] m = [] := up_s _ _ _
    refine ⟨q0, by rw [pk_un (by omega)]; exact q1, ?_, by rw [pk_un (by omega)]; exact q3, by rw [pk_un (by omega)]; exact q4, ?_, fun i x hx => ?_⟩
    · show _ = nI (va_up T.2.2.1 m [] m).length
      rw [e0, pk_us]; rfl
    · show (va_up T.2.2.1 m [] m).length ≤ 5
      rw [e0]; decide
    · have hx' : (va_up T.2.2.1 m [] m)[i]? = some x := hx
      rw [e0] at hx'
      cases hx'
  · have e0 : va_up T.2.2.1 n [] m = T.2.2.1 m := up_n _ _ e
    refine ⟨q0, by rw [pk_un (by omega)]; exact q1, ?_, by rw [pk_un (by omega)]; exact q3, by rw [pk_un (by omega)]; exact q4, ?_, fun i x hx => ?_⟩
    · show _ = nI (va_up T.2.2.1 n [] m).length
      rw [e0, pk_un (by omega)]; exact q2
    · show (va_up T.2.2.1 n [] m).length ≤ 5
      rw [e0]; exact q5
    · have hx' : (va_up T.2.2.1 n [] m)[i]? = some x := hx
      rw [e0] at hx'
      have hi : i < (T.2.2.1 m).length := (List.getElem?_eq_some_iff.mp hx').1
      rw [pk_un (by omega)]
      exact q6 i x hx'
theorem insL_end (e : Nat) (l : List Nat) : insL l.length e l = l ++ [e] := by
  unfold insL
  rw [List.take_length, List.drop_length]
def hvT (T : tS) (x w k : Nat) (l1 l2 : List Nat) : tS := (T.1, va_up T.2.1 w (some k), va_up (va_up T.2.2.1 x l1) w l2, va_up (paS T.2.2.2.1 k w l2) w none, spS T.2.2.2.2 k w l2)
section HV
variable {h : xH} {a : Nat} {S : mS} {f : Nat → Int32} {T : tS} {sb bx b : Nat → Int32} {x w k : Nat} {l1 l2 : List Nat}
theorem hv_x (hxw : x ≠ w) : (hvT T x w k l1 l2).2.2.1 x = l1 := by
  show va_up (va_up T.2.2.1 x l1) w l2 x = l1
  rw [up_n _ _ hxw, up_s]
theorem hv_w : (hvT T x w k l1 l2).2.2.1 w = l2 := by
  show va_up (va_up T.2.2.1 x l1) w l2 w = l2
  rw [up_s]
theorem hv_o {n : Nat} (h1 : n ≠ x) (h2 : n ≠ w) : (hvT T x w k l1 l2).2.2.1 n = T.2.2.1 n := by
  show va_up (va_up T.2.2.1 x l1) w l2 n = _
  rw [up_n _ _ h2, up_n _ _ h1]
theorem hv_rw : (hvT T x w k l1 l2).2.1 w = some k := by
  show va_up T.2.1 w (some k) w = some k
  rw [up_s]
theorem hv_ro {n : Nat} (h2 : n ≠ w) : (hvT T x w k l1 l2).2.1 n = T.2.1 n := by
  show va_up T.2.1 w (some k) n = _
  rw [up_n _ _ h2]
theorem m_putx (hR : RM (hvT T x w k l1 l2) sb b f) (hxw : x ≠ w) (hx : T.2.1 x = some k) (len : l1.length ≤ 4) {e : Nat} (he16 : k ≠ 0 → e < 16) (hew : k ≠ 0 → e ≠ w) (hel : e ∉ l2) (hpe : k ≠ 0 → T.2.2.2.1 e = some x) : ∃ f', xM 133 [.ref a, .int (nI x), .int (nI l1.length), .int (nI e)] (pM h a (m0 S f)) = some (none, pM h a (m0 S f')) ∧ RM (hvT T x w k (l1 ++ [e]) l2) sb b f' ∧ FR f f' := by
  have hx' : (hvT T x w k l1 l2).2.1 x = some k := (hv_ro hxw).trans hx
  obtain ⟨f', q1, q2, q3⟩ := m_inserts (h := h) (a := a) (S := S) hR hx' (by rw [hv_x hxw]; exact len) (p := l1.length) (e := e) (by rw [hv_x hxw]; exact Nat.le_refl _) he16
  refine ⟨f', q1, RM_congr q2 rfl (fun _ => rfl) (fun n j hn => ⟨?_, ?_, rfl⟩), q3⟩
  · show va_up (va_up T.2.2.1 x (l1 ++ [e])) w l2 n = va_up (va_up (va_up T.2.2.1 x l1) w l2) x (insL l1.length e ((hvT T x w k l1 l2).2.2.1 x)) n
    rw [hv_x hxw, insL_end]
    by_cases q1 : n = x
    · subst q1; rw [up_n _ _ hxw, up_s, up_s]
    · rw [up_n _ _ q1]
      by_cases q2 : n = w
      · subst q2; rw [up_s, up_s]
      · rw [up_n _ _ q2, up_n _ _ q2, up_n _ _ q1, up_n _ _ q1]
  · show va_up (paS T.2.2.2.1 k w l2) w none n = (if k = 0 then va_up (paS T.2.2.2.1 k w l2) w none else va_up (va_up (paS T.2.2.2.1 k w l2) w none) e (some x)) n
    by_cases hk : k = 0
    · rw [if_pos hk]
    · rw [if_neg hk]
      by_cases hne : n = e
      · subst hne
        rw [up_s, up_n _ _ (hew hk)]
        unfold paS
        rw [if_neg (fun q => hel q.2)]
        exact hpe hk
      · rw [up_n _ _ hne]
theorem m_putw (hR : RM (hvT T x w k l1 l2) sb b f) (len : l2.length ≤ 4) {e : Nat} (he16 : k ≠ 0 → e < 16) (hew : k ≠ 0 → e ≠ w) : ∃ f', xM 133 [.ref a, .int (nI w), .int (nI l2.length), .int (nI e)] (pM h a (m0 S f)) = some (none, pM h a (m0 S f')) ∧ RM (hvT T x w k l1 (l2 ++ [e])) sb b f' ∧ FR f f' := by
  obtain ⟨f', q1, q2, q3⟩ := m_inserts (h := h) (a := a) (S := S) hR hv_rw (by rw [hv_w]; exact len) (p := l2.length) (e := e) (by rw [hv_w]; exact Nat.le_refl _) he16
  refine ⟨f', q1, RM_congr q2 rfl (fun _ => rfl) (fun n j hn => ⟨?_, ?_, rfl⟩), q3⟩
  · show va_up (va_up T.2.2.1 x l1) w (l2 ++ [e]) n = va_up (va_up (va_up T.2.2.1 x l1) w l2) w (insL l2.length e ((hvT T x w k l1 l2).2.2.1 w)) n
    rw [hv_w, insL_end, bx_uu]
  · show va_up (paS T.2.2.2.1 k w (l2 ++ [e])) w none n = (if k = 0 then va_up (paS T.2.2.2.1 k w l2) w none else va_up (va_up (paS T.2.2.2.1 k w l2) w none) e (some w)) n
    by_cases hk : k = 0
    · rw [if_pos hk]
      by_cases q2 : n = w
      · subst q2; rw [up_s, up_s]
      · rw [up_n _ _ q2, up_n _ _ q2]
        unfold paS
        rw [if_neg (fun q => q.1 hk), if_neg (fun q => q.1 hk)]
    · rw [if_neg hk]
      by_cases hne : n = e
      · subst hne
        rw [up_s, up_n _ _ (hew hk)]
        unfold paS
        rw [if_pos ⟨hk, List.mem_append_right _ (List.mem_singleton.mpr rfl)⟩]
      · rw [up_n _ _ hne]
        by_cases q2 : n = w
        · subst q2; rw [up_s, up_s]
        · rw [up_n _ _ q2, up_n _ _ q2]
          unfold paS
          by_cases hm : n ∈ l2
          · rw [if_pos ⟨hk, List.mem_append_left _ hm⟩, if_pos ⟨hk, hm⟩]
          · rw [if_neg (fun q => (List.mem_append.mp q.2).elim hm (fun z => hne (List.mem_singleton.mp z))), if_neg (fun q => hm q.2)]
theorem hv_EN (hE : EN T sb) (hx : T.2.1 x = some k) (hw : T.2.1 w = none) (h1 : ∀ e, e ∈ l1 → e ∈ T.2.2.1 x) (h2 : ∀ e, e ∈ l2 → e ∈ T.2.2.1 x) : EN (hvT T x w k l1 l2) sb := by
  have hxw : x ≠ w := fun q => by rw [q, hw] at hx; cases hx
  have hen : ∀ n e, e ∈ (hvT T x w k l1 l2).2.2.1 n → (n = w ∧ e ∈ T.2.2.1 x) ∨ (n ≠ w ∧ e ∈ T.2.2.1 n) := fun n e he => by
    by_cases q2 : n = w
    · subst q2; rw [hv_w] at he; exact Or.inl ⟨rfl, h2 e he⟩
    · by_cases q1 : n = x
      · subst q1; rw [hv_x hxw] at he; exact Or.inr ⟨q2, h1 e he⟩
      · rw [hv_o q1 q2] at he; exact Or.inr ⟨q2, he⟩
  refine ⟨fun n s hn he => ?_, fun n j c hn hc => ?_⟩
  · rcases hen n s he with ⟨q, he2⟩ | ⟨q, he2⟩
    · subst q
      rw [hv_rw] at hn
      exact hE.1 x s (by rw [hx]; exact hn) he2
    · rw [hv_ro q] at hn
      exact hE.1 n s hn he2
  · have : ∃ i, T.2.1 c = some i := by
      rcases hen n c hc with ⟨q, hc2⟩ | ⟨q, hc2⟩
      · subst q
        rw [hv_rw] at hn
        exact hE.2 x j c (by rw [hx]; exact hn) hc2
      · rw [hv_ro q] at hn
        exact hE.2 n j c hn hc2
    obtain ⟨i, hi⟩ := this
    exact ⟨i, (hv_ro (fun q : c = w => by rw [q, hw] at hi; cases hi)).trans hi⟩
/-- the boxes of x's old entries are what they were -/
theorem hv_E (hE : EN T sb) (hx : T.2.1 x = some k) (hw : T.2.1 w = none) (hxe : k ≠ 0 → x ∉ T.2.2.1 x) (hb : ∀ n j, T.2.1 n = some j → n ≠ x → b n = bx n) {y : Nat} (hy : y = x ∨ y = w) {e : Nat} (he : e ∈ T.2.2.1 x) : ebx (hvT T x w k l1 l2).2.1 sb b y e = ebx T.2.1 sb bx x e := by
  have hxw : x ≠ w := fun q => by rw [q, hw] at hx; cases hx
  have hyk : (hvT T x w k l1 l2).2.1 y = some k := by
    rcases hy with q | q
    · rw [q, hv_ro hxw]; exact hx
    · rw [q, hv_rw]
  unfold ebx
  cases k with
  | zero => rw [if_pos hyk, if_pos hx]
  | succ k =>
    rw [if_neg (by rw [hyk]; intro z; cases z), if_neg (by rw [hx]; intro z; cases z)]
    obtain ⟨j, hj⟩ := hE.2 x k e hx he
    exact hb e j hj (fun q => hxe (by omega) (q ▸ he))
theorem hv_bx (hR : RM (hvT T x w k l1 l2) sb b f) (hE : EN T sb) (hB : BK (hvT T x w k l1 l2).2.1 sb b) (hx : T.2.1 x = some k) (hw : T.2.1 w = none) (hxe : k ≠ 0 → x ∉ T.2.2.1 x) (h1 : ∀ e, e ∈ l1 → e ∈ T.2.2.1 x) (h2 : ∀ e, e ∈ l2 → e ∈ T.2.2.1 x) (hb : ∀ n j, T.2.1 n = some j → n ≠ x → b n = bx n) {y : Nat} (hy : y = x ∨ y = w) {ly : List Nat} (hly : (hvT T x w k l1 l2).2.2.1 y = ly) : ∃ f', xM 130 [.ref a, .int (nI y)] (pM h a (m0 S f)) = some (none, pM h a (m0 S f')) ∧ RM (hvT T x w k l1 l2) sb (va_up b y (fbx (ebx T.2.1 sb bx x) ly)) f' ∧ BK (hvT T x w k l1 l2).2.1 sb (va_up b y (fbx (ebx T.2.1 sb bx x) ly)) ∧ (∀ n j, T.2.1 n = some j → n ≠ x → va_up b y (fbx (ebx T.2.1 sb bx x) ly) n = bx n) ∧ FR f f' := by
  have hxw : x ≠ w := fun q => by rw [q, hw] at hx; cases hx
  have hyk : (hvT T x w k l1 l2).2.1 y = some k := by
    rcases hy with q | q
    · rw [q, hv_ro hxw]; exact hx
    · rw [q, hv_rw]
  have hE' := hv_EN (l1 := l1) (l2 := l2) hE hx hw h1 h2
  have hmem : ∀ e, e ∈ ly → e ∈ T.2.2.1 x := fun e he => by
    rcases hy with q | q
    · subst q; rw [hv_x hxw] at hly; subst hly; exact h1 e he
    · subst q; rw [hv_w] at hly; subst hly; exact h2 e he
  have hf : fbx (ebx (hvT T x w k l1 l2).2.1 sb b y) ((hvT T x w k l1 l2).2.2.1 y) = fbx (ebx T.2.1 sb bx x) ly := by
    rw [hly]
    exact fbx_congr fun e he => hv_E hE hx hw hxe hb hy (hmem e he)
  have y16 := RM_lt hR hyk
  refine ⟨_, m_boxes hR hE' hB hyk, ?_, ?_, fun n j hn hne => ?_, FR_upd _ _ (by omega) (by omega)⟩
  · rw [hf]; exact RM_box hR hyk _
  · rw [← hf]; exact BK_up hB (fbx_bk hE' hB hyk)
  · have hny : n ≠ y := fun q => by
      rcases hy with z | z
      · exact hne (q.trans z)
      · rw [q, z, hw] at hn; cases hn
    rw [up_n _ _ hny]
    exact hb n j hn hne
end HV
