/-! The reference's tree methods over its row -/
section MT
variable (h : xH) (a : Nat) (S : mS) (f : Nat → Int32)
theorem m_n0 {n : Nat} (hn : n < 24) : xM 127 [.ref a, .int (nI n), .int 0] (pM h a (m0 S f)) = some (some (.int (f (64 + 10 * n + 0))), pM h a (m0 S f)) := m_ofNode h a S f (w := 0) (by omega)
theorem m_n1 {n : Nat} (hn : n < 24) : xM 127 [.ref a, .int (nI n), .int 1] (pM h a (m0 S f)) = some (some (.int (f (64 + 10 * n + 1))), pM h a (m0 S f)) := m_ofNode h a S f (w := 1) (by omega)
theorem m_n2 {n : Nat} (hn : n < 24) : xM 127 [.ref a, .int (nI n), .int 2] (pM h a (m0 S f)) = some (some (.int (f (64 + 10 * n + 2))), pM h a (m0 S f)) := m_ofNode h a S f (w := 2) (by omega)
theorem m_n3 {n : Nat} (hn : n < 24) : xM 127 [.ref a, .int (nI n), .int 3] (pM h a (m0 S f)) = some (some (.int (f (64 + 10 * n + 3))), pM h a (m0 S f)) := m_ofNode h a S f (w := 3) (by omega)
theorem m_n4 {n : Nat} (hn : n < 24) : xM 127 [.ref a, .int (nI n), .int 4] (pM h a (m0 S f)) = some (some (.int (f (64 + 10 * n + 4))), pM h a (m0 S f)) := m_ofNode h a S f (w := 4) (by omega)
theorem m_n5 {n : Nat} (hn : n < 24) : xM 127 [.ref a, .int (nI n), .int 5] (pM h a (m0 S f)) = some (some (.int (f (64 + 10 * n + (5 + 0)))), pM h a (m0 S f)) := m_ofNode h a S f (w := 5) (by omega)
theorem m_nE {n i : Nat} (hn : n < 24) (hi : i < 5) : xM 127 [.ref a, .int (nI n), .int (5 + nI i)] (pM h a (m0 S f)) = some (some (.int (f (64 + 10 * n + (5 + i)))), pM h a (m0 S f)) := by
  rw [show (5 : Int32) = nI 5 from rfl, nI_add]
  exact m_ofNode h a S f (by omega)
theorem m_t0 {n : Nat} (hn : n < 24) (v : Int32) : xM 128 [.ref a, .int (nI n), .int 0, .int v] (pM h a (m0 S f)) = some (none, pM h a (m0 S (upd f (64 + 10 * n + 0) v))) := m_tellNode h a S f (w := 0) (by omega) v
theorem m_t1 {n : Nat} (hn : n < 24) (v : Int32) : xM 128 [.ref a, .int (nI n), .int 1, .int v] (pM h a (m0 S f)) = some (none, pM h a (m0 S (upd f (64 + 10 * n + 1) v))) := m_tellNode h a S f (w := 1) (by omega) v
theorem m_t2 {n : Nat} (hn : n < 24) (v : Int32) : xM 128 [.ref a, .int (nI n), .int 2, .int v] (pM h a (m0 S f)) = some (none, pM h a (m0 S (upd f (64 + 10 * n + 2) v))) := m_tellNode h a S f (w := 2) (by omega) v
theorem m_t3 {n : Nat} (hn : n < 24) (v : Int32) : xM 128 [.ref a, .int (nI n), .int 3, .int v] (pM h a (m0 S f)) = some (none, pM h a (m0 S (upd f (64 + 10 * n + 3) v))) := m_tellNode h a S f (w := 3) (by omega) v
theorem m_t4 {n : Nat} (hn : n < 24) (v : Int32) : xM 128 [.ref a, .int (nI n), .int 4, .int v] (pM h a (m0 S f)) = some (none, pM h a (m0 S (upd f (64 + 10 * n + 4) v))) := m_tellNode h a S f (w := 4) (by omega) v
theorem m_tE {n i : Nat} (hn : n < 24) (hi : i < 5) (v : Int32) : xM 128 [.ref a, .int (nI n), .int (5 + nI i), .int v] (pM h a (m0 S f)) = some (none, pM h a (m0 S (upd f (64 + 10 * n + (5 + i)) v))) := by
  rw [show (5 : Int32) = nI 5 from rfl, nI_add]
  exact m_tellNode h a S f (by omega) v
theorem m_s0 {s : Nat} (hs : s < 16) : xM 119 [.ref a, .int (nI s), .int 0] (pM h a (m0 S f)) = some (some (.int (f (4 * s + 0))), pM h a (m0 S f)) := m_of0 h a S f (w := 0) (by omega)
theorem m_s1 {s : Nat} (hs : s < 16) : xM 119 [.ref a, .int (nI s), .int 1] (pM h a (m0 S f)) = some (some (.int (f (4 * s + 1))), pM h a (m0 S f)) := m_of0 h a S f (w := 1) (by omega)
theorem m_s2 {s : Nat} (hs : s < 16) : xM 119 [.ref a, .int (nI s), .int 2] (pM h a (m0 S f)) = some (some (.int (f (4 * s + 2))), pM h a (m0 S f)) := m_of0 h a S f (w := 2) (by omega)
theorem m_s3 {s : Nat} (hs : s < 16) : xM 119 [.ref a, .int (nI s), .int 3] (pM h a (m0 S f)) = some (some (.int (f (4 * s + 3))), pM h a (m0 S f)) := m_of0 h a S f (w := 3) (by omega)
end MT
/-- entries are entries: shapes with boxes, nodes in use -/
def EN (T : tS) (sb : Nat → Int32) : Prop := (∀ n s, T.2.1 n = some 0 → s ∈ T.2.2.1 n → s < 16 ∧ sb s ≠ 0) ∧ ∀ n k c, T.2.1 n = some (k + 1) → c ∈ T.2.2.1 n → ∃ j, T.2.1 c = some j
section MT2
variable {h : xH} {a : Nat} {S : mS} {f : Nat → Int32} {T : tS} {sb bx : Nat → Int32}
theorem RM_lt (hR : RM T sb bx f) {n k : Nat} (hn : T.2.1 n = some k) : n < 16 := (hR.2.2.1 n k hn).1
theorem ebx_ok (hE : EN T sb) (hB : BK T.2.1 sb bx) {n k e : Nat} (hn : T.2.1 n = some k) (he : e ∈ T.2.2.1 n) : bok0 (ebx T.2.1 sb bx n e) := by
  unfold ebx
  cases k with
  | zero => rw [if_pos hn]; exact Or.inr (hB.1 e (hE.1 n e hn he).2)
  | succ k =>
    rw [if_neg (by rw [hn]; intro z; cases z)]
    obtain ⟨j, hj⟩ := hE.2 n k e hn he
    exact hB.2 e j hj
theorem m_entryBox (hR : RM T sb bx f) (hE : EN T sb) (hB : BK T.2.1 sb bx) {n k e : Nat} (hn : T.2.1 n = some k) (he : e ∈ T.2.2.1 n) : xM 129 [.ref a, .int (nI n), .int (nI e)] (pM h a (m0 S f)) = some (some (.int (e2m (ebx T.2.1 sb bx n e))), pM h a (m0 S f)) := by
  obtain ⟨n16, r1, r2, r3, r4, r5, r6⟩ := hR.2.2.1 n k hn
  rw [xb129, ml_gu, m_n1 h a S f (by omega), xcI_some, r1]
  unfold ebx
  cases k with
  | zero =>
    obtain ⟨s1, s2⟩ := hE.1 n e hn he
    rw [if_pos rfl, if_pos rfl, ml_gu, m_s1 h a S f s1, xcI_some, if_pos hn, hR.2.2.2 e s1 s2, e2m_ok (hB.1 e s2)]
  | succ k =>
    obtain ⟨j, hj⟩ := hE.2 n k e hn he
    obtain ⟨e16, q1, q2, q3, q4, -⟩ := hR.2.2.1 e j hj
    have h0 : T.2.1 n ≠ some 0 := by rw [hn]; intro z; cases z
    rw [if_neg (show ¬ k + 1 = 0 by omega), if_neg (show ¬ (0 : Int32) = 1 by decide), if_neg h0, ml_gu, m_n4 h a S f (by omega), xcI_some, q4]
theorem m_boxes (hR : RM T sb bx f) (hE : EN T sb) (hB : BK T.2.1 sb bx) {n k : Nat} (hn : T.2.1 n = some k) : xM 130 [.ref a, .int (nI n)] (pM h a (m0 S f)) = some (none, pM h a (m0 S (upd f (64 + 10 * n + 4) (e2m (fbx (ebx T.2.1 sb bx n) (T.2.2.1 n)))))) := by
  obtain ⟨n16, r1, r2, r3, r4, r5, r6⟩ := hR.2.2.1 n k hn
  have loop : ∀ (d i : Nat) (b : Int32), i + d = (T.2.2.1 n).length → bok0 b → xE 130 4 [some (.ref a), some (.int (nI n)), some (.int (e2m b)), some (.int (nI i))] [] (pM h a (m0 S f)) = some (none, pM h a (m0 S (upd f (64 + 10 * n + 4) (e2m (((T.2.2.1 n).drop i).foldl (fun b e => cun b (ebx T.2.1 sb bx n e)) b))))) := by
    intro d
    induction d with
    | zero =>
      intro i b hi hb
      rw [xb130_4, ml_gu, m_n2 h a S f (by omega), xcI_some, r2, if_neg (nI_nlt (by omega) (by omega)), ml_gu, m_t4 h a S f (by omega), xcV_some, List.drop_eq_nil_of_le (by omega), List.foldl_nil]
    | succ d ih =>
      intro i b hi hb
      have hlt : i < (T.2.2.1 n).length := by omega
      have hmem : (T.2.2.1 n)[i] ∈ T.2.2.1 n := List.getElem_mem hlt
      rw [xb130_4, ml_gu, m_n2 h a S f (by omega), xcI_some, r2, if_pos (nI_lt hlt (by omega)), ml_gu, m_nE h a S f (by omega) (by omega), xcI_some, r6 i _ (List.getElem?_eq_getElem hlt), ml_gu, m_entryBox hR hE hB hn hmem, xcI_some, m_union hb (ebx_ok hE hB hn hmem), xcI_some, nI_1]
      rw [ih (i + 1) _ (by omega) (bok0_un hb (ebx_ok hE hB hn hmem)), List.drop_eq_getElem_cons hlt, List.foldl_cons]
  rw [xb130]
  have := loop (T.2.2.1 n).length 0 0 (by omega) (Or.inl rfl)
  rw [List.drop_zero] at this
  exact this
/-- what may have changed: the tree's cells alone -/
def FR (f f' : Nat → Int32) : Prop := ∀ i, i < 64 ∨ 305 ≤ i → f' i = f i
theorem FR_rf (f : Nat → Int32) : FR f f := fun _ _ => rfl
theorem FR_tr {f g k : Nat → Int32} (h1 : FR f g) (h2 : FR g k) : FR f k := fun i hi => (h2 i hi).trans (h1 i hi)
theorem FR_upd (f : Nat → Int32) {i : Nat} (v : Int32) (h1 : 64 ≤ i) (h2 : i < 305) : FR f (upd f i v) := fun j hj => pk_un (by omega)
theorem RM_box (hR : RM T sb bx f) {n k : Nat} (hn : T.2.1 n = some k) (b : Int32) : RM T sb (va_up bx n b) (upd f (64 + 10 * n + 4) (e2m b)) := by
  have n16 := RM_lt hR hn
  obtain ⟨r1, r2, r3, r4⟩ := hR
  refine ⟨by rw [pk_un (by omega)]; exact r1, fun m hm => by rw [pk_un (by omega)]; exact r2 m hm, fun m j hm => ?_, fun s hs hb => by rw [pk_un (by omega)]; exact r4 s hs hb⟩
  obtain ⟨q0, q1, q2, q3, q4, q5, q6⟩ := r3 m j hm
  refine ⟨q0, by rw [pk_un (by omega)]; exact q1, by rw [pk_un (by omega)]; exact q2, by rw [pk_un (by omega)]; exact q3, ?_, q5, fun i e he => ?_⟩
  · by_cases e : m = n
    · subst e; rw [pk_us, up_s]
    · rw [pk_un (by omega), up_n _ _ e]; exact q4
  · have hi : i < (T.2.2.1 m).length := (List.getElem?_eq_some_iff.mp he).1
    rw [pk_un (by omega)]
    exact q6 i e he
theorem BK_up (hB : BK T.2.1 sb bx) {n : Nat} {b : Int32} (hb : bok0 b) : BK T.2.1 sb (va_up bx n b) := ⟨hB.1, fun m j hm => by
  by_cases e : m = n
  · subst e; rw [up_s]; exact hb
  · rw [up_n _ _ e]; exact hB.2 m j hm⟩
theorem fbx_bk (hE : EN T sb) (hB : BK T.2.1 sb bx) {n k : Nat} (hn : T.2.1 n = some k) : bok0 (fbx (ebx T.2.1 sb bx n) (T.2.2.1 n)) := fbx_ok _ _ (Or.inl rfl) fun e he => ebx_ok hE hB hn he
/-- the box of x is made anew: x is right then; only its parent may be wrong -/
theorem Con_step {I : Nat → Prop} (hI : INVt T I) {x k : Nat} (hx : T.2.1 x = some k) (hc : ∀ n j, T.2.1 n = some j → n ≠ x → Con T.2.1 T.2.2.1 sb bx n) : ∀ n j, T.2.1 n = some j → (∀ p, T.2.2.2.1 x = some p → n ≠ p) → Con T.2.1 T.2.2.1 sb (va_up bx x (fbx (ebx T.2.1 sb bx x) (T.2.2.1 x))) n := by
  intro n j hn hp
  have hx' : ∀ m i, T.2.1 m = some i → x ∈ T.2.2.1 m → i ≠ 0 → T.2.2.2.1 x = some m := fun m i hm hxm hi => by
    cases i with
    | zero => exact absurd rfl hi
    | succ i => exact (hI.2.2.2.1 m i x hm hxm).2
  have same : ∀ m i, T.2.1 m = some i → (i ≠ 0 → x ∉ T.2.2.1 m) → fbx (ebx T.2.1 sb (va_up bx x (fbx (ebx T.2.1 sb bx x) (T.2.2.1 x))) m) (T.2.2.1 m) = fbx (ebx T.2.1 sb bx m) (T.2.2.1 m) := fun m i hm hxm => by
    refine fbx_congr fun e he => ?_
    unfold ebx
    cases i with
    | zero => rw [if_pos hm, if_pos hm]
    | succ i =>
      have h0 : T.2.1 m ≠ some 0 := by rw [hm]; intro z; cases z
      rw [if_neg h0, if_neg h0, up_n _ _ (fun q : e = x => hxm (by omega) (q ▸ he))]
  unfold Con
  by_cases e : n = x
  · subst e
    rw [up_s, same n j hn]
    intro hj q
    have h1 := hx' n j hn q hj
    cases j with
    | zero => exact hj rfl
    | succ j =>
      have h2 := (hI.2.2.2.1 n j n hn q).1
      rw [hn] at h2
      have := Option.some.inj h2
      omega
  · rw [up_n _ _ e, same n j hn]
    · exact hc n j hn e
    · intro hj q
      exact hp n (hx' n j hn q hj) rfl
theorem EN_of {I : Nat → Prop} (hI : INVt T I) (hs : ∀ s, I s → sb s ≠ 0) : EN T sb := ⟨fun n s hn he => by
  have := hI.2.2.2.2.1 n s hn he
  exact ⟨this.1, hs s this.2.1⟩, fun n k c hn hc => ⟨k, (hI.2.2.2.1 n k c hn hc).1⟩⟩
theorem m_boxesUp {I : Nat → Prop} (hI : INVt T I) (hE : EN T sb) {r : Nat} (hr : T.2.1 T.1 = some r) : ∀ (d : Nat) {f : Nat → Int32} {bx : Nat → Int32} {x k : Nat} (l1 : Int32), RM T sb bx f → BK T.2.1 sb bx → T.2.1 x = some k → (∀ n j, T.2.1 n = some j → n ≠ x → Con T.2.1 T.2.2.1 sb bx n) → r - k < d → ∃ f' bx', xE 131 2 [some (.ref a), some (.int l1), some (.int (nI x))] [] (pM h a (m0 S f)) = some (none, pM h a (m0 S f')) ∧ RM T sb bx' f' ∧ BK T.2.1 sb bx' ∧ (∀ n j, T.2.1 n = some j → Con T.2.1 T.2.2.1 sb bx' n) ∧ FR f f'
  | 0, _, _, _, _, _, _, _, _, _, hd => absurd hd (Nat.not_lt_zero _)
  | d + 1, f, bx, x, k, l1, hR, hB, hx, hc, hd => by
    obtain ⟨n16, q1, q2, q3, q4, q5, q6⟩ := hR.2.2.1 x k hx
    have hR2 := RM_box hR hx (fbx (ebx T.2.1 sb bx x) (T.2.2.1 x))
    have hB2 := BK_up (n := x) hB (fbx_bk hE hB hx)
    have hc2 := Con_step hI hx hc
    rw [xb131_2, if_neg (fun q => absurd q (by
      have := nI_pos' (n := x) (by omega)
      intro e
      rw [e] at this
      exact absurd this (by decide))), ml_gu, m_boxes hR hE hB hx, xcV_some, ml_gu, m_n3 h a S _ (by omega), xcI_some, (hR2.2.2.1 x k hx).2.2.2.1]
    cases hp : T.2.2.2.1 x with
    | none =>
      refine ⟨_, _, ?_, hR2, hB2, fun n j hn => hc2 n j hn (fun p q => by rw [hp] at q; cases q), FR_upd _ _ (by omega) (by omega)⟩
      show xE 131 2 [some (.ref a), some (.int l1), some (.int (-1))] [] _ = _
      rw [xb131_2, if_pos rfl]
    | some p =>
      have hxr : x ≠ T.1 := fun q => by rw [q, hI.2.1] at hp; cases hp
      obtain ⟨p', pa1, rkp, hxp⟩ := hI.2.2.2.2.2.1 x k hx hxr
      rw [hp] at pa1
      cases pa1
      have hkp : k + 1 ≤ r := by
        obtain ⟨⟨r', hr', -, hrk⟩, -⟩ := id hI
        rw [hr] at hr'
        cases hr'
        exact (hrk p _ rkp).1
      obtain ⟨f', bx', e1, e2, e3, e4, e5⟩ := m_boxesUp hI hE hr d l1 hR2 hB2 rkp (fun n j hn hne => hc2 n j hn (fun p' q => by rw [hp] at q; cases q; exact hne)) (by omega)
      exact ⟨f', bx', e1, e2, e3, e4, FR_tr (FR_upd _ _ (by omega) (by omega)) e5⟩
end MT2
