/-! The reference's row 'now': what its small methods do -/
def m0 (S : mS) (f : Nat → Int32) : mS := (va_up S.1 0 f, S.2)
theorem m0_0 (S : mS) (f : Nat → Int32) : (m0 S f).1 0 = f := by
  show va_up S.1 0 f 0 = f
  exact up_s _ _ _
theorem m0_n (S : mS) (f : Nat → Int32) {k : Nat} (h : k ≠ 0) : (m0 S f).1 k = S.1 k := by
  show va_up S.1 0 f k = S.1 k
  exact up_n _ _ h
theorem m0_2 (S : mS) (f : Nat → Int32) : (m0 S f).2 = S.2 := rfl
theorem m0_m0 (S : mS) (f g : Nat → Int32) : m0 (m0 S f) g = m0 S g := by
  unfold m0
  rw [bx_uu]
theorem m0_id (S : mS) : m0 S (S.1 0) = S := by
  refine Prod.ext ?_ rfl
  funext j
  show va_up S.1 0 (S.1 0) j = S.1 j
  by_cases h : j = 0
  · subst h; exact up_s _ _ _
  · exact up_n _ _ h
theorem m0_w (S : mS) (f : Nat → Int32) (i : Nat) (v : Int32) : (va_up (m0 S f).1 0 (upd ((m0 S f).1 0) i v), (m0 S f).2) = m0 S (upd f i v) := by
  rw [m0_0]
  exact m0_m0 S f _
section MB
variable (h : xH) (a : Nat) (S : mS) (f : Nat → Int32)
theorem m_r0 {i : Nat} (hi : i < 311) : xri (pM h a (m0 S f)) 0 (a + 1) (nI i) = some (f i) := by
  rw [ml_r0, xin_nI hi (by decide), cond_true, nI_clamp (by omega), m0_0]
theorem m_w0 {i : Nat} (hi : i < 311) (v : Int32) : xwi (pM h a (m0 S f)) 0 (a + 1) (nI i) v = some (pM h a (m0 S (upd f i v))) := by
  rw [ml_w0, xin_nI hi (by decide), cond_true, nI_clamp (by omega), m0_w]
theorem m_of0 {s w : Nat} (hi : 4 * s + w < 311) : xM 119 [.ref a, .int (nI s), .int (nI w)] (pM h a (m0 S f)) = some (some (.int (f (4 * s + w))), pM h a (m0 S f)) := by
  rw [xb119, ml_f0, Option.bind_some, show (4 : Int32) = nI 4 from rfl, pk_mul, nI_add, m_r0 h a S f hi, Option.bind_some]
theorem m_nodePlace (n : Nat) (h : xH) : xM 126 [.int (nI n)] h = some (some (.int (nI (64 + 10 * n))), h) := by
  rw [xb126, show (10 : Int32) = nI 10 from rfl, show (64 : Int32) = nI 64 from rfl, pk_mul, nI_add]
theorem m_ofNode {n w : Nat} (hi : 64 + 10 * n + w < 311) : xM 127 [.ref a, .int (nI n), .int (nI w)] (pM h a (m0 S f)) = some (some (.int (f (64 + 10 * n + w))), pM h a (m0 S f)) := by
  rw [xb127, ml_f0, Option.bind_some, m_nodePlace, xcI_some, nI_add, m_r0 h a S f hi, Option.bind_some]
theorem m_tellNode {n w : Nat} (hi : 64 + 10 * n + w < 311) (v : Int32) : xM 128 [.ref a, .int (nI n), .int (nI w), .int v] (pM h a (m0 S f)) = some (none, pM h a (m0 S (upd f (64 + 10 * n + w) v))) := by
  rw [xb128, ml_f0, Option.bind_some, m_nodePlace, xcI_some, nI_add, m_w0 h a S f hi, Option.bind_some]
end MB
def paI (q : Option Nat) : Int32 := match q with
  | some a => nI a
  | none => -1
/-- the row holds the tree -/
def RM (T : tS) (sb bx f : Nat → Int32) : Prop :=
  f 304 = nI T.1 ∧ (∀ n, n < 24 → f (64 + 10 * n + 0) = if (T.2.1 n).isSome then 1 else 0) ∧
  (∀ n k, T.2.1 n = some k → n < 16 ∧ f (64 + 10 * n + 1) = (if k = 0 then 1 else 0) ∧ f (64 + 10 * n + 2) = nI (T.2.2.1 n).length ∧ f (64 + 10 * n + 3) = paI (T.2.2.2.1 n) ∧ f (64 + 10 * n + 4) = e2m (bx n) ∧ (T.2.2.1 n).length ≤ 5 ∧ ∀ i e, (T.2.2.1 n)[i]? = some e → f (64 + 10 * n + (5 + i)) = nI e) ∧
  (∀ s, s < 16 → sb s ≠ 0 → f (4 * s + 1) = sb s)
/-- boxes are boxes -/
def BK (rk : Nat → Option Nat) (sb bx : Nat → Int32) : Prop := (∀ s, sb s ≠ 0 → bok (sb s)) ∧ ∀ n k, rk n = some k → bok0 (bx n)
theorem fbx_ok {g : Nat → Int32} : ∀ (l : List Nat) (b : Int32), bok0 b → (∀ e, e ∈ l → bok0 (g e)) → bok0 (l.foldl (fun b e => cun b (g e)) b)
  | [], b, hb, _ => hb
  | e :: l, b, hb, h => fbx_ok l _ (bok0_un hb (h e List.mem_cons_self)) fun x hx => h x (List.mem_cons_of_mem _ hx)
theorem fbx_congr {g g' : Nat → Int32} : ∀ {l : List Nat} {b : Int32}, (∀ e, e ∈ l → g e = g' e) → l.foldl (fun b e => cun b (g e)) b = l.foldl (fun b e => cun b (g' e)) b
  | [], b, _ => by rw [List.foldl_nil, List.foldl_nil]
  | e :: l, b, h => by
    rw [List.foldl_cons, List.foldl_cons, h e List.mem_cons_self]
    exact fbx_congr fun x hx => h x (List.mem_cons_of_mem _ hx)
theorem bx_uniq {rt : Nat} {rk : Nat → Option Nat} {en : Nat → List Nat} {pa : Nat → Option Nat} {sp : Nat → Nat} {I : Nat → Prop} (hI : INV rt rk en pa sp I) {sb bx : Nat → Int32} {K : Nat} (hc : ∀ m j, rk m = some j → j < K → Con rk en sb bx m) : ∀ (k f : Nat), k < K → k < f → ∀ n, rk n = some k → bx n = bxf rk en sb f n
  | _, 0, _, hf, _, _ => absurd hf (Nat.not_lt_zero _)
  | 0, f + 1, hk, _, n, hn => by
    have := hc n 0 hn hk
    unfold Con at this
    rw [this]
    unfold bxf ebx
    rw [if_pos hn, if_pos hn]
  | k + 1, f + 1, hk, hf, n, hn => by
    have := hc n _ hn hk
    unfold Con at this
    rw [this]
    have h0 : rk n ≠ some 0 := by rw [hn]; intro z; cases z
    unfold bxf ebx
    rw [if_neg h0, if_neg h0]
    refine fbx_congr fun e he => ?_
    exact bx_uniq hI hc k f (by omega) (by omega) e (hI.2.2.2.1 n k e hn he).1
theorem bxT_eq {T : tS} {I : Nat → Prop} (hI : INVt T I) {sb bx : Nat → Int32} {K : Nat} (hc : ∀ m j, T.2.1 m = some j → j < K → Con T.2.1 T.2.2.1 sb bx m) {n k : Nat} (hn : T.2.1 n = some k) (hk : k < K) : bxT T.2.1 T.2.2.1 sb n = bx n := by
  obtain ⟨⟨r, hr, hr16, hrk⟩, -⟩ := id hI
  have := (hrk n k hn).1
  exact (bx_uniq hI hc k 17 hk (by omega) n hn).symm
theorem sgx_eq {T : tS} {I : Nat → Prop} (hI : INVt T I) {sb bx : Nat → Int32} {x k : Nat} (hx : T.2.1 x = some k) (hc : ∀ m j, T.2.1 m = some j → j < k → Con T.2.1 T.2.2.1 sb bx m) : ∀ e, e ∈ T.2.2.1 x → sgx sb T x e = ebx T.2.1 sb bx x e := by
  intro e he
  unfold sgx ebx
  cases k with
  | zero => rw [if_pos hx, if_pos hx]
  | succ k =>
    have h0 : T.2.1 x ≠ some 0 := by rw [hx]; intro z; cases z
    rw [if_neg h0, if_neg h0]
    exact bxT_eq hI hc (hI.2.2.2.1 x k e hx he).1 (by omega)
-- decisions depend on the entries' boxes alone
theorem bestc_congr {g g' : Nat → Int32} {by_ : Int32} {l : List Nat} (h : ∀ e, e ∈ l → g e = g' e) : bestc g by_ l = bestc g' by_ l := by
  cases l with
  | nil => rfl
  | cons e r =>
    have key : ∀ (r : List Nat) (e : Nat), g e = g' e → (∀ x, x ∈ r → g x = g' x) → r.foldl (fun b c => if bet by_ (g c) (g b) = true then c else b) e = r.foldl (fun b c => if bet by_ (g' c) (g' b) = true then c else b) e := by
      intro r
      induction r with
      | nil => intro e _ _; rw [List.foldl_nil, List.foldl_nil]
      | cons c r ih =>
        intro e he hr
        rw [List.foldl_cons, List.foldl_cons, he, hr c List.mem_cons_self]
        split
        · exact ih c (hr c List.mem_cons_self) fun x hx => hr x (List.mem_cons_of_mem _ hx)
        · exact ih e he fun x hx => hr x (List.mem_cons_of_mem _ hx)
    unfold bestc
    exact key r e (h e List.mem_cons_self) fun x hx => h x (List.mem_cons_of_mem _ hx)
theorem dst_congr {g g' : Nat → Int32} : ∀ (r l1 l2 : List Nat), (∀ e, e ∈ l1 ∨ e ∈ l2 ∨ e ∈ r → g e = g' e) → dst g l1 l2 r = dst g' l1 l2 r
  | [], _, _, _ => rfl
  | e :: r, l1, l2, h => by
    have e1 : fbx g l1 = fbx g' l1 := fbx_congr fun x hx => h x (Or.inl hx)
    have e2 : fbx g l2 = fbx g' l2 := fbx_congr fun x hx => h x (Or.inr (Or.inl hx))
    have e3 : tof g l1 l2 e (r.length + 1) = tof g' l1 l2 e (r.length + 1) := by
      unfold tof
      rw [e1, e2, h e (Or.inr (Or.inr List.mem_cons_self))]
    unfold dst
    rw [e3]
    split
    · refine dst_congr r _ _ fun x hx => h x ?_
      rcases hx with hx | hx | hx
      · rcases List.mem_append.mp hx with hx | hx
        · exact Or.inl hx
        · rw [List.mem_singleton.mp hx]; exact Or.inr (Or.inr List.mem_cons_self)
      · exact Or.inr (Or.inl hx)
      · exact Or.inr (Or.inr (List.mem_cons_of_mem _ hx))
    · refine dst_congr r _ _ fun x hx => h x ?_
      rcases hx with hx | hx | hx
      · exact Or.inl hx
      · rcases List.mem_append.mp hx with hx | hx
        · exact Or.inr (Or.inl hx)
        · rw [List.mem_singleton.mp hx]; exact Or.inr (Or.inr List.mem_cons_self)
      · exact Or.inr (Or.inr (List.mem_cons_of_mem _ hx))
theorem wpf_congr {w w' : Nat → Nat → Int32} (h : ∀ i j, i < 5 → j < 5 → w i j = w' i j) : wpf w = wpf w' := by
  have key : ∀ (p q : Nat × Nat), p.1 < 5 ∧ p.2 < 5 → q.1 < 5 ∧ q.2 < 5 → (if w p.1 p.2 < w q.1 q.2 then q else p) = (if w' p.1 p.2 < w' q.1 q.2 then q else p) ∧ ((if w' p.1 p.2 < w' q.1 q.2 then q else p).1 < 5 ∧ (if w' p.1 p.2 < w' q.1 q.2 then q else p).2 < 5) := by
    intro p q hp hq
    rw [h _ _ hp.1 hp.2, h _ _ hq.1 hq.2]
    refine ⟨rfl, ?_⟩
    split
    · exact hq
    · exact hp
  have gen : ∀ (l : List (Nat × Nat)) (p : Nat × Nat), p.1 < 5 ∧ p.2 < 5 → (∀ q, q ∈ l → q.1 < 5 ∧ q.2 < 5) → l.foldl (fun p q => if w p.1 p.2 < w q.1 q.2 then q else p) p = l.foldl (fun p q => if w' p.1 p.2 < w' q.1 q.2 then q else p) p := by
    intro l
    induction l with
    | nil => intro p _ _; rw [List.foldl_nil, List.foldl_nil]
    | cons q l ih =>
      intro p hp hl
      rw [List.foldl_cons, List.foldl_cons, (key p q hp (hl q List.mem_cons_self)).1]
      exact ih _ (key p q hp (hl q List.mem_cons_self)).2 fun x hx => hl x (List.mem_cons_of_mem _ hx)
  unfold wpf
  exact gen wps (0, 1) (by decide) (by decide)
theorem splt_congr {g g' : Nat → Int32} {l : List Nat} (h5 : l.length = 5) (h : ∀ e, e ∈ l → g e = g' e) : splt g l = splt g' l := by
  have hw : (wpf fun i j => cwa (g (l.getD i 0)) (g (l.getD j 0))) = (wpf fun i j => cwa (g' (l.getD i 0)) (g' (l.getD j 0))) := wpf_congr fun i j hi hj => by
    rw [h _ (getD_mem (by omega)), h _ (getD_mem (by omega))]
  have e1 : sfst g l = sfst g' l := by unfold sfst; rw [hw]
  have e2 : ssnd g l = ssnd g' l := by unfold ssnd; rw [hw]
  have e3 : soth g l = soth g' l := by unfold soth; rw [e1, e2]
  have hl := wpf_lt fun i j => cwa (g' (l.getD i 0)) (g' (l.getD j 0))
  unfold splt
  rw [e1, e2, e3]
  refine dst_congr _ _ _ fun e he => h e ?_
  rcases he with he | he | he
  · rw [List.mem_singleton.mp he]; exact getD_mem (by omega)
  · rw [List.mem_singleton.mp he]; exact getD_mem (by omega)
  · exact (List.mem_filter.mp he).1
