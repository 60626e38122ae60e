/-! The tree's operations as functions -/
def bet (by_ x y : Int32) : Bool := decide (cgr x by_ < cgr y by_) || (decide (cgr x by_ = cgr y by_) && decide (bar x < bar y))
def bestc (g : Nat → Int32) (by_ : Int32) : List Nat → Nat
  | [] => 0
  | e :: r => r.foldl (fun b c => if bet by_ (g c) (g b) = true then c else b) e
theorem bestf_mem (g : Nat → Int32) (by_ : Int32) : ∀ (r : List Nat) (e : Nat), r.foldl (fun b c => if bet by_ (g c) (g b) = true then c else b) e ∈ e :: r
  | [], e => List.mem_singleton.mpr rfl
  | c :: r, e => by
    rw [List.foldl_cons]
    have h := bestf_mem g by_ r (if bet by_ (g c) (g e) = true then c else e)
    rcases List.mem_cons.mp h with h | h
    · rw [h]
      split
      · exact List.mem_cons_of_mem _ List.mem_cons_self
      · exact List.mem_cons_self
    · exact List.mem_cons_of_mem _ (List.mem_cons_of_mem _ h)
theorem bestc_mem (g : Nat → Int32) (by_ : Int32) {l : List Nat} (h : l ≠ []) : bestc g by_ l ∈ l := by
  cases l with
  | nil => exact absurd rfl h
  | cons e r => exact bestf_mem g by_ r e
def dsc (en : Nat → List Nat) (bx : Nat → Int32) (by_ : Int32) : Nat → Nat → Nat
  | 0, n => n
  | k + 1, n => dsc en bx by_ k (bestc bx by_ (en n))
def wps : List (Nat × Nat) := [(0, 2), (0, 3), (0, 4), (1, 2), (1, 3), (1, 4), (2, 3), (2, 4), (3, 4)]
def wpf (w : Nat → Nat → Int32) : Nat × Nat := wps.foldl (fun p q => if w p.1 p.2 < w q.1 q.2 then q else p) (0, 1)
def tof (g : Nat → Int32) (l1 l2 : List Nat) (e left : Nat) : Bool :=
  if l1.length + left = 2 then true else if l2.length + left = 2 then false else
    let d0 := cgr (fbx g l1) (g e) - cgr (fbx g l2) (g e)
    let d1 := if d0 = 0 then bar (fbx g l1) - bar (fbx g l2) else d0
    let d2 := if d1 = 0 then nI l1.length - nI l2.length else d1
    !(decide (0 < d2))
def dst (g : Nat → Int32) : List Nat → List Nat → List Nat → List Nat × List Nat
  | l1, l2, [] => (l1, l2)
  | l1, l2, e :: r => if tof g l1 l2 e (r.length + 1) = true then dst g (l1 ++ [e]) l2 r else dst g l1 (l2 ++ [e]) r
def sfst (g : Nat → Int32) (l : List Nat) : Nat := l.getD (wpf fun i j => cwa (g (l.getD i 0)) (g (l.getD j 0))).1 0
def ssnd (g : Nat → Int32) (l : List Nat) : Nat := l.getD (wpf fun i j => cwa (g (l.getD i 0)) (g (l.getD j 0))).2 0
def soth (g : Nat → Int32) (l : List Nat) : List Nat := l.filter fun e => !(e == sfst g l) && !(e == ssnd g l)
def splt (g : Nat → Int32) (l : List Nat) : List Nat × List Nat := dst g [sfst g l] [ssnd g l] (soth g l)
theorem wpf_mem (w : Nat → Nat → Int32) : wpf w ∈ (0, 1) :: wps := by
  have key : ∀ (l : List (Nat × Nat)) (p : Nat × Nat), l.foldl (fun p q => if w p.1 p.2 < w q.1 q.2 then q else p) p ∈ p :: l := by
    intro l
    induction l with
    | nil => exact fun p => List.mem_singleton.mpr rfl
    | cons q l ih =>
      intro p
      rw [List.foldl_cons]
      have h := ih (if w p.1 p.2 < w q.1 q.2 then q else p)
      rcases List.mem_cons.mp h with h | h
      · rw [h]
        split
        · exact List.mem_cons_of_mem _ List.mem_cons_self
        · exact List.mem_cons_self
      · exact List.mem_cons_of_mem _ (List.mem_cons_of_mem _ h)
  exact key wps (0, 1)
theorem wpf_lt (w : Nat → Nat → Int32) : (wpf w).1 < (wpf w).2 ∧ (wpf w).2 < 5 := by
  have h := wpf_mem w
  have key : ∀ p ∈ ((0, 1) :: wps : List (Nat × Nat)), p.1 < p.2 ∧ p.2 < 5 := by decide
  exact key _ h
theorem nd_getD {l : List Nat} (h : l.Nodup) {i j : Nat} (hi : i < l.length) (hj : j < l.length) (e : l.getD i 0 = l.getD j 0) : i = j := by
  rw [List.getD_eq_getElem?_getD, List.getD_eq_getElem?_getD, List.getElem?_eq_getElem hi, List.getElem?_eq_getElem hj] at e
  have e : l[i] = l[j] := e
  have hp := List.pairwise_iff_getElem.mp h
  rcases Nat.lt_trichotomy i j with q | q | q
  · exact absurd e (hp i j hi hj q)
  · exact q
  · exact absurd e.symm (hp j i hj hi q)
theorem getD_mem {l : List Nat} {i : Nat} (hi : i < l.length) : l.getD i 0 ∈ l := by
  rw [List.getD_eq_getElem?_getD, List.getElem?_eq_getElem hi]
  exact List.getElem_mem hi
section SP
variable {g : Nat → Int32} {l : List Nat}
theorem sp_ends (hn : l.Nodup) (h5 : l.length = 5) : sfst g l ∈ l ∧ ssnd g l ∈ l ∧ sfst g l ≠ ssnd g l := by
  have hw := wpf_lt fun i j => cwa (g (l.getD i 0)) (g (l.getD j 0))
  refine ⟨getD_mem (by omega), getD_mem (by omega), fun e => ?_⟩
  have := nd_getD hn (by omega) (by omega) e
  omega
theorem sp_oth (hn : l.Nodup) : (soth g l).Nodup ∧ ∀ e, e ∈ soth g l ↔ e ∈ l ∧ e ≠ sfst g l ∧ e ≠ ssnd g l := by
  refine ⟨List.Pairwise.filter _ hn, fun e => ?_⟩
  unfold soth
  rw [List.mem_filter]
  simp
theorem sp_olen (hn : l.Nodup) (h5 : l.length = 5) : (soth g l).length = 3 := by
  obtain ⟨m1, m2, m3⟩ := sp_ends (g := g) hn h5
  obtain ⟨o1, o2⟩ := sp_oth (g := g) hn
  have n5 : (sfst g l :: ssnd g l :: soth g l).Nodup := by
    rw [List.nodup_cons, List.nodup_cons]
    refine ⟨fun q => ?_, fun q => ((o2 _).mp q).2.2 rfl, o1⟩
    rcases List.mem_cons.mp q with q | q
    · exact m3 q
    · exact ((o2 _).mp q).2.1 rfl
  have a1 := nd_len n5 (l2 := l) (fun e he => by
    rcases List.mem_cons.mp he with rfl | he
    · exact m1
    · rcases List.mem_cons.mp he with rfl | he
      · exact m2
      · exact ((o2 e).mp he).1)
  have a2 := nd_len hn (l2 := sfst g l :: ssnd g l :: soth g l) (fun e he => by
    by_cases e1 : e = sfst g l
    · rw [e1]; exact List.mem_cons_self
    · by_cases e2 : e = ssnd g l
      · rw [e2]; exact List.mem_cons_of_mem _ List.mem_cons_self
      · exact List.mem_cons_of_mem _ (List.mem_cons_of_mem _ ((o2 e).mpr ⟨he, e1, e2⟩)))
  simp only [List.length_cons] at a1 a2
  omega
theorem dst_half (g : Nat → Int32) : ∀ (r l1 l2 m1 m2 : List Nat), dst g l1 l2 r = (m1, m2) → (l1 ++ (l2 ++ r)).Nodup → m1.Nodup ∧ m2.Nodup ∧ (∀ e, (e ∈ l1 ∨ e ∈ l2 ∨ e ∈ r) ↔ e ∈ m1 ∨ e ∈ m2) ∧ (∀ e, e ∈ m1 → e ∉ m2) ∧ m1.length + m2.length = l1.length + l2.length + r.length
  | [], l1, l2, m1, m2, h, hn => by
    cases h
    rw [List.append_nil] at hn
    rw [List.nodup_append] at hn
    exact ⟨hn.1, hn.2.1, fun e => by simp, fun e h1 h2 => hn.2.2 e h1 e h2 rfl, by simp⟩
  | e :: r, l1, l2, m1, m2, h, hn => by
    unfold dst at h
    by_cases ht : tof g l1 l2 e (r.length + 1) = true
    · rw [if_pos ht] at h
      have hp : (l1 ++ (l2 ++ e :: r)).Perm ((l1 ++ [e]) ++ (l2 ++ r)) := by
        rw [List.append_assoc]
        refine List.Perm.append_left _ ?_
        exact List.perm_middle
      obtain ⟨a1, a2, a3, a4, a5⟩ := dst_half g r _ _ _ _ h (hp.nodup_iff.mp hn)
      refine ⟨a1, a2, fun z => ?_, a4, ?_⟩
      · rw [← a3 z]
        simp only [List.mem_append, List.mem_cons, List.not_mem_nil, or_false]
        constructor
        · rintro (q | q | q | q)
          · exact Or.inl (Or.inl q)
          · exact Or.inr (Or.inl q)
          · exact Or.inl (Or.inr q)
          · exact Or.inr (Or.inr q)
        · rintro ((q | q) | q | q)
          · exact Or.inl q
          · exact Or.inr (Or.inr (Or.inl q))
          · exact Or.inr (Or.inl q)
          · exact Or.inr (Or.inr (Or.inr q))
      · rw [a5, List.length_append, List.length_cons, List.length_cons, List.length_nil]; omega
    · rw [if_neg ht] at h
      have hp : (l1 ++ (l2 ++ e :: r)).Perm (l1 ++ ((l2 ++ [e]) ++ r)) := by
        rw [List.append_assoc]
        exact List.Perm.refl _
      obtain ⟨a1, a2, a3, a4, a5⟩ := dst_half g r _ _ _ _ h (hp.nodup_iff.mp hn)
      refine ⟨a1, a2, fun z => ?_, a4, ?_⟩
      · rw [← a3 z]
        simp only [List.mem_append, List.mem_cons, List.not_mem_nil, or_false]
        constructor
        · rintro (q | q | q | q)
          · exact Or.inl q
          · exact Or.inr (Or.inl (Or.inl q))
          · exact Or.inr (Or.inl (Or.inr q))
          · exact Or.inr (Or.inr q)
        · rintro (q | (q | q) | q)
          · exact Or.inl q
          · exact Or.inr (Or.inl q)
          · exact Or.inr (Or.inr (Or.inl q))
          · exact Or.inr (Or.inr (Or.inr q))
      · rw [a5, List.length_append, List.length_cons, List.length_cons, List.length_nil]; omega
theorem dst_len (g : Nat → Int32) : ∀ (r l1 l2 m1 m2 : List Nat), dst g l1 l2 r = (m1, m2) → 2 ≤ l1.length + r.length → 2 ≤ l2.length + r.length → 1 ≤ l1.length → 1 ≤ l2.length → 4 ≤ l1.length + l2.length + r.length → 2 ≤ m1.length ∧ 2 ≤ m2.length
  | [], l1, l2, m1, m2, h, h1, h2, _, _, _ => by
    cases h
    simp only [List.length_nil] at h1 h2
    omega
  | e :: r, l1, l2, m1, m2, h, h1, h2, h3, h4, h5 => by
    simp only [List.length_cons] at h1 h2 h5
    unfold dst at h
    by_cases ht : tof g l1 l2 e (r.length + 1) = true
    · rw [if_pos ht] at h
      refine dst_len g r _ _ _ _ h (by simp; omega) ?_ (by simp) h4 (by simp; omega)
      refine Classical.byContradiction fun q => ?_
      have e1 : l2.length + (r.length + 1) = 2 := by omega
      have e2 : l1.length + (r.length + 1) ≠ 2 := by omega
      unfold tof at ht
      rw [if_neg e2, if_pos e1] at ht
      cases ht
    · rw [if_neg ht] at h
      refine dst_len g r _ _ _ _ h ?_ (by simp; omega) h3 (by simp) (by simp; omega)
      refine Classical.byContradiction fun q => ?_
      have e1 : l1.length + (r.length + 1) = 2 := by omega
      unfold tof at ht
      rw [if_pos e1] at ht
      exact ht rfl
theorem splt_half (hn : l.Nodup) (h5 : l.length = 5) : HALF l (splt g l).1 (splt g l).2 ∧ 2 ≤ (splt g l).1.length ∧ 2 ≤ (splt g l).2.length ∧ (splt g l).1.length + (splt g l).2.length = 5 := by
  obtain ⟨m1, m2, m3⟩ := sp_ends (g := g) hn h5
  obtain ⟨o1, o2⟩ := sp_oth (g := g) hn
  have ol := sp_olen (g := g) hn h5
  have n5 : ([sfst g l] ++ ([ssnd g l] ++ soth g l)).Nodup := by
    show (sfst g l :: ssnd g l :: soth g l).Nodup
    rw [List.nodup_cons, List.nodup_cons]
    refine ⟨fun q => ?_, fun q => ((o2 _).mp q).2.2 rfl, o1⟩
    rcases List.mem_cons.mp q with q | q
    · exact m3 q
    · exact ((o2 _).mp q).2.1 rfl
  obtain ⟨a1, a2, a3, a4, a5⟩ := dst_half g (soth g l) _ _ (splt g l).1 (splt g l).2 rfl n5
  obtain ⟨b1, b2⟩ := dst_len g (soth g l) _ _ (splt g l).1 (splt g l).2 rfl (by simp; omega) (by simp; omega) (by simp) (by simp) (by simp; omega)
  refine ⟨⟨a1, a2, fun e => ?_, a4⟩, b1, b2, ?_⟩
  · rw [← a3 e, List.mem_singleton, List.mem_singleton, o2]
    constructor
    · intro he
      by_cases e1 : e = sfst g l
      · exact Or.inl e1
      · by_cases e2 : e = ssnd g l
        · exact Or.inr (Or.inl e2)
        · exact Or.inr (Or.inr ⟨he, e1, e2⟩)
    · rintro (rfl | rfl | q)
      · exact m1
      · exact m2
      · exact q.1
  · rw [a5, ol]; rfl
end SP
/-- root, ranks, entries, parents, leaves of shapes -/
abbrev tS : Type := Nat × (Nat → Option Nat) × (Nat → List Nat) × (Nat → Option Nat) × (Nat → Nat)
def INVt (T : tS) (I : Nat → Prop) : Prop := INV T.1 T.2.1 T.2.2.1 T.2.2.2.1 T.2.2.2.2 I
def LBt (T : tS) : Prop := LB T.1 T.2.1 T.2.2.1
def UBt (T : tS) (m : Nat) : Prop := UB T.2.1 T.2.2.1 m
/-- x is split, w its new neighbour below a -/
def spA (T : tS) (x w a k : Nat) (l1 l2 : List Nat) : tS := (T.1, va_up T.2.1 w (some k), va_up (va_up (va_up T.2.2.1 a (insA x w (T.2.2.1 a))) x l1) w l2, va_up (paS T.2.2.2.1 k w l2) w (some a), spS T.2.2.2.2 k w l2)
/-- the root x is split, z is the new root -/
def spR (T : tS) (x w z k : Nat) (l1 l2 : List Nat) : tS := (z, va_up (va_up T.2.1 w (some k)) z (some (k + 1)), va_up (va_up (va_up T.2.2.1 x l1) w l2) z [x, w], va_up (va_up (va_up (paS T.2.2.2.1 k w l2) x (some z)) w (some z)) z none, spS T.2.2.2.2 k w l2)
def sgx (sb : Nat → Int32) (T : tS) (x : Nat) : Nat → Int32 := ebx T.2.1 sb (bxT T.2.1 T.2.2.1 sb) x
def ascT (sb : Nat → Int32) : Nat → tS → Nat → tS
  | 0, T, _ => T
  | f + 1, T, x => if (T.2.2.1 x).length < 5 then T else match T.2.2.2.1 x with
    | some a => ascT sb f (spA T x (freeN T.2.1) a ((T.2.1 x).getD 0) (splt (sgx sb T x) (T.2.2.1 x)).1 (splt (sgx sb T x) (T.2.2.1 x)).2) a
    | none => spR T x (freeN T.2.1) (freeN (va_up T.2.1 (freeN T.2.1) (some ((T.2.1 x).getD 0)))) ((T.2.1 x).getD 0) (splt (sgx sb T x) (T.2.2.1 x)).1 (splt (sgx sb T x) (T.2.2.1 x)).2
def lfT (sb : Nat → Int32) (T : tS) (s : Nat) : Nat := dsc T.2.2.1 (bxT T.2.1 T.2.2.1 sb) (sb s) ((T.2.1 T.1).getD 0) T.1
def addT (T : tS) (x s : Nat) : tS := (T.1, T.2.1, va_up T.2.2.1 x (T.2.2.1 x ++ [s]), T.2.2.2.1, va_up T.2.2.2.2 s x)
def insT (sb : Nat → Int32) (T : tS) (s : Nat) : tS := ascT sb 17 (addT T (lfT sb T s) s) (lfT sb T s)
theorem dsc_leaf {rt : Nat} {rk : Nat → Option Nat} {en : Nat → List Nat} {pa : Nat → Option Nat} {sp : Nat → Nat} {I : Nat → Prop} (h : INV rt rk en pa sp I) (hne : ∀ n k, rk n = some (k + 1) → en n ≠ []) (bx : Nat → Int32) (by_ : Int32) : ∀ {k n : Nat}, rk n = some k → rk (dsc en bx by_ k n) = some 0
  | 0, n, hn => hn
  | k + 1, n, hn => by
    show rk (dsc en bx by_ k (bestc bx by_ (en n))) = some 0
    exact dsc_leaf h hne bx by_ (h.2.2.2.1 n k _ hn (bestc_mem bx by_ (hne n k hn))).1
theorem LB_ne {rt : Nat} {rk : Nat → Option Nat} {en : Nat → List Nat} (h : LB rt rk en) {n k : Nat} (hn : rk n = some (k + 1)) : en n ≠ [] := fun q => by
  rcases h n _ hn with h1 | ⟨-, h1⟩
  · rw [q] at h1; exact absurd h1 (by simp)
  · omega
/-- two free nodes -/
theorem free2 {T : tS} {I : Nat → Prop} (hI : INVt T I) (hL : LBt T) {x k : Nat} (hx : T.2.1 x = some k) (h5 : (T.2.2.1 x).length = 5) :
    (freeN T.2.1 < 16 ∧ T.2.1 (freeN T.2.1) = none) ∧ (freeN (va_up T.2.1 (freeN T.2.1) (some k)) < 16 ∧ T.2.1 (freeN (va_up T.2.1 (freeN T.2.1) (some k))) = none ∧ freeN (va_up T.2.1 (freeN T.2.1) (some k)) ≠ freeN T.2.1) ∧ k + 1 < 16 := by
  have hb : ∀ n k, T.2.1 n = some k → n < 16 := fun n k h => (hI.2.2.1 n k h).1
  have h12 := used_le5 hI hL hx h5
  obtain ⟨f1, f2, f3⟩ := freeN_spec hb (by omega)
  generalize freeN T.2.1 = w at f1 f2 f3 ⊢
  have hb2 : ∀ n j, va_up T.2.1 w (some k) n = some j → n < 16 := fun n j h => by
    by_cases e : n = w
    · rw [e]; exact f1
    · rw [up_n _ _ e] at h; exact hb n j h
  have hlen : (used (va_up T.2.1 w (some k))).length ≤ (used T.2.1).length + 1 := by
    have := nd_len (used_nd (va_up T.2.1 w (some k))) (l2 := w :: used T.2.1) (fun n hn => by
      obtain ⟨j, hj⟩ := (used_mem hb2).mp hn
      by_cases e : n = w
      · rw [e]; exact List.mem_cons_self
      · rw [up_n _ _ e] at hj
        exact List.mem_cons_of_mem _ ((used_mem hb).mpr ⟨j, hj⟩))
    simpa using this
  obtain ⟨g1, g2, g3⟩ := freeN_spec hb2 (by omega)
  generalize freeN (va_up T.2.1 w (some k)) = z at g1 g2 g3 ⊢
  have hzw : z ≠ w := fun q => by rw [q, up_s] at g2; cases g2
  rw [up_n _ _ hzw] at g2
  refine ⟨⟨f1, f2⟩, ⟨g1, g2, hzw⟩, ?_⟩
  obtain ⟨⟨r, hr, -, hrk⟩, -⟩ := id hI
  have := rank_lt hI (fun n k hn => LB_ne hL hn) hr
  have := (hrk x k hx).1
  omega
theorem spA_ok {T : tS} {I : Nat → Prop} (hI : INVt T I) (hL : LBt T) {x k a : Nat} (hx : T.2.1 x = some k) (h5 : (T.2.2.1 x).length = 5) (hU : ∀ n j, T.2.1 n = some j → n ≠ x → (T.2.2.1 n).length ≤ 4) (hp : T.2.2.2.1 x = some a) (g : Nat → Int32) {T' : tS} (hT : T' = spA T x (freeN T.2.1) a k (splt g (T.2.2.1 x)).1 (splt g (T.2.2.1 x)).2) :
    INVt T' I ∧ LBt T' ∧ T'.2.1 a = some (k + 1) ∧ (T'.2.2.1 a).length ≤ 5 ∧ (∀ n j, T'.2.1 n = some j → n ≠ a → (T'.2.2.1 n).length ≤ 4) ∧ T'.1 = T.1 ∧ T'.2.1 T.1 = T.2.1 T.1 := by
  subst hT
  obtain ⟨⟨f1, f2⟩, -, -⟩ := free2 hI hL hx h5
  obtain ⟨hH, s1, s2, s3⟩ := splt_half (g := g) (hI.2.2.1 x k hx).2 h5
  have hxr : x ≠ T.1 := fun q => by rw [q, hI.2.1] at hp; cases hp
  obtain ⟨a', pa1, rka, hxa⟩ := hI.2.2.2.2.2.1 x k hx hxr
  rw [hp] at pa1
  cases pa1
  generalize freeN T.2.1 = w at f1 f2 ⊢
  generalize (splt g (T.2.2.1 x)).1 = l1 at hH s1 s3 ⊢
  generalize (splt g (T.2.2.1 x)).2 = l2 at hH s2 s3 ⊢
  have ne1 : ∀ n j, T.2.1 n = some j → n ≠ w := fun n j hn q => by rw [q, f2] at hn; cases hn
  have hxw := ne1 x k hx
  have haw := ne1 a _ rka
  have hax : a ≠ x := fun q => by rw [q, hx] at rka; cases rka
  have en_w : (spA T x w a k l1 l2).2.2.1 w = l2 := up_s _ _ _
  have en_x : (spA T x w a k l1 l2).2.2.1 x = l1 := by
    show va_up (va_up _ x l1) w l2 x = l1
    rw [up_n _ _ hxw, up_s]
  have en_a : (spA T x w a k l1 l2).2.2.1 a = insA x w (T.2.2.1 a) := by
    show va_up (va_up (va_up _ a _) x l1) w l2 a = _
    rw [up_n _ _ haw, up_n _ _ hax, up_s]
  have en_o : ∀ n, n ≠ w → n ≠ x → n ≠ a → (spA T x w a k l1 l2).2.2.1 n = T.2.2.1 n := fun n q1 q2 q3 => by
    show va_up (va_up (va_up _ a _) x l1) w l2 n = _
    rw [up_n _ _ q1, up_n _ _ q2, up_n _ _ q3]
  have rk_o : ∀ n, n ≠ w → (spA T x w a k l1 l2).2.1 n = T.2.1 n := fun n q => up_n _ _ q
  have hal := hU a _ rka hax
  obtain ⟨⟨r, hr, -, -⟩, -⟩ := id hI
  refine ⟨INV_split hI hx f2 f1 hp hH, fun n j hn => ?_, by rw [rk_o _ haw]; exact rka, by rw [en_a, insA_len hxa]; omega, fun n j hn hne => ?_, rfl, rk_o _ (ne1 _ _ hr)⟩
  · show 2 ≤ ((spA T x w a k l1 l2).2.2.1 n).length ∨ _
    have hn' : (spA T x w a k l1 l2).2.1 n = some j := hn
    by_cases e : n = w
    · subst e; rw [en_w]; exact Or.inl s2
    · by_cases e1 : n = x
      · subst e1; rw [en_x]; exact Or.inl s1
      · rw [rk_o _ e] at hn'
        by_cases e2 : n = a
        · subst e2
          rw [en_a, insA_len hxa]
          rcases hL n j hn' with q | ⟨-, q⟩
          · exact Or.inl (by omega)
          · rw [q, rka] at hn'; cases hn'
        · rw [en_o n e e1 e2]; exact hL n j hn'
  · have hn' : (spA T x w a k l1 l2).2.1 n = some j := hn
    by_cases e : n = w
    · subst e; rw [en_w]; omega
    · by_cases e1 : n = x
      · subst e1; rw [en_x]; omega
      · rw [rk_o _ e] at hn'
        rw [en_o n e e1 hne]
        exact hU n j hn' e1
theorem spR_ok {T : tS} {I : Nat → Prop} (hI : INVt T I) (hL : LBt T) {x k : Nat} (hx : T.2.1 x = some k) (h5 : (T.2.2.1 x).length = 5) (hU : ∀ n j, T.2.1 n = some j → n ≠ x → (T.2.2.1 n).length ≤ 4) (hp : T.2.2.2.1 x = none) (g : Nat → Int32) {T' : tS} (hT : T' = spR T x (freeN T.2.1) (freeN (va_up T.2.1 (freeN T.2.1) (some k))) k (splt g (T.2.2.1 x)).1 (splt g (T.2.2.1 x)).2) :
    INVt T' I ∧ LBt T' ∧ UBt T' 4 ∧ x = T.1 := by
  subst hT
  obtain ⟨⟨f1, f2⟩, ⟨g1, g2, g3⟩, hk⟩ := free2 hI hL hx h5
  obtain ⟨hH, s1, s2, s3⟩ := splt_half (g := g) (hI.2.2.1 x k hx).2 h5
  have hxr : x = T.1 := Classical.byContradiction fun q => by
    obtain ⟨a', pa1, -⟩ := hI.2.2.2.2.2.1 x k hx q
    rw [hp] at pa1
    cases pa1
  generalize freeN (va_up T.2.1 (freeN T.2.1) (some k)) = z at g1 g2 g3 ⊢
  generalize freeN T.2.1 = w at f1 f2 g3 ⊢
  generalize (splt g (T.2.2.1 x)).1 = l1 at hH s1 s3 ⊢
  generalize (splt g (T.2.2.1 x)).2 = l2 at hH s2 s3 ⊢
  subst hxr
  have ne1 : ∀ n j, T.2.1 n = some j → n ≠ w ∧ n ≠ z := fun n j hn => ⟨fun q => (by rw [q, f2] at hn; cases hn), fun q => (by rw [q, g2] at hn; cases hn)⟩
  have hrw := ne1 _ _ hx
  have en_z : (spR T T.1 w z k l1 l2).2.2.1 z = [T.1, w] := up_s _ _ _
  have en_w : (spR T T.1 w z k l1 l2).2.2.1 w = l2 := by
    show va_up (va_up (va_up _ _ l1) w l2) z _ w = l2
    rw [up_n _ _ (Ne.symm g3), up_s]
  have en_x : (spR T T.1 w z k l1 l2).2.2.1 T.1 = l1 := by
    show va_up (va_up (va_up _ _ l1) w l2) z _ T.1 = l1
    rw [up_n _ _ hrw.2, up_n _ _ hrw.1, up_s]
  have en_o : ∀ n, n ≠ w → n ≠ z → n ≠ T.1 → (spR T T.1 w z k l1 l2).2.2.1 n = T.2.2.1 n := fun n q1 q2 q3 => by
    show va_up (va_up (va_up _ _ l1) w l2) z _ n = _
    rw [up_n _ _ q2, up_n _ _ q1, up_n _ _ q3]
  have rk_o : ∀ n, n ≠ w → n ≠ z → (spR T T.1 w z k l1 l2).2.1 n = T.2.1 n := fun n q1 q2 => by
    show va_up (va_up _ w _) z _ n = _
    rw [up_n _ _ q2, up_n _ _ q1]
  refine ⟨INV_root hI hx hk f2 f1 g2 g1 g3 hH, fun n j hn => ?_, fun n j hn => ?_, rfl⟩
  · show 2 ≤ ((spR T T.1 w z k l1 l2).2.2.1 n).length ∨ _
    have hn' : (spR T T.1 w z k l1 l2).2.1 n = some j := hn
    by_cases e : n = z
    · subst e; rw [en_z]; exact Or.inl (Nat.le_refl _)
    · by_cases e0 : n = w
      · subst e0; rw [en_w]; exact Or.inl s2
      · by_cases e1 : n = T.1
        · subst e1; rw [en_x]; exact Or.inl s1
        · rw [rk_o _ e0 e] at hn'
          rw [en_o n e0 e e1]
          rcases hL n j hn' with q | ⟨q, -⟩
          · exact Or.inl q
          · exact absurd q e1
  · show ((spR T T.1 w z k l1 l2).2.2.1 n).length ≤ 4
    have hn' : (spR T T.1 w z k l1 l2).2.1 n = some j := hn
    by_cases e : n = z
    · subst e; rw [en_z]; show 2 ≤ 4; decide
    · by_cases e0 : n = w
      · subst e0; rw [en_w]; omega
      · by_cases e1 : n = T.1
        · subst e1; rw [en_x]; omega
        · rw [rk_o _ e0 e] at hn'
          rw [en_o n e0 e e1]
          exact hU n j hn' e1
theorem ascT_ok (sb : Nat → Int32) {I : Nat → Prop} : ∀ (f : Nat) {T : tS} {x k r : Nat}, INVt T I → LBt T → T.2.1 T.1 = some r → T.2.1 x = some k → (T.2.2.1 x).length ≤ 5 → (∀ n j, T.2.1 n = some j → n ≠ x → (T.2.2.1 n).length ≤ 4) → r - k < f → INVt (ascT sb f T x) I ∧ LBt (ascT sb f T x) ∧ UBt (ascT sb f T x) 4
  | 0, T, x, k, r, _, _, _, _, _, _, hf => absurd hf (Nat.not_lt_zero _)
  | f + 1, T, x, k, r, hI, hL, hr, hx, h5, hU, hf => by
    unfold ascT
    by_cases hc : (T.2.2.1 x).length < 5
    · rw [if_pos hc]
      refine ⟨hI, hL, fun n j hn => ?_⟩
      by_cases e : n = x
      · rw [e]; omega
      · exact hU n j hn e
    · rw [if_neg hc]
      have h5 : (T.2.2.1 x).length = 5 := by omega
      cases hp : T.2.2.2.1 x with
      | none =>
        dsimp only
        rw [show (T.2.1 x).getD 0 = k by rw [hx]; rfl]
        obtain ⟨a1, a2, a3, -⟩ := spR_ok hI hL hx h5 hU hp (sgx sb T x) rfl
        exact ⟨a1, a2, a3⟩
      | some a =>
        dsimp only
        rw [show (T.2.1 x).getD 0 = k by rw [hx]; rfl]
        obtain ⟨a1, a2, a3, a4, a5, a6, a7⟩ := spA_ok hI hL hx h5 hU hp (sgx sb T x) rfl
        refine ascT_ok sb f a1 a2 (r := r) ?_ a3 a4 a5 ?_
        · rw [a6, a7]; exact hr
        · obtain ⟨⟨r', hr', -, hrk⟩, -⟩ := id a1
          have h7 := (hrk a _ a3).1
          rw [a6, a7, hr] at hr'
          cases hr'
          omega
theorem lfT_ok (sb : Nat → Int32) {T : tS} {I : Nat → Prop} (hI : INVt T I) (hL : LBt T) (s : Nat) : T.2.1 (lfT sb T s) = some 0 := by
  obtain ⟨⟨r, hr, -, -⟩, -⟩ := id hI
  unfold lfT
  rw [hr]
  exact dsc_leaf hI (fun n k hn => LB_ne hL hn) _ _ hr
theorem addT_ok (sb : Nat → Int32) {T : tS} {I : Nat → Prop} (hI : INVt T I) (hL : LBt T) (hU : UBt T 4) {s : Nat} (hs : s < 16) (hn : ¬ I s) {x : Nat} (hx : T.2.1 x = some 0) : INVt (addT T x s) (fun t => I t ∨ t = s) ∧ LBt (addT T x s) ∧ ((addT T x s).2.2.1 x).length ≤ 5 ∧ ∀ n j, (addT T x s).2.1 n = some j → n ≠ x → ((addT T x s).2.2.1 n).length ≤ 4 := by
  refine ⟨INV_add hI hx hs hn, fun n j hn => ?_, ?_, fun n j hn hne => ?_⟩
  · show 2 ≤ (va_up T.2.2.1 x (T.2.2.1 x ++ [s]) n).length ∨ _
    rcases hL n j hn with q | q
    · refine Or.inl ?_
      by_cases e : n = x
      · subst e; rw [up_s, List.length_append]; omega
      · rw [up_n _ _ e]; exact q
    · exact Or.inr q
  · show (va_up T.2.2.1 x (T.2.2.1 x ++ [s]) x).length ≤ 5
    rw [up_s, List.length_append]
    have := hU x 0 hx
    simp; exact this
  · show (va_up T.2.2.1 x (T.2.2.1 x ++ [s]) n).length ≤ 4
    rw [up_n _ _ hne]
    exact hU n j hn
theorem insT_ok (sb : Nat → Int32) {T : tS} {I : Nat → Prop} (hI : INVt T I) (hL : LBt T) (hU : UBt T 4) {s : Nat} (hs : s < 16) (hn : ¬ I s) : INVt (insT sb T s) (fun t => I t ∨ t = s) ∧ LBt (insT sb T s) ∧ UBt (insT sb T s) 4 := by
  have hx := lfT_ok sb hI hL s
  obtain ⟨a1, a2, a3, a4⟩ := addT_ok sb hI hL hU hs hn hx
  obtain ⟨⟨r, hr, hr16, -⟩, -⟩ := id hI
  exact ascT_ok sb 17 (r := r) (k := 0) a1 a2 hr hx a3 a4 (by omega)
