/-! The tree as mathematics: root, ranks, entries, parents, the leaf of each shape. Node n is node 16 + n of the class. -/
def fbx (g : Nat → Int32) (l : List Nat) : Int32 := l.foldl (fun b e => cun b (g e)) 0
/-- the boxes of a node's entries -/
def ebx (rk : Nat → Option Nat) (sb bx : Nat → Int32) (n : Nat) : Nat → Int32 := if rk n = some 0 then sb else bx
def bxf (rk : Nat → Option Nat) (en : Nat → List Nat) (sb : Nat → Int32) : Nat → Nat → Int32
  | 0, _ => 0
  | k + 1, n => fbx (if rk n = some 0 then sb else bxf rk en sb k) (en n)
def bxT (rk : Nat → Option Nat) (en : Nat → List Nat) (sb : Nat → Int32) (n : Nat) : Int32 := bxf rk en sb 17 n
def Con (rk : Nat → Option Nat) (en : Nat → List Nat) (sb bx : Nat → Int32) (n : Nat) : Prop := bx n = fbx (ebx rk sb bx n) (en n)
/-- what a tree is; I: the shapes in it -/
def INV (rt : Nat) (rk : Nat → Option Nat) (en : Nat → List Nat) (pa : Nat → Option Nat) (sp : Nat → Nat) (I : Nat → Prop) : Prop :=
  (∃ r, rk rt = some r ∧ r < 16 ∧ ∀ n k, rk n = some k → k ≤ r ∧ (k = r → n = rt)) ∧ pa rt = none ∧
  (∀ n k, rk n = some k → n < 16 ∧ (en n).Nodup) ∧
  (∀ n k c, rk n = some (k + 1) → c ∈ en n → rk c = some k ∧ pa c = some n) ∧
  (∀ n s, rk n = some 0 → s ∈ en n → s < 16 ∧ I s ∧ sp s = n) ∧
  (∀ n k, rk n = some k → n ≠ rt → ∃ a, pa n = some a ∧ rk a = some (k + 1) ∧ n ∈ en a) ∧
  (∀ s, I s → rk (sp s) = some 0 ∧ s ∈ en (sp s))
/-- every node but a root that is a leaf has two entries or more -/
def LB (rt : Nat) (rk : Nat → Option Nat) (en : Nat → List Nat) : Prop := ∀ n k, rk n = some k → 2 ≤ (en n).length ∨ (n = rt ∧ k = 0)
def UB (rk : Nat → Option Nat) (en : Nat → List Nat) (m : Nat) : Prop := ∀ n k, rk n = some k → (en n).length ≤ m
-- counting
theorem nd_len {α : Type} [DecidableEq α] : ∀ {l1 l2 : List α}, l1.Nodup → (∀ x, x ∈ l1 → x ∈ l2) → l1.length ≤ l2.length
  | [], _, _, _ => Nat.zero_le _
  | a :: l, l2, hn, hs => by
    have h1 := List.nodup_cons.mp hn
    have ha : a ∈ l2 := hs a List.mem_cons_self
    have h2 : l.length ≤ (l2.erase a).length := nd_len h1.2 fun x hx => by
      have hxa : x ≠ a := fun q => h1.1 (q ▸ hx)
      exact (List.mem_erase_of_ne hxa).mpr (hs x (List.mem_cons_of_mem _ hx))
    rw [List.length_erase_of_mem ha] at h2
    have h3 : 0 < l2.length := List.length_pos_of_mem ha
    rw [List.length_cons]
    omega
theorem nd_flatMap {α β : Type} {f : α → List β} : ∀ {l : List α}, l.Nodup → (∀ x, x ∈ l → (f x).Nodup) → (∀ x y z, x ∈ l → y ∈ l → z ∈ f x → z ∈ f y → x = y) → (l.flatMap f).Nodup
  | [], _, _, _ => List.nodup_nil
  | a :: l, hn, hf, hd => by
    have h1 := List.nodup_cons.mp hn
    rw [List.flatMap_cons, List.nodup_append]
    refine ⟨hf a List.mem_cons_self, nd_flatMap h1.2 (fun x hx => hf x (List.mem_cons_of_mem _ hx)) (fun x y z hx hy => hd x y z (List.mem_cons_of_mem _ hx) (List.mem_cons_of_mem _ hy)), ?_⟩
    intro z hz w hw e
    subst e
    obtain ⟨y, hy, hzy⟩ := List.mem_flatMap.mp hw
    have := hd a y z List.mem_cons_self (List.mem_cons_of_mem _ hy) hz hzy
    exact h1.1 (this ▸ hy)
theorem nd_map {α β : Type} {f : α → β} : ∀ {l : List α}, l.Nodup → (∀ x y, x ∈ l → y ∈ l → f x = f y → x = y) → (l.map f).Nodup
  | [], _, _ => List.nodup_nil
  | a :: l, hn, hf => by
    have h1 := List.nodup_cons.mp hn
    rw [List.map_cons, List.nodup_cons]
    refine ⟨fun hm => ?_, nd_map h1.2 (fun x y hx hy => hf x y (List.mem_cons_of_mem _ hx) (List.mem_cons_of_mem _ hy))⟩
    obtain ⟨y, hy, e⟩ := List.mem_map.mp hm
    have := hf y a (List.mem_cons_of_mem _ hy) List.mem_cons_self e
    exact h1.1 (this ▸ hy)
theorem len_flatMap2 {α β : Type} {f : α → List β} {c : α → Nat} : ∀ {l : List α}, (∀ x, x ∈ l → c x ≤ (f x).length) → (l.map c).sum ≤ (l.flatMap f).length
  | [], _ => Nat.zero_le _
  | a :: l, h => by
    rw [List.flatMap_cons, List.length_append, List.map_cons, List.sum_cons]
    have h1 := h a List.mem_cons_self
    have h2 := len_flatMap2 (f := f) (c := c) (l := l) fun x hx => h x (List.mem_cons_of_mem _ hx)
    omega
/-- the nodes in use -/
def used (rk : Nat → Option Nat) : List Nat := (List.range 16).filter fun n => (rk n).isSome
theorem used_mem {rk : Nat → Option Nat} (hb : ∀ n k, rk n = some k → n < 16) {n : Nat} : n ∈ used rk ↔ ∃ k, rk n = some k := by
  unfold used
  rw [List.mem_filter, List.mem_range]
  constructor
  · rintro ⟨-, h⟩
    exact Option.isSome_iff_exists.mp h
  · rintro ⟨k, h⟩
    exact ⟨hb n k h, by rw [h]; rfl⟩
theorem used_nd (rk : Nat → Option Nat) : (used rk).Nodup := List.Pairwise.filter _ List.nodup_range
/-- all entries, shapes as 16 + s, are different, and none is the root -/
theorem used_count {rt : Nat} {rk : Nat → Option Nat} {en : Nat → List Nat} {pa : Nat → Option Nat} {sp : Nat → Nat} {I : Nat → Prop} (hI : INV rt rk en pa sp I) (c : Nat → Nat) (hc : ∀ n k, rk n = some k → c n ≤ (en n).length) : ((used rk).map c).sum + 1 ≤ (used rk).length + 16 := by
  obtain ⟨⟨r, hr, hr16, hrk⟩, hpr, h2, h3, h4, h6, h7⟩ := hI
  have hb : ∀ n k, rk n = some k → n < 16 := fun n k h => (h2 n k h).1
  have key : ∀ n e, n ∈ used rk → e ∈ (en n) → (rk n = some 0 → e < 16) := fun n e hn he h0 => (h4 n e h0 he).1
  let f : Nat → List Nat := fun n => (en n).map fun e => if rk n = some 0 then 16 + e else e
  have hnd : ((used rk).flatMap f).Nodup := by
    refine nd_flatMap (used_nd rk) (fun n hn => ?_) (fun n m z hn hm hz hw => ?_)
    · obtain ⟨k, hk⟩ := (used_mem hb).mp hn
      refine nd_map (h2 n k hk).2 (fun x y _ _ e => ?_)
      by_cases h0 : rk n = some 0
      · simp only [h0, if_true] at e; omega
      · simpa only [h0, if_false] using e
    · obtain ⟨k, hk⟩ := (used_mem hb).mp hn
      obtain ⟨k', hk'⟩ := (used_mem hb).mp hm
      obtain ⟨x, hx, ex⟩ := List.mem_map.mp hz
      obtain ⟨y, hy, ey⟩ := List.mem_map.mp hw
      cases k with
      | zero =>
        rw [if_pos hk] at ex
        cases k' with
        | zero =>
          rw [if_pos hk'] at ey
          have exy : x = y := by omega
          rw [← (h4 n x hk hx).2.2, ← (h4 m y hk' hy).2.2, exy]
        | succ k' =>
          rw [if_neg (by rw [hk']; intro q; cases q)] at ey
          have := hb _ _ (h3 m k' y hk' hy).1
          omega
      | succ k =>
        rw [if_neg (by rw [hk]; intro q; cases q)] at ex
        cases k' with
        | zero =>
          rw [if_pos hk'] at ey
          have := hb _ _ (h3 n k x hk hx).1
          omega
        | succ k' =>
          rw [if_neg (by rw [hk']; intro q; cases q)] at ey
          have exy : x = y := by omega
          have a1 := (h3 n k x hk hx).2
          have a2 := (h3 m k' y hk' hy).2
          rw [exy, a2] at a1
          exact (Option.some.inj a1).symm
  have hsub : ∀ z, z ∈ (used rk).flatMap f → z ∈ (used rk).erase rt ++ (List.range 16).map (fun s => 16 + s) := by
    intro z hz
    obtain ⟨n, hn, hz⟩ := List.mem_flatMap.mp hz
    obtain ⟨k, hk⟩ := (used_mem hb).mp hn
    obtain ⟨x, hx, ex⟩ := List.mem_map.mp hz
    cases k with
    | zero =>
      rw [if_pos hk] at ex
      exact List.mem_append_right _ (List.mem_map.mpr ⟨x, List.mem_range.mpr (h4 n x hk hx).1, ex⟩)
    | succ k =>
      rw [if_neg (by rw [hk]; intro q; cases q)] at ex
      subst ex
      have a1 := h3 n k x hk hx
      have hne : x ≠ rt := fun q => by rw [q, hpr] at a1; cases a1.2
      exact List.mem_append_left _ ((List.mem_erase_of_ne hne).mpr ((used_mem hb).mpr ⟨k, a1.1⟩))
  have h8 := nd_len hnd hsub
  have h9 := len_flatMap2 (f := f) (c := c) (l := used rk) (fun n hn => by
    obtain ⟨k, hk⟩ := (used_mem hb).mp hn
    show c n ≤ ((en n).map _).length
    rw [List.length_map]; exact hc n k hk)
  have hrt : rt ∈ used rk := (used_mem hb).mpr ⟨r, hr⟩
  rw [List.length_append, List.length_erase_of_mem hrt, List.length_map, List.length_range] at h8
  have h10 : 0 < (used rk).length := List.length_pos_of_mem hrt
  omega
theorem sum_const (c : Nat) : ∀ l : List Nat, (l.map fun _ => c).sum = c * l.length
  | [] => rfl
  | a :: l => by
    rw [List.map_cons, List.sum_cons, sum_const c l, List.length_cons, Nat.mul_succ]
    omega
theorem sum_one {x d : Nat} : ∀ {l : List Nat}, x ∈ l → l.Nodup → (l.map fun n => if n = x then 2 + d else 2).sum = 2 * l.length + d
  | a :: l, h, hn => by
    have h1 := List.nodup_cons.mp hn
    rw [List.map_cons, List.sum_cons, List.length_cons]
    by_cases hx : a = x
    · subst hx
      have e : l.map (fun n => if n = a then 2 + d else 2) = l.map (fun _ => 2) := List.map_congr_left fun n hn' => if_neg (fun q : n = a => h1.1 (q ▸ hn'))
      rw [if_pos rfl, e, sum_const]
      omega
    · have hl : x ∈ l := (List.mem_cons.mp h).resolve_left (fun q => hx q.symm)
      rw [if_neg hx, sum_one hl h1.2]
      omega
/-- a tree whose nodes have two entries or more has at most fifteen nodes; with five in one of them at most twelve -/
theorem used_le {rt : Nat} {rk : Nat → Option Nat} {en : Nat → List Nat} {pa : Nat → Option Nat} {sp : Nat → Nat} {I : Nat → Prop} (hI : INV rt rk en pa sp I) (hL : LB rt rk en) : (used rk).length ≤ 15 := by
  by_cases h0 : rk rt = some 0
  · -- the root is a leaf: no other node
    have hs : ∀ n, n ∈ used rk → n ∈ [rt] := fun n hn => by
      obtain ⟨⟨r, hr, hr16, hrk⟩, -, h2, -⟩ := hI
      obtain ⟨k, hk⟩ := (used_mem fun n k h => (h2 n k h).1).mp hn
      rw [h0] at hr
      cases hr
      have := hrk n k hk
      exact List.mem_singleton.mpr (this.2 (by omega))
    have := nd_len (used_nd rk) hs
    simp at this
    omega
  · have h1 := used_count hI (fun _ => 2) (fun n k hk => by
      rcases hL n k hk with h | ⟨h, hk0⟩
      · exact h
      · subst h; subst hk0; exact absurd hk h0)
    rw [sum_const] at h1
    omega
theorem used_le5 {rt : Nat} {rk : Nat → Option Nat} {en : Nat → List Nat} {pa : Nat → Option Nat} {sp : Nat → Nat} {I : Nat → Prop} (hI : INV rt rk en pa sp I) (hL : LB rt rk en) {x k : Nat} (hx : rk x = some k) (h5 : (en x).length = 5) : (used rk).length ≤ 12 := by
  have hb : ∀ n k, rk n = some k → n < 16 := fun n k h => (hI.2.2.1 n k h).1
  have h1 := used_count hI (fun n => if n = x then 2 + 3 else 2) (fun n k' hk => by
    show (if n = x then 2 + 3 else 2) ≤ _
    by_cases hn : n = x
    · rw [if_pos hn, hn]; omega
    · rw [if_neg hn]
      rcases hL n k' hk with h | ⟨h, hk0⟩
      · exact h
      · -- the root is a leaf, so x is the root
        obtain ⟨⟨r, hr, hr16, hrk⟩, -⟩ := hI
        subst h; subst hk0
        rw [hr] at hk
        cases hk
        have := hrk x k hx
        exact absurd (this.2 (by omega)).symm hn)
  rw [sum_one ((used_mem hb).mpr ⟨k, hx⟩) (used_nd rk)] at h1
  omega
/-- the lowest free node -/
def freeN (rk : Nat → Option Nat) : Nat := ((List.range 16).find? fun n => (rk n).isNone).getD 16
theorem freeN_spec {rk : Nat → Option Nat} (hb : ∀ n k, rk n = some k → n < 16) (h : (used rk).length < 16) : freeN rk < 16 ∧ rk (freeN rk) = none ∧ ∀ n, n < freeN rk → rk n ≠ none := by
  have hex : ∃ n, n < 16 ∧ rk n = none := by
    refine Classical.byContradiction fun q => ?_
    have hall : ∀ n, n ∈ List.range 16 → n ∈ used rk := fun n hn => by
      have hn' := List.mem_range.mp hn
      cases hk : rk n with
      | none => exact absurd ⟨n, hn', hk⟩ q
      | some k => exact (used_mem hb).mpr ⟨k, hk⟩
    have := nd_len List.nodup_range hall
    rw [List.length_range] at this
    omega
  unfold freeN
  cases hf : (List.range 16).find? fun n => (rk n).isNone with
  | none =>
    obtain ⟨n, hn, hk⟩ := hex
    have := List.find?_eq_none.mp hf n (List.mem_range.mpr hn)
    rw [hk] at this
    exact absurd rfl this
  | some m =>
    show m < 16 ∧ rk m = none ∧ ∀ n, n < m → rk n ≠ none
    have h1 := List.find?_some hf
    have h2 := List.mem_range.mp (List.mem_of_find?_eq_some hf)
    refine ⟨h2, Option.isNone_iff_eq_none.mp h1, fun n hn hk => ?_⟩
    rw [List.find?_range_eq_some] at hf
    have h3 := hf.2.2 n hn
    rw [hk] at h3
    cases h3
