/-! Removing as a function -/
def disT (T : tS) (x a k : Nat) : tS := (T.1, rkD T.2.1 (preR T.2.2.1 k x), va_up T.2.2.1 a ((T.2.2.1 a).erase x), T.2.2.2.1, T.2.2.2.2)
def climbT : Nat → tS → List Nat → Nat → tS × List Nat
  | 0, T, nt, _ => (T, nt)
  | f + 1, T, nt, x => match T.2.2.2.1 x with
    | none => (T, nt)
    | some a => if (T.2.2.1 x).length < 2 then climbT f (disT T x a ((T.2.1 x).getD 0)) (nt ++ shR T.2.2.1 ((T.2.1 x).getD 0) x) a else climbT f T nt a
def loT (T : tS) (c : Nat) : tS := (c, va_up T.2.1 T.1 none, T.2.2.1, va_up T.2.2.2.1 c none, T.2.2.2.2)
def lowT : Nat → tS → tS
  | 0, T => T
  | f + 1, T => if T.2.1 T.1 ≠ some 0 ∧ (T.2.2.1 T.1).length = 1 then lowT f (loT T ((T.2.2.1 T.1).getD 0 0)) else T
def cutT (T : tS) (s : Nat) : tS := (T.1, T.2.1, va_up T.2.2.1 (T.2.2.2.2 s) ((T.2.2.1 (T.2.2.2.2 s)).erase s), T.2.2.2.1, T.2.2.2.2)
def remC (T : tS) (s : Nat) : tS × List Nat := climbT 17 (cutT T s) [] (T.2.2.2.2 s)
def remT (T : tS) (s : Nat) : tS := lowT 17 (remC T s).1
/-- all but x have two entries or more (a root that is a leaf apart) -/
def LBx (T : tS) (x : Nat) : Prop := (∀ n k, T.2.1 n = some k → n ≠ x → 2 ≤ (T.2.2.1 n).length ∨ (n = T.1 ∧ k = 0)) ∧ ∀ k, T.2.1 x = some (k + 1) → 1 ≤ (T.2.2.1 x).length
theorem INVt_congr {T : tS} {I J : Nat → Prop} (h : INVt T I) (e : ∀ t, I t ↔ J t) : INVt T J := by
  rw [show J = I from funext fun t => propext (e t).symm]
  exact h
theorem er_len {l : List Nat} {x : Nat} (h : x ∈ l) : (l.erase x).length + 1 = l.length := by
  rw [List.length_erase_of_mem h]
  have := List.length_pos_of_mem h
  omega
theorem climb_ok : ∀ (f : Nat) {T : tS} {nt : List Nat} {x k r : Nat} {I : Nat → Prop}, INVt T I → (∀ t, t ∈ nt → ¬ I t) → nt.Nodup → LBx T x → UBt T 4 → T.2.1 T.1 = some r → T.2.1 x = some k → r - k < f →
    INVt (climbT f T nt x).1 (fun t => I t ∧ t ∉ (climbT f T nt x).2) ∧ (climbT f T nt x).2.Nodup ∧ (∀ t, t ∈ (climbT f T nt x).2 → t ∈ nt ∨ I t) ∧ UBt (climbT f T nt x).1 4 ∧ LBx (climbT f T nt x).1 (climbT f T nt x).1.1 ∧ (climbT f T nt x).1.1 = T.1 ∧ (climbT f T nt x).1.2.1 T.1 = some r
  | 0, T, nt, x, k, r, I, _, _, _, _, _, _, _, hf => absurd hf (Nat.not_lt_zero _)
  | f + 1, T, nt, x, k, r, I, hI, hd, hn, hL, hU, hr, hx, hf => by
    unfold climbT
    cases hp : T.2.2.2.1 x with
    | none =>
      dsimp only
      have hxr : x = T.1 := Classical.byContradiction fun q => by
        obtain ⟨a', pa1, -⟩ := hI.2.2.2.2.2.1 x k hx q
        rw [hp] at pa1
        cases pa1
      subst hxr
      exact ⟨INVt_congr hI fun t => ⟨fun h => ⟨h, fun q => hd t q h⟩, fun h => h.1⟩, hn, fun t h => Or.inl h, hU, hL, rfl, hr⟩
    | some a =>
      dsimp only
      rw [show (T.2.1 x).getD 0 = k by rw [hx]; rfl]
      have hxr : x ≠ T.1 := fun q => by rw [q, hI.2.1] at hp; cases hp
      obtain ⟨a', pa1, rka, hxa⟩ := hI.2.2.2.2.2.1 x k hx hxr
      rw [hp] at pa1
      cases pa1
      have hax : a ≠ x := fun q => by rw [q, hx] at rka; cases rka
      have hka : k + 1 ≤ r := by
        obtain ⟨⟨r', hr', -, hrk⟩, -⟩ := id hI
        rw [hr] at hr'
        cases hr'
        exact (hrk a _ rka).1
      have ha2 : 2 ≤ (T.2.2.1 a).length := by
        rcases hL.1 a _ rka hax with q | ⟨-, q⟩
        · exact q
        · omega
      by_cases hc : (T.2.2.1 x).length < 2
      · rw [if_pos hc]
        have hout : ∀ n j, T.2.1 n = some j → k < j → n ∉ preR T.2.2.1 k x := fun n j hn hj q => by
          obtain ⟨j', j1, j2, -⟩ := pre_rk hI hx q
          rw [hn] at j1
          cases j1
          omega
        have rk_o : ∀ n, n ∉ preR T.2.2.1 k x → (disT T x a k).2.1 n = T.2.1 n := fun n q => if_neg q
        have rk_i : ∀ n j, (disT T x a k).2.1 n = some j → T.2.1 n = some j ∧ n ∉ preR T.2.2.1 k x := fun n j h => by
          by_cases e : n ∈ preR T.2.2.1 k x
          · have h' : (if n ∈ preR T.2.2.1 k x then none else T.2.1 n) = some j := h
            rw [if_pos e] at h'
            cases h'
          · rw [rk_o n e] at h; exact ⟨h, e⟩
        have en_a : (disT T x a k).2.2.1 a = (T.2.2.1 a).erase x := up_s _ _ _
        have en_o : ∀ n, n ≠ a → (disT T x a k).2.2.1 n = T.2.2.1 n := fun n q => up_n _ _ q
        have h1 : INVt (disT T x a k) (fun t => I t ∧ t ∉ shR T.2.2.1 k x) := INVt_congr (INV_diss hI hx hp) fun t => by
          constructor
          · exact fun h => ⟨h.1, fun q => h.2 ((sh_sp hI hx).mp q).2⟩
          · exact fun h => ⟨h.1, fun q => h.2 ((sh_sp hI hx).mpr ⟨h.1, q⟩)⟩
        have hrs : T.1 ∉ preR T.2.2.1 k x := hout _ _ hr (by omega)
        have h2 := climb_ok f (T := disT T x a k) (nt := nt ++ shR T.2.2.1 k x) (x := a) (k := k + 1) (r := r) h1
          (fun t ht q => by
            rcases List.mem_append.mp ht with ht | ht
            · exact hd t ht q.1
            · exact q.2 ht)
          (by
            rw [List.nodup_append]
            refine ⟨hn, sh_nd hI hx, fun t ht u hu e => ?_⟩
            subst e
            exact hd t ht ((sh_sp hI hx).mp hu).1)
          ⟨fun n j hj hne => by
            obtain ⟨hj1, hj2⟩ := rk_i n j hj
            rw [en_o n hne]
            have hnx : n ≠ x := fun q => hj2 (by rw [q]; exact pre_self _ k x)
            exact hL.1 n j hj1 hnx, fun j hj => by
            rw [en_a]
            have := er_len hxa
            omega⟩
          (fun n j hj => by
            obtain ⟨hj1, -⟩ := rk_i n j hj
            show ((disT T x a k).2.2.1 n).length ≤ 4
            by_cases e : n = a
            · rw [e, en_a]; have := er_len hxa; have := hU a _ rka; omega
            · rw [en_o n e]; exact hU n j hj1)
          (by rw [show (disT T x a k).1 = T.1 from rfl, rk_o _ hrs]; exact hr)
          (by rw [rk_o _ (hout _ _ rka (by omega))]; exact rka) (by omega)
        obtain ⟨b1, b2, b3, b4, b5, b6, b7⟩ := h2
        have hsub : ∀ (g : Nat) (T0 : tS) (l0 : List Nat) (y : Nat) (t : Nat), t ∈ l0 → t ∈ (climbT g T0 l0 y).2 := by
          intro g
          induction g with
          | zero => exact fun _ _ _ _ h => h
          | succ g ih =>
            intro T0 l0 y t h
            unfold climbT
            cases T0.2.2.2.1 y with
            | none => exact h
            | some b =>
              dsimp only
              split
              · exact ih _ _ _ _ (List.mem_append_left _ h)
              · exact ih _ _ _ _ h
        refine ⟨INVt_congr b1 fun t => ?_, b2, fun t ht => ?_, b4, b5, b6, b7⟩
        · constructor
          · exact fun h => ⟨h.1.1, h.2⟩
          · exact fun h => ⟨⟨h.1, fun q => h.2 (hsub _ _ _ _ _ (List.mem_append_right _ q))⟩, h.2⟩
        · rcases b3 t ht with q | q
          · rcases List.mem_append.mp q with q | q
            · exact Or.inl q
            · exact Or.inr ((sh_sp hI hx).mp q).1
          · exact Or.inr q.1
      · rw [if_neg hc]
        refine climb_ok f hI hd hn ⟨fun n j hj hne => ?_, fun j hj => by omega⟩ hU hr rka (by omega)
        by_cases e : n = x
        · rw [e]; exact Or.inl (by omega)
        · exact hL.1 n j hj e
theorem low_ok : ∀ (f : Nat) {T : tS} {r : Nat} {I : Nat → Prop}, INVt T I → LBx T T.1 → UBt T 4 → T.2.1 T.1 = some r → r < f → INVt (lowT f T) I ∧ LBt (lowT f T) ∧ UBt (lowT f T) 4
  | 0, T, r, I, _, _, _, _, hf => absurd hf (Nat.not_lt_zero _)
  | f + 1, T, r, I, hI, hL, hU, hr, hf => by
    unfold lowT
    by_cases hc : T.2.1 T.1 ≠ some 0 ∧ (T.2.2.1 T.1).length = 1
    · rw [if_pos hc]
      obtain ⟨k, hk⟩ : ∃ k, r = k + 1 := by
        cases r with
        | zero => exact absurd hr hc.1
        | succ k => exact ⟨k, rfl⟩
      subst hk
      obtain ⟨c, he⟩ : ∃ c, T.2.2.1 T.1 = [c] := List.length_eq_one_iff.mp hc.2
      rw [he]
      show INVt (lowT f (loT T c)) I ∧ LBt (lowT f (loT T c)) ∧ UBt (lowT f (loT T c)) 4
      have c1 := hI.2.2.2.1 T.1 k c hr (by rw [he]; exact List.mem_singleton.mpr rfl)
      have hcr : c ≠ T.1 := fun q => by rw [q, hI.2.1] at c1; cases c1.2
      have rk_i : ∀ n j, (loT T c).2.1 n = some j → T.2.1 n = some j ∧ n ≠ T.1 := fun n j hn => by
        have hn' : va_up T.2.1 T.1 none n = some j := hn
        by_cases e : n = T.1
        · rw [e, up_s] at hn'; cases hn'
        · rw [up_n _ _ e] at hn'; exact ⟨hn', e⟩
      have hge : ∀ n j, T.2.1 n = some j → n ≠ T.1 → 2 ≤ (T.2.2.1 n).length := fun n j hn hne => by
        rcases hL.1 n j hn hne with q | ⟨q, -⟩
        · exact q
        · exact absurd q hne
      refine low_ok f (r := k) (INV_low hI hr he) ⟨fun n j hn hne => ?_, fun j hj => ?_⟩ (fun n j hn => hU n j (rk_i n j hn).1) ?_ (by omega)
      · obtain ⟨hn, hnr⟩ := rk_i n j hn
        exact Or.inl (hge n j hn hnr)
      · have := hge c k c1.1 hcr
        show 1 ≤ (T.2.2.1 c).length
        omega
      · show va_up T.2.1 T.1 none c = some k
        rw [up_n _ _ hcr]; exact c1.1
    · rw [if_neg hc]
      refine ⟨hI, fun n j hn => ?_, hU⟩
      by_cases e : n = T.1
      · subst e
        cases j with
        | zero => exact Or.inr ⟨rfl, rfl⟩
        | succ j =>
          have h1 := hL.2 j hn
          refine Or.inl ?_
          have h2 : (T.2.2.1 T.1).length ≠ 1 := fun q => hc ⟨(by rw [hn]; intro z; cases z), q⟩
          omega
      · exact hL.1 n j hn e
theorem remC_ok {T : tS} {I : Nat → Prop} (hI : INVt T I) (hL : LBt T) (hU : UBt T 4) {s : Nat} (hs : I s) :
    INVt (remC T s).1 (fun t => (I t ∧ t ≠ s) ∧ t ∉ (remC T s).2) ∧ (remC T s).2.Nodup ∧ (∀ t, t ∈ (remC T s).2 → I t ∧ t ≠ s) ∧ UBt (remC T s).1 4 ∧ LBx (remC T s).1 (remC T s).1.1 ∧ ∃ r, r < 16 ∧ (remC T s).1.2.1 (remC T s).1.1 = some r := by
  obtain ⟨⟨r, hr, hr16, -⟩, -⟩ := id hI
  have hs2 := hI.2.2.2.2.2.2 s hs
  have en_x : (cutT T s).2.2.1 (T.2.2.2.2 s) = (T.2.2.1 (T.2.2.2.2 s)).erase s := up_s _ _ _
  have en_o : ∀ n, n ≠ T.2.2.2.2 s → (cutT T s).2.2.1 n = T.2.2.1 n := fun n q => up_n _ _ q
  have h1 := climb_ok 17 (T := cutT T s) (nt := []) (x := T.2.2.2.2 s) (k := 0) (r := r) (I := fun t => I t ∧ t ≠ s) (INV_cut hI hs) (fun t h => absurd h List.not_mem_nil) List.nodup_nil
    ⟨fun n j hn hne => by
      show 2 ≤ ((cutT T s).2.2.1 n).length ∨ _
      rw [en_o n hne]; exact hL n j hn, fun j hj => by
      have hj' : T.2.1 (T.2.2.2.2 s) = some (j + 1) := hj
      rw [hs2.1] at hj'
      cases hj'⟩
    (fun n j hn => by
      show ((cutT T s).2.2.1 n).length ≤ 4
      by_cases e : n = T.2.2.2.2 s
      · rw [e, en_x]
        have := er_len hs2.2
        have := hU _ _ hs2.1
        omega
      · rw [en_o n e]; exact hU n j hn)
    hr hs2.1 (by omega)
  obtain ⟨b1, b2, b3, b4, b5, b6, b7⟩ := h1
  refine ⟨b1, b2, fun t ht => ?_, b4, b5, r, hr16, ?_⟩
  · rcases b3 t ht with q | q
    · exact absurd q List.not_mem_nil
    · exact q
  · unfold remC
    rw [b6]; exact b7
theorem remT_ok {T : tS} {I : Nat → Prop} (hI : INVt T I) (hL : LBt T) (hU : UBt T 4) {s : Nat} (hs : I s) :
    INVt (remT T s) (fun t => (I t ∧ t ≠ s) ∧ t ∉ (remC T s).2) ∧ LBt (remT T s) ∧ UBt (remT T s) 4 := by
  obtain ⟨b1, b2, b3, b4, b5, r, b6, b7⟩ := remC_ok hI hL hU hs
  exact low_ok 17 b1 b5 b4 b7 (by omega)
def insAll (sb : Nat → Int32) (T : tS) (l : List Nat) : tS := l.foldl (insT sb) T
theorem insAll_ok (sb : Nat → Int32) : ∀ (l : List Nat) {T : tS} {J : Nat → Prop}, INVt T (fun t => J t ∧ t ∉ l) → LBt T → UBt T 4 → l.Nodup → (∀ t, t ∈ l → J t ∧ t < 16) → INVt (insAll sb T l) J ∧ LBt (insAll sb T l) ∧ UBt (insAll sb T l) 4
  | [], T, J, hI, hL, hU, _, _ => ⟨INVt_congr hI fun t => ⟨fun h => h.1, fun h => ⟨h, List.not_mem_nil⟩⟩, hL, hU⟩
  | s :: l, T, J, hI, hL, hU, hn, hl => by
    have hn' := List.nodup_cons.mp hn
    obtain ⟨a1, a2, a3⟩ := insT_ok sb hI hL hU (hl s List.mem_cons_self).2 (fun q => q.2 List.mem_cons_self)
    refine insAll_ok sb l (INVt_congr a1 fun t => ?_) a2 a3 hn'.2 (fun t ht => hl t (List.mem_cons_of_mem _ ht))
    constructor
    · rintro (h | rfl)
      · exact ⟨h.1, fun q => h.2 (List.mem_cons_of_mem _ q)⟩
      · exact ⟨(hl t List.mem_cons_self).1, hn'.1⟩
    · intro h
      by_cases e : t = s
      · exact Or.inr e
      · exact Or.inl ⟨h.1, fun q => (List.mem_cons.mp q).elim e h.2⟩
