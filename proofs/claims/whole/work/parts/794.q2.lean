/-! Questions: what is hit, what is nearest -/
def abv (ht : Nat → Nat) (u t : Nat) : Prop := ht t < ht u ∨ (ht t = ht u ∧ t < u)
theorem abv_dec (ht : Nat → Nat) (u t : Nat) : abv ht u t ∨ ¬ abv ht u t := by
  unfold abv
  omega
def abB (ht : Nat → Nat) (u t : Nat) : Bool := decide (ht t < ht u) || (decide (ht t = ht u) && decide (t < u))
theorem abB_iff {ht : Nat → Nat} {u t : Nat} : abB ht u t = true ↔ abv ht u t := by
  unfold abB abv
  simp
theorem abv_irr (ht : Nat → Nat) (u : Nat) : ¬ abv ht u u := by unfold abv; omega
theorem abv_asy {ht : Nat → Nat} {u t : Nat} (h : abv ht u t) : ¬ abv ht t u := by unfold abv at *; omega
theorem abv_tr {ht : Nat → Nat} {u t w : Nat} (h : abv ht u t) (h2 : abv ht t w) : abv ht u w := by unfold abv at *; omega
theorem abv_tot {ht : Nat → Nat} {u t : Nat} (h : u ≠ t) : abv ht u t ∨ abv ht t u := by unfold abv; omega
theorem cnt_one {f g : Nat → Bool} {u : Nat} (hu : f u = false) (hg : g u = true) : ∀ {n : Nat}, u < n → (∀ t, t < n → t ≠ u → g t = f t) → cnt g n = cnt f n + 1
  | 0, h, _ => absurd h (Nat.not_lt_zero _)
  | n + 1, h, hh => by
    show cnt g n + (if g n = true then 1 else 0) = cnt f n + (if f n = true then 1 else 0) + 1
    by_cases e : u = n
    · subst e
      rw [hu, hg, cnt_ext (p := g) (q := f) fun t ht => hh t (by omega) (by omega)]
      rfl
    · rw [cnt_one hu hg (n := n) (by omega) (fun t ht hne => hh t (by omega) hne), hh n (by omega) (fun q => e q.symm)]
      omega
theorem cnt_le2 {f g : Nat → Bool} : ∀ {n : Nat}, (∀ t, t < n → f t = true → g t = true) → cnt f n ≤ cnt g n
  | 0, _ => Nat.le_refl _
  | n + 1, h => by
    show cnt f n + (if f n = true then 1 else 0) ≤ cnt g n + (if g n = true then 1 else 0)
    have := cnt_le2 (n := n) fun t ht => h t (by omega)
    by_cases c : f n = true
    · rw [if_pos c, if_pos (h n (by omega) c)]; omega
    · rw [if_neg c]; omega
theorem cnt_lt2 {f g : Nat → Bool} {u n : Nat} (hu : u < n) (hfu : f u = false) (hgu : g u = true) (h : ∀ t, t < n → f t = true → g t = true) : cnt f n < cnt g n := by
  have h1 := cnt_one (f := f) (g := fun t => f t || decide (t = u)) hfu (by simp) hu (fun t _ hne => by simp [hne])
  have h2 := cnt_le2 (f := fun t => f t || decide (t = u)) (g := g) (n := n) (fun t ht q => by
    rcases (Bool.or_eq_true _ _).mp q with q | q
    · exact h t ht q
    · rw [of_decide_eq_true q]; exact hgu)
  omega
/-- how many of p are above s -/
def rnk (ht : Nat → Nat) (p : Nat → Bool) (s : Nat) : Nat := cnt (fun t => p t && abB ht t s) 16
/-- u is the uppermost of p -/
def UM (ht : Nat → Nat) (p : Nat → Bool) (u : Nat) : Prop := u < 16 ∧ p u = true ∧ ∀ t, t < 16 → p t = true → t ≠ u → abv ht u t
theorem rnk_lt {ht : Nat → Nat} {p : Nat → Bool} {s u : Nat} (hu : u < 16) (hp : p u = true) (h : abv ht u s) : rnk ht p u < rnk ht p s := by
  refine cnt_lt2 hu ?_ ?_ (fun t _ q => ?_)
  · cases hq : abB ht u u with
    | false => simp
    | true => exact absurd (abB_iff.mp hq) (abv_irr ht u)
  · rw [hp, abB_iff.mpr h]; rfl
  · rw [Bool.and_eq_true] at q ⊢
    exact ⟨q.1, abB_iff.mpr (abv_tr (abB_iff.mp q.2) h)⟩
theorem rnk_inj {ht : Nat → Nat} {p : Nat → Bool} {s u : Nat} (hs : s < 16) (hu : u < 16) (ps : p s = true) (pu : p u = true) (e : rnk ht p s = rnk ht p u) : s = u := Classical.byContradiction fun q => by
  rcases abv_tot (ht := ht) q with z | z
  · have := rnk_lt hs ps z; omega
  · have := rnk_lt hu pu z; omega
theorem rnk_cnt {ht : Nat → Nat} {p : Nat → Bool} {s : Nat} (hs : s < 16) (ps : p s = true) : rnk ht p s < cnt p 16 := cnt_lt2 hs (by
  cases hq : abB ht s s with
  | false => simp
  | true => exact absurd (abB_iff.mp hq) (abv_irr ht s)) ps (fun t _ q => ((Bool.and_eq_true _ _).mp q).1)
/-- k have been taken off, each above all that is left -/
def OFF (ht : Nat → Nat) (p q : Nat → Bool) (k : Nat) : Prop := (∀ t, t < 16 → q t = true → p t = true) ∧ cnt (fun t => p t && !q t) 16 = k ∧ ∀ t u, t < 16 → u < 16 → p t = true → q t = false → q u = true → abv ht t u
theorem OFF_step {ht : Nat → Nat} {p q : Nat → Bool} {k u : Nat} (h : OFF ht p q k) (hu : UM ht q u) : OFF ht p (fun t => q t && !(t == u)) (k + 1) := by
  obtain ⟨h1, h2, h3⟩ := h
  obtain ⟨u1, u2, u3⟩ := hu
  refine ⟨fun t ht' z => h1 t ht' ((Bool.and_eq_true _ _).mp z).1, ?_, fun t w ht' hw pt qt qw => ?_⟩
  · rw [← h2]
    refine cnt_one (u := u) (by rw [u2]; simp) (by rw [h1 u u1 u2]; simp) u1 (fun t _ hne => ?_)
    have : (t == u) = false := beq_false_of_ne hne
    show (p t && !(q t && !(t == u))) = (p t && !q t)
    rw [this]; simp
  · rw [Bool.and_eq_true] at qw
    by_cases e : t = u
    · subst e
      exact u3 w hw qw.1 (fun z => by rw [z] at qw; simp at qw)
    · have : (t == u) = false := beq_false_of_ne e
      have qt2 : (q t && !(t == u)) = false := qt
      rw [this] at qt2
      simp at qt2
      exact h3 t w ht' hw pt qt2 qw.1
theorem OFF_rnk {ht : Nat → Nat} {p q : Nat → Bool} {k u : Nat} (h : OFF ht p q k) (hu : UM ht q u) : p u = true ∧ rnk ht p u = k := by
  obtain ⟨h1, h2, h3⟩ := h
  obtain ⟨u1, u2, u3⟩ := hu
  refine ⟨h1 u u1 u2, ?_⟩
  rw [← h2]
  unfold rnk
  refine cnt_ext fun t ht' => ?_
  cases hp : p t with
  | false => rfl
  | true =>
    cases hq : q t with
    | false => rw [abB_iff.mpr (h3 t u ht' u1 hp hq u2)]; rfl
    | true =>
      have : abB ht t u = false := by
        cases hz : abB ht t u with
        | false => rfl
        | true =>
          by_cases e : t = u
          · subst e; exact absurd (abB_iff.mp hz) (abv_irr ht t)
          · exact absurd (abB_iff.mp hz) (abv_asy (u3 t ht' hq e))
      rw [this]; rfl
theorem OFF_end {ht : Nat → Nat} {p q : Nat → Bool} {k : Nat} (h : OFF ht p q k) (he : ∀ t, t < 16 → q t = false) {s : Nat} (hs : s < 16) (ps : p s = true) : rnk ht p s < k := by
  have := rnk_cnt (ht := ht) hs ps
  rw [← h.2.1]
  refine Nat.lt_of_lt_of_le this (cnt_le2 fun t ht' q2 => ?_)
  rw [q2, he t ht']; rfl
section CU
variable {h : xH} {a : Nat} {S : sS} {sb : Nat → Int32} {ht cl : Nat → Nat} {ch : Nat → List Nat}
/-- the answer for the uppermost -/
def UMr (ht : Nat → Nat) (p : Nat → Bool) (r : Int32) : Prop := (∃ u, UM ht p u ∧ r = nI u) ∨ ((∀ t, t < 16 → p t = false) ∧ r = -1)
theorem c_upper (hS : CSh sb ht cl S) (hht : ∀ s, PR sb s → ht s < 100) {p : Nat → Bool} (hp : ∀ t, t < 16 → p t = true → sb t ≠ 0) : ∃ r, xM 45 [.ref a, .int (nI (mk p 16))] (pS h a S) = some (some (.int r), pS h a S) ∧ UMr ht p r := by
  have loop : ∀ (d n : Nat) (r : Int32), n + d = 16 → ((∃ u, u < n ∧ p u = true ∧ (∀ t, t < n → p t = true → t ≠ u → abv ht u t) ∧ r = nI u) ∨ ((∀ t, t < n → p t = false) ∧ r = -1)) → ∃ r', xE 45 4 [some (.ref a), some (.int (nI (mk p 16))), some (.int r), some (.int (nI n))] [] (pS h a S) = some (some (.int r'), pS h a S) ∧ UMr ht p r' := by
    intro d
    induction d with
    | zero =>
      intro n r hn hr
      have hn : n = 16 := by omega
      subst hn
      refine ⟨r, ?_, ?_⟩
      · rw [xb45_4, if_neg (show ¬ nI 16 < (16 : Int32) by decide)]
      · rcases hr with ⟨u, u1, u2, u3, u4⟩ | q
        · exact Or.inl ⟨u, ⟨u1, u2, u3⟩, u4⟩
        · exact Or.inr q
    | succ d ih =>
      intro n r hn hr
      have n16 : n < 16 := by omega
      rw [xb45_4, if_pos (show nI n < (16 : Int32) from nI_lt (b := 16) n16 (by decide)), nI_1]
      by_cases c : p n = true
      · have hpn : PR sb n := ⟨n16, hp n n16 c⟩
        rw [if_pos ((mk_bit p n16).mpr c)]
        rcases hr with ⟨u, u1, u2, u3, rfl⟩ | ⟨q1, rfl⟩
        · have hpu : PR sb u := ⟨by omega, hp u (by omega) u2⟩
          have hn1 := hht n hpn
          have hu1 := hht u hpu
          rw [if_neg (nI_m1 u (by omega)), sl_s3, Option.bind_some, c_r9 h a S n16, Option.bind_some, (hS.2 n hpn).1, Option.bind_some, c_r9 h a S (by omega), Option.bind_some, (hS.2 u hpu).1]
          by_cases c2 : ht n < ht u
          · rw [if_pos (nI_lt c2 (by omega))]
            refine ih (n + 1) (nI u) (by omega) (Or.inl ⟨u, by omega, u2, fun t ht' pt hne => ?_, rfl⟩)
            by_cases e : t = n
            · rw [e]; exact Or.inl c2
            · exact u3 t (by omega) pt hne
          · rw [if_neg (nI_nlt (by omega) (by omega))]
            have hnu : abv ht n u := by unfold abv; omega
            refine ih (n + 1) (nI n) (by omega) (Or.inl ⟨n, by omega, c, fun t ht' pt hne => ?_, rfl⟩)
            by_cases e : t = u
            · rw [e]; exact hnu
            · exact abv_tr hnu (u3 t (by omega) pt e)
        · rw [if_pos rfl]
          refine ih (n + 1) (nI n) (by omega) (Or.inl ⟨n, by omega, c, fun t ht' pt hne => ?_, rfl⟩)
          have := q1 t (by omega)
          rw [pt] at this
          cases this
      · rw [if_neg (fun q => c ((mk_bit p n16).mp q))]
        refine ih (n + 1) r (by omega) ?_
        rcases hr with ⟨u, u1, u2, u3, u4⟩ | ⟨q1, q2⟩
        · refine Or.inl ⟨u, by omega, u2, fun t ht' pt hne => ?_, u4⟩
          exact u3 t (by
            have : t ≠ n := fun q => c (q ▸ pt)
            omega) pt hne
        · refine Or.inr ⟨fun t ht' => ?_, q2⟩
          by_cases e : t = n
          · rw [e]
            cases hq : p n with
            | false => rfl
            | true => exact absurd hq c
          · exact q1 t (by omega)
  rw [xb45]
  exact loop 16 0 (-1) (by decide) (Or.inr ⟨fun t ht' => absurd ht' (Nat.not_lt_zero _), rfl⟩)
def hld (b x y : Int32) : Bool := decide (bL b ≤ x ∧ x < bR b ∧ bT b ≤ y ∧ y < bB b)
theorem c_holds (b x y : Int32) (hp : xH) : xM 12 [.int b, .int x, .int y] hp = some (some (.int (if hld b x y = true then 1 else 0)), hp) := by
  unfold hld
  rw [xb12, c_left, xcI_some]
  by_cases c1 : x < bL b
  · rw [if_pos c1, if_neg (fun q => absurd c1 (Int32.not_lt.mpr (of_decide_eq_true q).1))]
  · rw [if_neg c1, c_right, xcI_some]
    by_cases c2 : x < bR b
    · rw [if_pos c2, c_top, xcI_some]
      by_cases c3 : y < bT b
      · rw [if_pos c3, if_neg (fun q => absurd c3 (Int32.not_lt.mpr (of_decide_eq_true q).2.2.1))]
      · rw [if_neg c3, c_bottom, xcI_some]
        by_cases c4 : y < bB b
        · rw [if_pos c4, if_pos (decide_eq_true ⟨Int32.not_lt.mp c1, c2, Int32.not_lt.mp c3, c4⟩)]
        · rw [if_neg c4, if_neg (fun q => c4 (of_decide_eq_true q).2.2.2)]
    · rw [if_neg c2, if_neg (fun q => c2 (of_decide_eq_true q).2.1)]
theorem le_pred {x : Int32} {r : Nat} (h1 : 1 ≤ r) (h2 : r < 2 ^ 31) : x ≤ nI r - 1 ↔ x < nI r := by
  obtain ⟨k, rfl⟩ : ∃ k, r = k + 1 := ⟨r - 1, by omega⟩
  rw [nI_pred, Int32.le_iff_toInt_le, Int32.lt_iff_toInt_lt, nI_toInt (by omega), nI_toInt (by omega)]
  omega
theorem m_has {b : Int32} (hb : bok0 b) (x y : Int32) (hp : xH) : xM 169 [.int (e2m b), .int x, .int y] hp = some (some (.int (if hld b x y = true then 1 else 0)), hp) := by
  unfold hld
  rw [xb169]
  rcases hb with rfl | hb
  · rw [e2m_0, if_pos rfl, if_neg (fun q => by
      have z := of_decide_eq_true q
      rw [bsides0.1, bsides0.2.2.1] at z
      exact absurd z.2.1 (Int32.not_lt.mpr z.1))]
  · rw [e2m_ok hb, if_neg (bok_nm1 hb), m_side0, xcI_some, m_side2, xcI_some]
    obtain ⟨l, t, r, c, h1, h2, h3, h4, e⟩ := hb
    have eR : bR b = nI r := by rw [e]; exact bR_nI (by omega) (by omega) (by omega) (by omega)
    have eB : bB b = nI c := by rw [e]; exact bB_nI (by omega) (by omega) (by omega) (by omega)
    by_cases c1 : bL b ≤ x ∧ x ≤ bR b - 1
    · have c1' : bL b ≤ x ∧ x < bR b := by rw [eR] at c1 ⊢; exact ⟨c1.1, (le_pred (by omega) (by omega)).mp c1.2⟩
      rw [m_in_y c1.1 c1.2, xcI_some, if_neg one_ne, m_side1, xcI_some, m_side3, xcI_some]
      by_cases c2 : bT b ≤ y ∧ y ≤ bB b - 1
      · have c2' : bT b ≤ y ∧ y < bB b := by rw [eB] at c2 ⊢; exact ⟨c2.1, (le_pred (by omega) (by omega)).mp c2.2⟩
        rw [m_in_y c2.1 c2.2, xcI_some, if_neg one_ne, if_pos (decide_eq_true ⟨c1'.1, c1'.2, c2'.1, c2'.2⟩)]
      · rw [m_in_n c2, xcI_some, if_pos rfl, if_neg (fun q => by
          have z := of_decide_eq_true q
          refine c2 ⟨z.2.2.1, ?_⟩
          rw [eB] at z ⊢
          exact (le_pred (by omega) (by omega)).mpr z.2.2.2)]
    · rw [m_in_n c1, xcI_some, if_pos rfl, if_neg (fun q => by
        have z := of_decide_eq_true q
        refine c1 ⟨z.1, ?_⟩
        rw [eR] at z ⊢
        exact (le_pred (by omega) (by omega)).mpr z.2.1)]
/-- the shapes that are hit -/
def hitp (sb : Nat → Int32) (ch : Nat → List Nat) (x y : Int32) (t : Nat) : Bool := decide (sb t ≠ 0) && hld (vw sb ch t) x y
theorem hitp_pr {x y : Int32} {t : Nat} (q : hitp sb ch x y t = true) : sb t ≠ 0 := of_decide_eq_true ((Bool.and_eq_true _ _).mp q).1
/-- the answer of hit -/
def HIT (ht : Nat → Nat) (p : Nat → Bool) (i : Nat) (r : Int32) : Prop := (∃ u, u < 16 ∧ p u = true ∧ rnk ht p u = i ∧ r = nI u) ∨ ((∀ u, u < 16 → p u = true → rnk ht p u ≠ i) ∧ r = -1)
theorem HIT_uniq {p : Nat → Bool} {i : Nat} {r r' : Int32} (h1 : HIT ht p i r) (h2 : HIT ht p i r') : r = r' := by
  rcases h1 with ⟨u, u1, u2, u3, rfl⟩ | ⟨q1, rfl⟩
  · rcases h2 with ⟨v, v1, v2, v3, rfl⟩ | ⟨q2, rfl⟩
    · rw [rnk_inj u1 v1 u2 v2 (u3.trans v3.symm)]
    · exact absurd u3 (q2 u u1 u2)
  · rcases h2 with ⟨v, v1, v2, v3, rfl⟩ | ⟨q2, rfl⟩
    · exact absurd v3 (q1 v v1 v2)
    · rfl
theorem c_hit (hS : CSh sb ht cl S) (hc : CHI sb cl ch) (hht : ∀ s, PR sb s → ht s < 100) (x y : Int32) {i : Nat} (hi : i < 2 ^ 31) : ∃ r, xM 41 [.ref a, .int x, .int y, .int (nI i)] (pS h a S) = some (some (.int r), pS h a S) ∧ HIT ht (hitp sb ch x y) i r := by
  have met : ∀ (d n : Nat), n + d = 16 → xE 41 6 [some (.ref a), some (.int x), some (.int y), some (.int (nI i)), some (.int (nI (mk (hitp sb ch x y) n))), some (.int (nI n))] [] (pS h a S) = xE 41 55 [some (.ref a), some (.int x), some (.int y), some (.int (nI i)), some (.int (nI (mk (hitp sb ch x y) 16))), some (.int 0)] [] (pS h a S) := by
    intro d
    induction d with
    | zero =>
      intro n hn
      have hn : n = 16 := by omega
      subst hn
      rw [xb41_6, if_neg (show ¬ nI 16 < (16 : Int32) by decide)]
    | succ d ih =>
      intro n hn
      have n16 : n < 16 := by omega
      have := ih (n + 1) (by omega)
      unfold mk at this
      rw [xb41_6, if_pos (show nI n < (16 : Int32) from nI_lt (b := 16) n16 (by decide)), sl_s2, Option.bind_some, c_r0 h a S (by omega), Option.bind_some, hS.1 n n16, nI_1]
      by_cases c : sb n = 0
      · rw [if_neg (fun q => hitp_pr q c), Nat.add_zero] at this
        rw [if_pos c]
        exact this
      · have hpr : PR sb n := ⟨n16, c⟩
        have hiff : hitp sb ch x y n = hld (vw sb ch n) x y := by unfold hitp; rw [decide_eq_true c]; rfl
        rw [hiff] at this
        rw [if_neg c, sl_gu, c_viewOf hS hc hpr, xcI_some, c_holds, xcI_some]
        by_cases c2 : hld (vw sb ch n) x y = true
        · rw [if_pos c2] at this
          rw [if_pos c2, if_neg one_ne, mk_or _ n16]
          exact this
        · rw [if_neg c2, Nat.add_zero] at this
          rw [if_neg c2, if_pos rfl]
          exact this
  have off : ∀ (d k : Nat) (q : Nat → Bool), k + d = 16 → k ≤ i → OFF ht (hitp sb ch x y) q k → ∃ r, xE 41 55 [some (.ref a), some (.int x), some (.int y), some (.int (nI i)), some (.int (nI (mk q 16))), some (.int (nI k))] [] (pS h a S) = some (some (.int r), pS h a S) ∧ HIT ht (hitp sb ch x y) i r := by
    intro d
    induction d with
    | zero =>
      intro k q hk hki hO
      have hk : k = 16 := by omega
      subst hk
      have hqe : ∀ t, t < 16 → q t = false := fun t ht' => by
        cases hq : q t with
        | false => rfl
        | true =>
          have h1 := cnt_lt2 (f := fun t => hitp sb ch x y t && !q t) (g := hitp sb ch x y) ht' (by rw [hq]; simp) (hO.1 t ht' hq) (fun t _ z => ((Bool.and_eq_true _ _).mp z).1)
          have h2 := cnt_le (hitp sb ch x y) 16
          have := hO.2.1
          omega
      obtain ⟨r, y1, y2⟩ := c_upper (h := h) (a := a) hS hht (p := q) (fun t ht' z => hitp_pr (hO.1 t ht' z))
      have hr : r = -1 := by
        rcases y2 with ⟨u, u1, -⟩ | ⟨-, q2⟩
        · have := hqe u u1.1; rw [u1.2.1] at this; cases this
        · exact q2
      refine ⟨r, ?_, Or.inr ⟨fun u hu pu z => ?_, hr⟩⟩
      · have hx : xgu (pS h a S) a 2 (xcI (xM 45 [.ref a, .int (nI (mk q 16))] (pS h a S)) fun v6 h5 => some (some (.int v6), h5)) = some (some (.int r), pS h a S) := by rw [sl_gu, y1, xcI_some]
        rw [xb41_55, if_neg (show ¬ nI 16 < (16 : Int32) by decide), hx]
        split <;> rfl
      · have := OFF_end hO hqe hu pu
        omega
    | succ d ih =>
      intro k q hk hki hO
      obtain ⟨r, y1, y2⟩ := c_upper (h := h) (a := a) hS hht (p := q) (fun t ht' z => hitp_pr (hO.1 t ht' z))
      have hx : xgu (pS h a S) a 2 (xcI (xM 45 [.ref a, .int (nI (mk q 16))] (pS h a S)) fun v6 h5 => some (some (.int v6), h5)) = some (some (.int r), pS h a S) := by rw [sl_gu, y1, xcI_some]
      have hm := mk16 q
      by_cases c1 : k < i
      · rw [xb41_55, if_pos (nI_lt c1 hi), if_pos (show nI k < (16 : Int32) from nI_lt (b := 16) (by omega) (by decide))]
        by_cases c2 : mk q 16 = 0
        · have hqe := (mk_zero 16).mp c2
          rw [if_pos (show nI (mk q 16) = 0 by rw [c2]; rfl), hx]
          refine ⟨r, rfl, Or.inr ⟨fun u hu pu z => ?_, ?_⟩⟩
          · have := OFF_end hO hqe hu pu
            omega
          · rcases y2 with ⟨u, u1, -⟩ | ⟨-, q2⟩
            · have := hqe u u1.1; rw [u1.2.1] at this; cases this
            · exact q2
        · rw [if_neg (show ¬ nI (mk q 16) = (0 : Int32) from nI_nel (n := 0) (by omega) (by decide) c2), sl_gu, y1, xcI_some, nI_1]
          rcases y2 with ⟨u, u1, rfl⟩ | ⟨q1, -⟩
          · rw [mk_clear q u1.1]
            exact ih (k + 1) _ (by omega) (by omega) (OFF_step hO u1)
          · exact absurd ((mk_zero 16).mpr q1) c2
      · have hki' : k = i := by omega
        subst hki'
        rw [xb41_55, if_neg (nI_nlt (Nat.le_refl _) hi), hx]
        refine ⟨r, rfl, ?_⟩
        rcases y2 with ⟨u, u1, q2⟩ | ⟨q1, q2⟩
        · obtain ⟨z1, z2⟩ := OFF_rnk hO u1
          exact Or.inl ⟨u, u1.1, z1, z2, q2⟩
        · refine Or.inr ⟨fun u hu pu z => ?_, q2⟩
          have := OFF_end hO q1 hu pu
          omega
  have h1 := met 16 0 (by decide)
  obtain ⟨r, h2, h3⟩ := off 16 0 (hitp sb ch x y) (by decide) (Nat.zero_le _) ⟨fun _ _ z => z, by
    rw [cnt_zero]
    intro t _
    cases hitp sb ch x y t <;> rfl, fun t u _ _ pt qt _ => by rw [pt] at qt; cases qt⟩
  refine ⟨r, ?_, h3⟩
  rw [xb41]
  exact Eq.trans (show _ = _ from h1) h2
end CU
section MU2
variable {h : xH} {a : Nat} {S : mS} {f : Nat → Int32} {sb : Nat → Int32} {ht cl : Nat → Nat} {ch : Nat → List Nat}
theorem m_isAbove0 {t s : Nat} (ht16 : t < 16) (hs : s < 16) : ∃ v : Int32, xM 125 [.ref a, .int (nI t), .int (nI s)] (pM h a (m0 S f)) = some (some (.int v), pM h a (m0 S f)) ∧ ∀ x y : Nat, x < 100 → y < 100 → f (4 * t + 2) = nI x → f (4 * s + 2) = nI y → v = if y < x ∨ (y = x ∧ s < t) then 1 else 0 := by
  rw [xb125, ml_gu, m_s2 h a S f ht16, xcI_some, ml_gu, m_s2 h a S f hs, xcI_some]
  by_cases c1 : f (4 * s + 2) < f (4 * t + 2)
  · rw [if_pos c1]
    refine ⟨1, rfl, fun x y hx hy e1 e2 => ?_⟩
    rw [e1, e2] at c1
    rw [if_pos (Or.inl ((nI_ltI (by omega) (by omega)).mp c1))]
  · rw [if_neg c1, ml_gu, m_s2 h a S f ht16, xcI_some, ml_gu, m_s2 h a S f hs, xcI_some]
    by_cases c2 : f (4 * t + 2) = f (4 * s + 2)
    · rw [if_pos c2]
      by_cases c3 : s < t
      · rw [if_pos (nI_lt c3 (by omega))]
        refine ⟨1, rfl, fun x y hx hy e1 e2 => ?_⟩
        rw [e1, e2] at c2
        have := nI_inj (by omega) (by omega) c2
        rw [if_pos (Or.inr ⟨by omega, c3⟩)]
      · rw [if_neg (nI_nlt (by omega) (by omega))]
        refine ⟨0, rfl, fun x y hx hy e1 e2 => ?_⟩
        rw [e1, e2] at c2
        have := nI_inj (by omega) (by omega) c2
        rw [if_neg (by omega)]
    · rw [if_neg c2]
      refine ⟨0, rfl, fun x y hx hy e1 e2 => ?_⟩
      rw [e1, e2] at c1 c2
      have h1 : ¬ y < x := fun q => c1 (nI_lt q (by omega))
      have h2 : ¬ x = y := fun q => c2 (by rw [q])
      rw [if_neg (by omega)]
theorem m_isAbove (hM : MSh sb ht cl f) (hht : ∀ s, PR sb s → ht s < 100) {t s : Nat} (h1 : PR sb t) (h2 : PR sb s) : xM 125 [.ref a, .int (nI t), .int (nI s)] (pM h a (m0 S f)) = some (some (.int (if abB ht t s = true then 1 else 0)), pM h a (m0 S f)) := by
  obtain ⟨v, e1, e2⟩ := m_isAbove0 (h := h) (a := a) (S := S) (f := f) h1.1 h2.1
  rw [e1, e2 (ht t) (ht s) (hht t h1) (hht s h2) (hM.2 t h1).2.1 (hM.2 s h2).2.1]
  by_cases c : abB ht t s = true
  · rw [if_pos c, if_pos (show ht s < ht t ∨ ht s = ht t ∧ s < t from abB_iff.mp c)]
  · rw [if_neg c, if_neg (show ¬ (ht s < ht t ∨ ht s = ht t ∧ s < t) from fun q => c (abB_iff.mpr q))]
theorem m_isHit (hM : MSh sb ht cl f) (hb : ∀ s, sb s ≠ 0 → bok (sb s)) (hc : CHI sb cl ch) (x y : Int32) {t : Nat} (ht16 : t < 16) : xM 170 [.ref a, .int (nI t), .int x, .int y] (pM h a (m0 S f)) = some (some (.int (if hitp sb ch x y t = true then 1 else 0)), pM h a (m0 S f)) := by
  rw [xb170, ml_gu, m_isShapeN hM ht16, xcI_some]
  by_cases c : sb t = 0
  · rw [if_pos c, if_pos rfl, if_neg (fun q => hitp_pr q c)]
  · have hpr : PR sb t := ⟨ht16, c⟩
    have hiff : hitp sb ch x y t = hld (vw sb ch t) x y := by unfold hitp; rw [decide_eq_true c]; rfl
    rw [if_neg c, if_neg one_ne, ml_gu, m_viewOf hM hb hc hpr, xcI_some, m_has (vw_ok hb hc hpr), xcI_some, hiff]
    by_cases c2 : hld (vw sb ch t) x y = true
    · rw [if_pos c2, if_neg one_ne]
    · rw [if_neg c2, if_pos rfl]
theorem m_hit (hM : MSh sb ht cl f) (hb : ∀ s, sb s ≠ 0 → bok (sb s)) (hc : CHI sb cl ch) (hht : ∀ s, PR sb s → ht s < 100) (x y : Int32) {i : Nat} (hi : i < 2 ^ 31) : ∃ r, xE 171 22 [some (.ref a), some (.int x), some (.int y), some (.int (nI i)), some (.int 0), none, none] [] (pM h a (m0 S f)) = some (some (.int r), pM h a (m0 S f)) ∧ HIT ht (hitp sb ch x y) i r := by
  have hz : ∀ v : Int32, v + 0 = v := fun v => by simp
  -- how many are above s
  have inner : ∀ (s : Nat), s < 16 → ∀ (d n : Nat) (v : Int32), n + d = 16 → ∃ w, xE 171 35 [some (.ref a), some (.int x), some (.int y), some (.int (nI i)), some (.int (nI s)), some (.int v), some (.int (nI n))] [] (pM h a (m0 S f)) = xE 171 35 [some (.ref a), some (.int x), some (.int y), some (.int (nI i)), some (.int (nI s)), some (.int w), some (.int (nI 16))] [] (pM h a (m0 S f)) ∧ (PR sb s → v = nI (cnt (fun t => hitp sb ch x y t && abB ht t s) n) → w = nI (rnk ht (hitp sb ch x y) s)) := by
    intro s hs d
    induction d with
    | zero =>
      intro n v hn
      have hn : n = 16 := by omega
      subst hn
      exact ⟨v, rfl, fun _ q => q⟩
    | succ d ih =>
      intro n v hn
      have n16 : n < 16 := by omega
      rw [xb171_35, if_pos (show nI n < (16 : Int32) from nI_lt (b := 16) n16 (by decide)), ml_gu, m_isHit hM hb hc x y n16, xcI_some, nI_1]
      by_cases c : hitp sb ch x y n = true
      · have hpn : PR sb n := ⟨n16, hitp_pr c⟩
        obtain ⟨v4, y1, y2⟩ := m_isAbove0 (h := h) (a := a) (S := S) (f := f) n16 hs
        rw [if_pos c, if_neg one_ne, ml_gu, y1, xcI_some]
        by_cases c2 : v4 = 0
        · obtain ⟨w, z1, z2⟩ := ih (n + 1) v (by omega)
          refine ⟨w, ?_, fun hp e => z2 hp ?_⟩
          · rw [if_pos c2, hz]; exact z1
          · rw [e]
            have := m_isAbove (h := h) (a := a) (S := S) hM hht hpn hp
            rw [y1, c2] at this
            show _ = nI (cnt (fun t => hitp sb ch x y t && abB ht t s) n + if (hitp sb ch x y n && abB ht n s) = true then 1 else 0)
            have hab : ¬ abB ht n s = true := fun q => by rw [if_pos q] at this; cases this
            rw [if_neg (fun q => hab ((Bool.and_eq_true _ _).mp q).2)]
            rfl
        · obtain ⟨w, z1, z2⟩ := ih (n + 1) (v + 1) (by omega)
          refine ⟨w, ?_, fun hp e => z2 hp ?_⟩
          · rw [if_neg c2]; exact z1
          · rw [e]
            have := m_isAbove (h := h) (a := a) (S := S) hM hht hpn hp
            rw [y1] at this
            show _ = nI (cnt (fun t => hitp sb ch x y t && abB ht t s) n + if (hitp sb ch x y n && abB ht n s) = true then 1 else 0)
            have hab : abB ht n s = true := Classical.byContradiction fun q => by
              rw [if_neg q] at this
              injection this with this
              injection this with this _
              injection this with this
              injection this with this
              exact c2 this
            rw [c, hab, nI_1]
            rfl
      · obtain ⟨w, z1, z2⟩ := ih (n + 1) v (by omega)
        refine ⟨w, ?_, fun hp e => z2 hp ?_⟩
        · rw [if_neg c, if_pos rfl, hz]; exact z1
        · rw [e]
          show _ = nI (cnt (fun t => hitp sb ch x y t && abB ht t s) n + if (hitp sb ch x y n && abB ht n s) = true then 1 else 0)
          rw [if_neg (fun q => c ((Bool.and_eq_true _ _).mp q).1)]
          rfl
  have outer : ∀ (d s : Nat) (l5 l6 : Option Value), s + d = 16 → (∀ u, u < s → hitp sb ch x y u = true → rnk ht (hitp sb ch x y) u ≠ i) → ∃ r, xE 171 22 [some (.ref a), some (.int x), some (.int y), some (.int (nI i)), some (.int (nI s)), l5, l6] [] (pM h a (m0 S f)) = some (some (.int r), pM h a (m0 S f)) ∧ HIT ht (hitp sb ch x y) i r := by
    intro d
    induction d with
    | zero =>
      intro s l5 l6 hs hn
      have hs : s = 16 := by omega
      subst hs
      refine ⟨-1, ?_, Or.inr ⟨hn, rfl⟩⟩
      rw [xb171_22, if_neg (show ¬ nI 16 < (16 : Int32) by decide)]
    | succ d ih =>
      intro s l5 l6 hs hn
      have s16 : s < 16 := by omega
      obtain ⟨w, z1, z2⟩ := inner s s16 16 0 0 (by decide)
      have z1' : xE 171 35 [some (.ref a), some (.int x), some (.int y), some (.int (nI i)), some (.int (nI s)), some (.int 0), some (.int 0)] [] (pM h a (m0 S f)) = xE 171 35 [some (.ref a), some (.int x), some (.int y), some (.int (nI i)), some (.int (nI s)), some (.int w), some (.int (nI 16))] [] (pM h a (m0 S f)) := z1
      rw [xb171_22, if_pos (show nI s < (16 : Int32) from nI_lt (b := 16) s16 (by decide)), z1', xb171_35, if_neg (show ¬ nI 16 < (16 : Int32) by decide), ml_gu, m_isHit hM hb hc x y s16, xcI_some, nI_1]
      by_cases c : hitp sb ch x y s = true
      · have hps : PR sb s := ⟨s16, hitp_pr c⟩
        have hw := z2 hps rfl
        have hrl := rnk_cnt (ht := ht) s16 c
        have hcl := cnt_le (hitp sb ch x y) 16
        rw [if_pos c, if_neg one_ne]
        by_cases c2 : rnk ht (hitp sb ch x y) s = i
        · rw [if_pos (by rw [hw, c2])]
          exact ⟨nI s, rfl, Or.inl ⟨s, s16, c, c2, rfl⟩⟩
        · rw [if_neg (by rw [hw]; exact nI_nel (by omega) hi c2)]
          refine ih (s + 1) _ _ (by omega) (fun u hu pu => ?_)
          by_cases e : u = s
          · rw [e]; exact c2
          · exact hn u (by omega) pu
      · rw [if_neg c, if_pos rfl]
        refine ih (s + 1) _ _ (by omega) (fun u hu pu => ?_)
        by_cases e : u = s
        · exact absurd (e ▸ pu) c
        · exact hn u (by omega) pu
  exact outer 16 0 none none (by decide) (fun u hu => absurd hu (Nat.not_lt_zero _))
end MU2
