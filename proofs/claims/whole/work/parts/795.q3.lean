/-! Questions: what is nearest -/
def dN (l r p : Nat) : Nat := if p < l then l - p else if r ≤ p then p - (r - 1) else 0
theorem dN_le {l r p : Nat} (h1 : l ≤ 64) (h2 : p < 64) : dN l r p ≤ 64 := by
  unfold dN
  split
  · omega
  · split <;> omega
def fr (b : Int32) (px py : Nat) : Nat := dN (bL b).toNatClampNeg (bR b).toNatClampNeg px * dN (bL b).toNatClampNeg (bR b).toNatClampNeg px + dN (bT b).toNatClampNeg (bB b).toNatClampNeg py * dN (bT b).toNatClampNeg (bB b).toNatClampNeg py
theorem fr_eq {l t r c : Nat} (h1 : l < r) (h2 : r ≤ 64) (h3 : t < c) (h4 : c ≤ 64) (px py : Nat) : fr (nI (bnum l t r c)) px py = dN l r px * dN l r px + dN t c py * dN t c py := by
  unfold fr
  rw [bL_nI (by omega) (by omega) (by omega) (by omega), bT_nI (by omega) (by omega) (by omega) (by omega), bR_nI (by omega) (by omega) (by omega) (by omega), bB_nI (by omega) (by omega) (by omega) (by omega), nI_clamp (by omega), nI_clamp (by omega), nI_clamp (by omega), nI_clamp (by omega)]
theorem fr_le {b : Int32} (hb : bok b) {px py : Nat} (hx : px < 64) (hy : py < 64) : fr b px py ≤ 8192 := by
  obtain ⟨l, t, r, c, h1, h2, h3, h4, rfl⟩ := hb
  rw [fr_eq h1 h2 h3 h4]
  have a1 := dN_le (l := l) (r := r) (p := px) (by omega) hx
  have a2 := dN_le (l := t) (r := c) (p := py) (by omega) hy
  have b1 := Nat.mul_le_mul a1 a1
  have b2 := Nat.mul_le_mul a2 a2
  omega
theorem dx_eq {l r p : Nat} (h1 : l < r) (h2 : r ≤ 64) (h3 : p < 64) : (if (0 : Int32) < (if (nI l - nI p) < ((nI p - nI r) + 1) then ((nI p - nI r) + 1) else (nI l - nI p)) then (if (nI l - nI p) < ((nI p - nI r) + 1) then ((nI p - nI r) + 1) else (nI l - nI p)) else 0) = nI (dN l r p) := by
  have eB : (nI p - nI r) + 1 = nI (p + 1) - nI r := by
    rw [← nI_1, Int32.sub_eq_add_neg, Int32.sub_eq_add_neg, Int32.add_assoc, Int32.add_comm (-nI r) 1, ← Int32.add_assoc]
  have tA : (nI l - nI p).toInt = (l : Int) - p := pk_sub_toInt (by omega) (by omega)
  have tB : (nI (p + 1) - nI r).toInt = ((p + 1 : Nat) : Int) - r := pk_sub_toInt (by omega) (by omega)
  have t0 : (0 : Int32).toInt = 0 := by decide
  rw [eB]
  unfold dN
  by_cases c1 : p < l
  · rw [if_pos c1]
    have hn : ¬ nI l - nI p < nI (p + 1) - nI r := by rw [Int32.lt_iff_toInt_lt, tA, tB]; omega
    rw [if_neg hn, if_pos (by rw [Int32.lt_iff_toInt_lt, tA, t0]; omega), pk_sub (by omega)]
  · rw [if_neg c1]
    by_cases c2 : r ≤ p
    · rw [if_pos c2]
      have hy : nI l - nI p < nI (p + 1) - nI r := by rw [Int32.lt_iff_toInt_lt, tA, tB]; omega
      rw [if_pos hy, if_pos (by rw [Int32.lt_iff_toInt_lt, tB, t0]; omega), pk_sub (by omega)]
      congr 1
      omega
    · rw [if_neg c2]
      rw [if_neg]
      · rfl
      · rw [Int32.lt_iff_toInt_lt, t0]
        split
        · rw [tB]; omega
        · rw [tA]; omega
theorem c_distance {b : Int32} (hb : bok b) {px py : Nat} (hx : px < 64) (hy : py < 64) (hp : xH) : xM 13 [.int b, .int (nI px), .int (nI py)] hp = some (some (.int (nI (fr b px py))), hp) := by
  obtain ⟨l, t, r, c, h1, h2, h3, h4, rfl⟩ := hb
  rw [xb13, c_left, xcI_some, c_right, xcI_some, c_top, xcI_some, c_bottom, xcI_some, fr_eq h1 h2 h3 h4, bL_nI (by omega) (by omega) (by omega) (by omega), bT_nI (by omega) (by omega) (by omega) (by omega), bR_nI (by omega) (by omega) (by omega) (by omega), bB_nI (by omega) (by omega) (by omega) (by omega), dx_eq h1 h2 hx, dx_eq h3 h4 hy, pk_mul, pk_mul, nI_add]
theorem m_off {l r p : Nat} (h1 : l < r) (h2 : r ≤ 64) (h3 : p < 64) (hp : xH) : xM 173 [.int (nI p), .int (nI l), .int (nI r - 1)] hp = some (some (.int (nI (dN l r p))), hp) := by
  obtain ⟨k, rfl⟩ : ∃ k, r = k + 1 := ⟨r - 1, by omega⟩
  unfold dN
  rw [xb173, nI_pred]
  by_cases c1 : p < l
  · rw [if_pos (nI_lt c1 (by omega)), if_pos c1, pk_sub (by omega)]
  · rw [if_neg (nI_nlt (by omega) (by omega)), if_neg c1]
    by_cases c2 : k + 1 ≤ p
    · rw [if_pos (nI_lt (by omega) (by omega)), if_pos c2, pk_sub (by omega)]
      rfl
    · rw [if_neg (nI_nlt (by omega) (by omega)), if_neg c2]
      rfl
section NR
variable {sb : Nat → Int32} {ht cl : Nat → Nat} {ch : Nat → List Nat}
theorem m_farOf {h : xH} {a : Nat} {S : mS} {f : Nat → Int32} (hM : MSh sb ht cl f) (hb : ∀ s, sb s ≠ 0 → bok (sb s)) {s px py : Nat} (hs : PR sb s) (hx : px < 64) (hy : py < 64) : xM 174 [.ref a, .int (nI s), .int (nI px), .int (nI py)] (pM h a (m0 S f)) = some (some (.int (nI (fr (sb s) px py))), pM h a (m0 S f)) := by
  have hbs := hb s hs.2
  rw [xb174, ml_gu, m_s1 h a S f hs.1, xcI_some, (hM.2 s hs).1]
  obtain ⟨l, t, r, c, h1, h2, h3, h4, e⟩ := hbs
  rw [e, fr_eq h1 h2 h3 h4, m_side0, xcI_some, m_side2, xcI_some, bL_nI (by omega) (by omega) (by omega) (by omega), bR_nI (by omega) (by omega) (by omega) (by omega), m_off h1 h2 hx, xcI_some, m_side1, xcI_some, m_side3, xcI_some, bT_nI (by omega) (by omega) (by omega) (by omega), bB_nI (by omega) (by omega) (by omega) (by omega), m_off h3 h4 hy, xcI_some, pk_mul, pk_mul, nI_add]
/-- u is the nearest of those below n -/
def NRn (sb : Nat → Int32) (ht : Nat → Nat) (px py n u : Nat) : Prop := u < n ∧ sb u ≠ 0 ∧ ∀ t, t < n → sb t ≠ 0 → t ≠ u → fr (sb u) px py < fr (sb t) px py ∨ (fr (sb u) px py = fr (sb t) px py ∧ abv ht u t)
def NRr (sb : Nat → Int32) (ht : Nat → Nat) (px py : Nat) (r : Int32) : Prop := (∃ u, NRn sb ht px py 16 u ∧ r = nI u) ∨ ((∀ t, t < 16 → sb t = 0) ∧ r = -1)
theorem NRr_uniq {px py : Nat} {r r' : Int32} (h1 : NRr sb ht px py r) (h2 : NRr sb ht px py r') : r = r' := by
  rcases h1 with ⟨u, ⟨u1, u2, u3⟩, rfl⟩ | ⟨q1, rfl⟩
  · rcases h2 with ⟨v, ⟨v1, v2, v3⟩, rfl⟩ | ⟨q2, rfl⟩
    · by_cases e : u = v
      · rw [e]
      · exfalso
        have a1 := u3 v v1 v2 (fun q => e q.symm)
        have a2 := v3 u u1 u2 e
        rcases a1 with a1 | ⟨a1, b1⟩
        · rcases a2 with a2 | ⟨a2, -⟩
          · omega
          · omega
        · rcases a2 with a2 | ⟨a2, b2⟩
          · omega
          · exact abv_asy b1 b2
    · exact absurd (q2 u u1) u2
  · rcases h2 with ⟨v, ⟨v1, v2, v3⟩, rfl⟩ | ⟨q2, rfl⟩
    · exact absurd (q1 v v1) v2
    · rfl
theorem c_nearest {h : xH} {a : Nat} {S : sS} (hS : CSh sb ht cl S) (hb : ∀ s, sb s ≠ 0 → bok (sb s)) (hht : ∀ s, PR sb s → ht s < 100) {px py : Nat} (hx : px < 64) (hy : py < 64) : ∃ r, xM 43 [.ref a, .int (nI px), .int (nI py)] (pS h a S) = some (some (.int r), pS h a S) ∧ NRr sb ht px py r := by
  have fin : ∀ (p : Nat → Bool) (l3 : Int32) (l6 : Option Value), (∀ t, t < 16 → p t = true → sb t ≠ 0) → ∃ r, xE 43 8 [some (.ref a), some (.int (nI px)), some (.int (nI py)), some (.int l3), some (.int (nI (mk p 16))), some (.int (nI 16)), l6] [] (pS h a S) = some (some (.int r), pS h a S) ∧ UMr ht p r := fun p l3 l6 hp => by
    obtain ⟨r, y1, y2⟩ := c_upper (h := h) (a := a) hS hht hp
    refine ⟨r, ?_, y2⟩
    rw [xb43_8, if_neg (show ¬ nI 16 < (16 : Int32) by decide), sl_gu, y1, xcI_some]
  have loop : ∀ (d n : Nat) (l3 l4 : Int32) (l6 : Option Value), n + d = 16 → (((∀ t, t < n → sb t = 0) ∧ l3 = 0 ∧ l4 = 0) ∨ ∃ m, m ≤ 8192 ∧ (∃ t, t < n ∧ sb t ≠ 0 ∧ fr (sb t) px py = m) ∧ (∀ t, t < n → sb t ≠ 0 → m ≤ fr (sb t) px py) ∧ l3 = nI m ∧ l4 = nI (mk (fun t => decide (sb t ≠ 0 ∧ fr (sb t) px py = m)) n)) → ∃ r, xE 43 8 [some (.ref a), some (.int (nI px)), some (.int (nI py)), some (.int l3), some (.int l4), some (.int (nI n)), l6] [] (pS h a S) = some (some (.int r), pS h a S) ∧ NRr sb ht px py r := by
    intro d
    induction d with
    | zero =>
      intro n l3 l4 l6 hn hI
      have hn : n = 16 := by omega
      subst hn
      rcases hI with ⟨q1, q2, q3⟩ | ⟨m, hm, ⟨t0, t1, t2, t3⟩, q2, q3, q4⟩
      · obtain ⟨r, y1, y2⟩ := fin (fun _ => false) l3 l6 (fun t _ q => by cases q)
        rw [(mk_zero (p := fun _ => false) 16).mpr (fun _ _ => rfl)] at y1
        refine ⟨r, by rw [q3]; exact y1, ?_⟩
        rcases y2 with ⟨u, u1, -⟩ | ⟨-, z⟩
        · cases u1.2.1
        · exact Or.inr ⟨q1, z⟩
      · obtain ⟨r, y1, y2⟩ := fin (fun t => decide (sb t ≠ 0 ∧ fr (sb t) px py = m)) l3 l6 (fun t _ q => (of_decide_eq_true q).1)
        refine ⟨r, by rw [q4]; exact y1, ?_⟩
        rcases y2 with ⟨u, ⟨u1, u2, u3⟩, u4⟩ | ⟨z1, -⟩
        · have u5 := of_decide_eq_true u2
          refine Or.inl ⟨u, ⟨u1, u5.1, fun t ht' hb' hne => ?_⟩, u4⟩
          have := q2 t ht' hb'
          by_cases e : fr (sb t) px py = m
          · exact Or.inr ⟨by omega, u3 t ht' (decide_eq_true ⟨hb', e⟩) hne⟩
          · exact Or.inl (by omega)
        · have := z1 t0 t1
          exact absurd (⟨t2, t3⟩ : sb t0 ≠ 0 ∧ fr (sb t0) px py = m) (of_decide_eq_false this)
    | succ d ih =>
      intro n l3 l4 l6 hn hI
      have n16 : n < 16 := by omega
      rw [xb43_8, if_pos (show nI n < (16 : Int32) from nI_lt (b := 16) n16 (by decide)), sl_s2, Option.bind_some, c_r0 h a S (by omega), Option.bind_some, hS.1 n n16, nI_1]
      by_cases c : sb n = 0
      · rw [if_pos c]
        refine ih (n + 1) l3 l4 l6 (by omega) ?_
        rcases hI with ⟨q1, q2, q3⟩ | ⟨m, hm, ⟨t0, t1, t2, t3⟩, q2, q3, q4⟩
        · refine Or.inl ⟨fun t ht' => ?_, q2, q3⟩
          by_cases e : t = n
          · rw [e]; exact c
          · exact q1 t (by omega)
        · refine Or.inr ⟨m, hm, ⟨t0, by omega, t2, t3⟩, fun t ht' hb' => ?_, q3, ?_⟩
          · exact q2 t (by
              have : t ≠ n := fun q => hb' (by rw [q]; exact c)
              omega) hb'
          · rw [q4]
            show _ = nI (mk (fun t => decide (sb t ≠ 0 ∧ fr (sb t) px py = m)) n + if decide (sb n ≠ 0 ∧ fr (sb n) px py = m) = true then 2 ^ n else 0)
            rw [if_neg (fun q => (of_decide_eq_true q).1 c)]
            rfl
      · have hbn := hb n c
        have hfl := fr_le hbn hx hy
        rw [if_neg c, Option.bind_some, c_r0 h a S (by omega), Option.bind_some, hS.1 n n16, c_distance hbn hx hy, xcI_some]
        -- a new least
        have new : (∀ t, t < n → sb t ≠ 0 → fr (sb n) px py < fr (sb t) px py) → ∃ r, xE 43 56 [some (.ref a), some (.int (nI px)), some (.int (nI py)), some (.int (nI (fr (sb n) px py))), some (.int 0), some (.int (nI n)), some (.int (nI (fr (sb n) px py)))] [] (pS h a S) = some (some (.int r), pS h a S) ∧ NRr sb ht px py r := fun hl => by
          have hz : mk (fun t => decide (sb t ≠ 0 ∧ fr (sb t) px py = fr (sb n) px py)) n = 0 := (mk_zero n).mpr fun t ht' => decide_eq_false fun q => by
            have := hl t ht' q.1
            omega
          have hor : (0 : Int32) ||| ((1 : Int32) <<< (nI n &&& 31)) = nI (mk (fun t => decide (sb t ≠ 0 ∧ fr (sb t) px py = fr (sb n) px py)) n + 2 ^ n) := by
            rw [← mk_or _ n16, hz]; rfl
          rw [xb43_56, if_pos rfl, hor, nI_1]
          refine ih (n + 1) _ _ _ (by omega) (Or.inr ⟨fr (sb n) px py, hfl, ⟨n, by omega, c, rfl⟩, fun t ht' hb' => ?_, rfl, ?_⟩)
          · by_cases e : t = n
            · rw [e]; exact Nat.le_refl _
            · have := hl t (by omega) hb'; omega
          · show _ = nI (mk (fun t => decide (sb t ≠ 0 ∧ fr (sb t) px py = fr (sb n) px py)) n + if decide (sb n ≠ 0 ∧ fr (sb n) px py = fr (sb n) px py) = true then 2 ^ n else 0)
            rw [if_pos (decide_eq_true ⟨c, rfl⟩)]
        rcases hI with ⟨q1, rfl, rfl⟩ | ⟨m, hm, ⟨t0, t1, t2, t3⟩, q2, rfl, rfl⟩
        · rw [if_pos rfl]
          exact new fun t ht' hb' => absurd (q1 t ht') hb'
        · have hnz : ¬ nI (mk (fun t => decide (sb t ≠ 0 ∧ fr (sb t) px py = m)) n) = (0 : Int32) := by
            have b1 := mk_lt (fun t => decide (sb t ≠ 0 ∧ fr (sb t) px py = m)) n
            have b2 : 2 ^ n ≤ 2 ^ 16 := Nat.pow_le_pow_right (by decide) (by omega)
            refine nI_nel (n := 0) (by omega) (by decide) fun q => ?_
            have b3 := (mk_zero n).mp q t0 t1
            exact absurd (⟨t2, t3⟩ : sb t0 ≠ 0 ∧ fr (sb t0) px py = m) (of_decide_eq_false b3)
          rw [if_neg hnz]
          by_cases c2 : fr (sb n) px py < m
          · rw [if_pos (nI_lt c2 (by omega))]
            exact new fun t ht' hb' => by have := q2 t ht' hb'; omega
          · rw [if_neg (nI_nlt (by omega) (by omega)), xb43_56, nI_1]
            by_cases c3 : fr (sb n) px py = m
            · rw [if_pos (by rw [c3]), mk_or _ n16]
              refine ih (n + 1) _ _ _ (by omega) (Or.inr ⟨m, hm, ⟨t0, by omega, t2, t3⟩, fun t ht' hb' => ?_, rfl, ?_⟩)
              · by_cases e : t = n
                · rw [e]; omega
                · exact q2 t (by omega) hb'
              · show _ = nI (mk (fun t => decide (sb t ≠ 0 ∧ fr (sb t) px py = m)) n + if decide (sb n ≠ 0 ∧ fr (sb n) px py = m) = true then 2 ^ n else 0)
                rw [if_pos (decide_eq_true ⟨c, c3⟩)]
            · rw [if_neg (nI_nel (by omega) (by omega) c3)]
              refine ih (n + 1) _ _ _ (by omega) (Or.inr ⟨m, hm, ⟨t0, by omega, t2, t3⟩, fun t ht' hb' => ?_, rfl, ?_⟩)
              · by_cases e : t = n
                · rw [e]; omega
                · exact q2 t (by omega) hb'
              · show _ = nI (mk (fun t => decide (sb t ≠ 0 ∧ fr (sb t) px py = m)) n + if decide (sb n ≠ 0 ∧ fr (sb n) px py = m) = true then 2 ^ n else 0)
                rw [if_neg (fun q => c3 (of_decide_eq_true q).2)]
                rfl
  rw [xb43]
  exact loop 16 0 0 0 none (by decide) (Or.inl ⟨fun t ht' => absurd ht' (Nat.not_lt_zero _), rfl, rfl⟩)
theorem m_nearest {h : xH} {a : Nat} {S : mS} {f : Nat → Int32} (hM : MSh sb ht cl f) (hb : ∀ s, sb s ≠ 0 → bok (sb s)) (hht : ∀ s, PR sb s → ht s < 100) {px py : Nat} (hx : px < 64) (hy : py < 64) : ∃ r, xE 175 20 [some (.ref a), some (.int (nI px)), some (.int (nI py)), some (.int (-1)), some (.int 0), none] [] (pM h a (m0 S f)) = some (some (.int r), pM h a (m0 S f)) ∧ NRr sb ht px py r := by
  have loop : ∀ (d n : Nat) (l3 : Int32) (l5 : Option Value), n + d = 16 → ((∃ u, NRn sb ht px py n u ∧ l3 = nI u) ∨ ((∀ t, t < n → sb t = 0) ∧ l3 = -1)) → ∃ r, xE 175 20 [some (.ref a), some (.int (nI px)), some (.int (nI py)), some (.int l3), some (.int (nI n)), l5] [] (pM h a (m0 S f)) = some (some (.int r), pM h a (m0 S f)) ∧ NRr sb ht px py r := by
    intro d
    induction d with
    | zero =>
      intro n l3 l5 hn hI
      have hn : n = 16 := by omega
      subst hn
      refine ⟨l3, ?_, hI⟩
      rw [xb175_20, if_neg (show ¬ nI 16 < (16 : Int32) by decide)]
    | succ d ih =>
      intro n l3 l5 hn hI
      have n16 : n < 16 := by omega
      rw [xb175_20, if_pos (show nI n < (16 : Int32) from nI_lt (b := 16) n16 (by decide)), ml_gu, m_isShapeN hM n16, xcI_some, nI_1]
      by_cases c : sb n = 0
      · rw [if_pos c, if_pos rfl]
        refine ih (n + 1) l3 l5 (by omega) ?_
        rcases hI with ⟨u, ⟨u1, u2, u3⟩, u4⟩ | ⟨q1, q2⟩
        · refine Or.inl ⟨u, ⟨by omega, u2, fun t ht' hb' hne => u3 t (by
            have : t ≠ n := fun q => hb' (by rw [q]; exact c)
            omega) hb' hne⟩, u4⟩
        · refine Or.inr ⟨fun t ht' => ?_, q2⟩
          by_cases e : t = n
          · rw [e]; exact c
          · exact q1 t (by omega)
      · have hpn : PR sb n := ⟨n16, c⟩
        rw [if_neg c, if_neg one_ne]
        rcases hI with ⟨u, ⟨u1, u2, u3⟩, rfl⟩ | ⟨q1, rfl⟩
        · have hpu : PR sb u := ⟨by omega, u2⟩
          have fn := fr_le (hb n c) hx hy
          have fu := fr_le (hb u u2) hx hy
          have i1 : -10000 ≤ (nI (fr (sb n) px py)).toInt ∧ (nI (fr (sb n) px py)).toInt ≤ 10000 := by rw [nI_toInt (by omega)]; omega
          have i2 : -10000 ≤ (nI (fr (sb u) px py)).toInt ∧ (nI (fr (sb u) px py)).toInt ≤ 10000 := by rw [nI_toInt (by omega)]; omega
          -- n is better, or it is not
          have better : (fr (sb n) px py < fr (sb u) px py ∨ (fr (sb n) px py = fr (sb u) px py ∧ abv ht n u)) → NRn sb ht px py (n + 1) n := fun hbt => ⟨by omega, c, fun t ht' hb' hne => by
            by_cases e : t = u
            · rw [e]; exact hbt
            · rcases u3 t (by omega) hb' e with z | ⟨z1, z2⟩
              · exact Or.inl (by omega)
              · rcases hbt with y | ⟨y1, y2⟩
                · exact Or.inl (by omega)
                · exact Or.inr ⟨by omega, abv_tr y2 z2⟩⟩
          have worse : (fr (sb u) px py < fr (sb n) px py ∨ (fr (sb u) px py = fr (sb n) px py ∧ abv ht u n)) → NRn sb ht px py (n + 1) u := fun hbt => ⟨by omega, u2, fun t ht' hb' hne => by
            by_cases e : t = n
            · rw [e]; exact hbt
            · exact u3 t (by omega) hb' hne⟩
          rw [if_neg (nI_m1 u (by omega)), ml_gu, m_farOf hM hb hpn hx hy, xcI_some, ml_gu, m_farOf hM hb hpu hx hy, xcI_some]
          by_cases c2 : fr (sb n) px py < fr (sb u) px py
          · rw [if_pos ((i_neg i1 i2).mpr (nI_lt c2 (by omega)))]
            exact ih (n + 1) (nI n) _ (by omega) (Or.inl ⟨n, better (Or.inl c2), rfl⟩)
          · rw [if_neg (fun q => c2 ((nI_ltI (by omega) (by omega)).mp ((i_neg i1 i2).mp q)))]
            by_cases c3 : fr (sb n) px py = fr (sb u) px py
            · rw [if_pos ((i_zero i1 i2).mpr (by rw [c3])), ml_gu, m_isAbove hM hht hpn hpu, xcI_some]
              by_cases c4 : abB ht n u = true
              · rw [if_pos c4, if_neg one_ne]
                exact ih (n + 1) (nI n) _ (by omega) (Or.inl ⟨n, better (Or.inr ⟨c3, abB_iff.mp c4⟩), rfl⟩)
              · rw [if_neg c4, if_pos rfl]
                have : abv ht u n := (abv_tot (ht := ht) (show u ≠ n by omega)).resolve_right (fun q => c4 (abB_iff.mpr q))
                exact ih (n + 1) (nI u) _ (by omega) (Or.inl ⟨u, worse (Or.inr ⟨c3.symm, this⟩), rfl⟩)
            · rw [if_neg (fun q => c3 (nI_inj (by omega) (by omega) ((i_zero i1 i2).mp q)))]
              exact ih (n + 1) (nI u) _ (by omega) (Or.inl ⟨u, worse (Or.inl (by omega)), rfl⟩)
        · rw [if_pos rfl]
          refine Eq.mp ?_ (ih (n + 1) (nI n) (some (.int (-1))) (by omega) (Or.inl ⟨n, ⟨by omega, c, fun t ht' hb' hne => absurd (q1 t (by omega)) hb'⟩, rfl⟩))
          congr 1
  exact loop 16 0 (-1) none (by decide) (Or.inr ⟨fun t ht' => absurd ht' (Nat.not_lt_zero _), rfl⟩)
end NR
