/-! The scene as mathematics: shapes, heights, clips, chains of clips, damage; sets of shapes as masks -/
def PR (sb : Nat → Int32) (s : Nat) : Prop := s < 16 ∧ sb s ≠ 0
/-- the tree, the boxes, the heights, the clips, their chains, the damage -/
abbrev gT : Type := tS × (Nat → Int32) × (Nat → Nat) × (Nat → Nat) × (Nat → List Nat) × List Int32
def CHI (sb : Nat → Int32) (cl : Nat → Nat) (ch : Nat → List Nat) : Prop := ∀ s, PR sb s → cl s ≤ 16 ∧ ((cl s = 16 ∧ ch s = []) ∨ (PR sb (cl s) ∧ ch s = cl s :: ch (cl s)))
def WF (σ : gT) : Prop := INVt σ.1 (PR σ.2.1) ∧ LBt σ.1 ∧ UBt σ.1 4 ∧ (∀ s, σ.2.1 s ≠ 0 → bok (σ.2.1 s)) ∧ (∀ s, PR σ.2.1 s → σ.2.2.1 s < 100) ∧ CHI σ.2.1 σ.2.2.2.1 σ.2.2.2.2.1 ∧ (∀ b, b ∈ σ.2.2.2.2.2 → bok b) ∧ σ.2.2.2.2.2.length ≤ 4
/-- shapes, heights, clips in the class's rows -/
def CSh (sb : Nat → Int32) (ht cl : Nat → Nat) (S : sS) : Prop := (∀ s, s < 16 → S.1 0 s = sb s) ∧ ∀ s, PR sb s → S.1 9 s = nI (ht s) ∧ S.1 10 s = nI (cl s)
def CDm (D : List Int32) (S : sS) : Prop := S.2 2 = nI D.length ∧ DL (S.1 8) D
def CTr (T : tS) (sb : Nat → Int32) (S : sS) : Prop := ∃ bx, RC T sb bx S ∧ ∀ n j, T.2.1 n = some j → Con T.2.1 T.2.2.1 sb bx n
def CSc (σ : gT) (S : sS) : Prop := CTr σ.1 σ.2.1 S ∧ CSh σ.2.1 σ.2.2.1 σ.2.2.2.1 S ∧ CDm σ.2.2.2.2.2 S
/-- the same in the reference's row -/
def MSh (sb : Nat → Int32) (ht cl : Nat → Nat) (f : Nat → Int32) : Prop := (∀ s, s < 16 → f (4 * s + 0) = if sb s = 0 then 0 else 1) ∧ ∀ s, PR sb s → f (4 * s + 1) = sb s ∧ f (4 * s + 2) = nI (ht s) ∧ f (4 * s + 3) = nI (cl s)
def MTr (T : tS) (sb : Nat → Int32) (f : Nat → Int32) : Prop := ∃ bx, RM T sb bx f ∧ BK T.2.1 sb bx ∧ ∀ n j, T.2.1 n = some j → Con T.2.1 T.2.2.1 sb bx n
def MSc (σ : gT) (f : Nat → Int32) : Prop := MTr σ.1 σ.2.1 f ∧ MSh σ.2.1 σ.2.2.1 σ.2.2.2.1 f ∧ MD f σ.2.2.2.2.2
def vwf (sb : Nat → Int32) (b : Int32) (l : List Nat) : Int32 := l.foldl (fun b t => cme b (sb t)) b
def vw (sb : Nat → Int32) (ch : Nat → List Nat) (s : Nat) : Int32 := vwf sb (sb s) (ch s)
section CHN
variable {sb : Nat → Int32} {cl : Nat → Nat} {ch : Nat → List Nat}
theorem ch_all (hc : CHI sb cl ch) : ∀ (k s : Nat), (ch s).length ≤ k → PR sb s → (ch s).Nodup ∧ ∀ t, t ∈ ch s → PR sb t ∧ (ch t).length < (ch s).length
  | k, s, hk, hs => by
    rcases (hc s hs).2 with ⟨-, q⟩ | ⟨q1, q2⟩
    · rw [q]; exact ⟨List.nodup_nil, fun t ht => absurd ht List.not_mem_nil⟩
    · have hl : (ch s).length = (ch (cl s)).length + 1 := by rw [q2]; rfl
      cases k with
      | zero => omega
      | succ k =>
        obtain ⟨i1, i2⟩ := ch_all hc k (cl s) (by omega) q1
        rw [q2]
        refine ⟨List.nodup_cons.mpr ⟨fun q => ?_, i1⟩, fun t ht => ?_⟩
        · have := (i2 _ q).2; omega
        · rw [List.length_cons]
          rcases List.mem_cons.mp ht with q | q
          · rw [q]; exact ⟨q1, by omega⟩
          · have := i2 t q; exact ⟨this.1, by omega⟩
theorem ch_len (hc : CHI sb cl ch) {s : Nat} (hs : PR sb s) : (ch s).length ≤ 15 ∧ s ∉ ch s ∧ ∀ t, t ∈ ch s → PR sb t := by
  obtain ⟨h1, h2⟩ := ch_all hc (ch s).length s (Nat.le_refl _) hs
  have hns : s ∉ ch s := fun q => by have := (h2 s q).2; omega
  have := nd_len (List.nodup_cons.mpr ⟨hns, h1⟩) (l2 := List.range 16) (fun t ht => List.mem_range.mpr (by
    rcases List.mem_cons.mp ht with q | q
    · rw [q]; exact hs.1
    · exact (h2 t q).1.1))
  rw [List.length_range, List.length_cons] at this
  exact ⟨by omega, hns, fun t ht => (h2 t ht).1⟩
theorem vwf_ok (hb : ∀ s, sb s ≠ 0 → bok (sb s)) : ∀ (l : List Nat) (b : Int32), bok0 b → (∀ t, t ∈ l → PR sb t) → bok0 (vwf sb b l)
  | [], b, h, _ => h
  | t :: l, b, h, hl => by
    show bok0 (vwf sb (cme b (sb t)) l)
    exact vwf_ok hb l _ (bok0_me h (hb t (hl t List.mem_cons_self).2)) fun u hu => hl u (List.mem_cons_of_mem _ hu)
theorem vw_ok (hb : ∀ s, sb s ≠ 0 → bok (sb s)) (hc : CHI sb cl ch) {s : Nat} (hs : PR sb s) : bok0 (vw sb ch s) := vwf_ok hb _ _ (Or.inr (hb s hs.2)) (ch_len hc hs).2.2
end CHN
-- masks
def mk (p : Nat → Bool) : Nat → Nat
  | 0 => 0
  | n + 1 => mk p n + (if p n = true then 2 ^ n else 0)
theorem mk_lt (p : Nat → Bool) : ∀ n, mk p n < 2 ^ n
  | 0 => Nat.one_pos
  | n + 1 => by
    have := mk_lt p n
    rw [Nat.pow_succ]
    unfold mk
    split <;> omega
theorem mk_tb (p : Nat → Bool) : ∀ (n t : Nat), (mk p n).testBit t = (decide (t < n) && p t)
  | 0, t => by simp [mk]
  | n + 1, t => by
    have hlt := mk_lt p n
    have ih := mk_tb p n t
    unfold mk
    by_cases hp : p n = true
    · rw [if_pos hp, Nat.add_comm]
      rcases Nat.lt_trichotomy t n with q | q | q
      · rw [Nat.testBit_two_pow_add_gt q, ih, decide_eq_true q, decide_eq_true (show t < n + 1 by omega)]
      · subst q
        rw [Nat.testBit_two_pow_add_eq, Nat.testBit_lt_two_pow hlt, decide_eq_true (show t < t + 1 by omega), hp]; rfl
      · rw [Nat.testBit_lt_two_pow (show 2 ^ n + mk p n < 2 ^ t from Nat.lt_of_lt_of_le (by rw [Nat.pow_succ]; omega : 2 ^ n + mk p n < 2 ^ (n + 1)) (Nat.pow_le_pow_right (by decide) q)), decide_eq_false (show ¬ t < n + 1 by omega)]; rfl
    · rw [if_neg hp, Nat.add_zero, ih]
      rcases Nat.lt_trichotomy t n with q | q | q
      · rw [decide_eq_true q, decide_eq_true (show t < n + 1 by omega)]
      · subst q
        rw [decide_eq_false (show ¬ t < t by omega)]
        have : p t = false := by cases h : p t; rfl; exact absurd h hp
        rw [this]; simp
      · rw [decide_eq_false (show ¬ t < n by omega), decide_eq_false (show ¬ t < n + 1 by omega)]
theorem sh31 {n : Nat} (hn : n < 16) : nI n &&& 31 = nI n := by
  rw [pk_andN (by omega) 5 (by decide)]
  congr 1
  omega
theorem sm32 : ∀ n, n < 16 → ((nI n).toBitVec.smod 32).toNat = n := by decide
theorem one_shl {n : Nat} (hn : n < 16) : (1 : Int32) <<< (nI n &&& 31) = nI (2 ^ n) := by
  have h16 : (2 : Nat) ^ n ≤ 2 ^ 15 := Nat.pow_le_pow_right (by decide) (by omega)
  rw [sh31 hn, show (1 : Int32) = nI 1 from rfl, pk_shlN (nI n) n (sm32 n hn) (by omega), Nat.one_mul]
theorem mk_or (p : Nat → Bool) {n : Nat} (hn : n < 16) : nI (mk p n) ||| ((1 : Int32) <<< (nI n &&& 31)) = nI (mk p n + 2 ^ n) := by
  rw [one_shl hn, fa_or]
  congr 1
  rw [Nat.or_comm, Nat.add_comm]
  have := Nat.two_pow_add_eq_or_of_lt (mk_lt p n) 1
  rw [Nat.mul_one] at this
  exact this.symm
theorem mk16 (p : Nat → Bool) : mk p 16 < 65536 := mk_lt p 16
theorem mk_bit (p : Nat → Bool) {t : Nat} (ht : t < 16) : (((nI (mk p 16)) >>> (nI t &&& 31)) &&& 1 = 1) ↔ p t = true := by
  have hm := mk16 p
  rw [sh31 ht, pk_shrN (by omega) (nI t) t (sm32 t ht), pk_andN (Nat.lt_of_le_of_lt (Nat.div_le_self _ _) (by omega)) 1 (by decide)]
  have := mk_tb p 16 t
  rw [Nat.testBit_eq_decide_div_mod_eq, decide_eq_true ht, Bool.true_and] at this
  rw [show (1 : Int32) = nI 1 from rfl, nI_eq (by omega) (by decide), ← this]
  simp
theorem mk_ext {p q : Nat → Bool} : ∀ {n : Nat}, (∀ t, t < n → p t = q t) → mk p n = mk q n
  | 0, _ => rfl
  | n + 1, h => by
    unfold mk
    rw [mk_ext (n := n) fun t ht => h t (by omega), h n (by omega)]
theorem mk_zero {p : Nat → Bool} (n : Nat) : mk p n = 0 ↔ ∀ t, t < n → p t = false := by
  constructor
  · intro h t ht
    have := mk_tb p n t
    rw [h, decide_eq_true ht] at this
    simpa using this.symm
  · intro h
    rw [mk_ext (q := fun _ => false) h]
    have : ∀ n, mk (fun _ => false) n = 0 := by
      intro n
      induction n with
      | zero => rfl
      | succ n ih => unfold mk; rw [ih]; rfl
    exact this n
theorem mk_clear (p : Nat → Bool) {u : Nat} (hu : u < 16) : nI (mk p 16) &&& (((1 : Int32) <<< (nI u &&& 31)) ^^^ (-1)) = nI (mk (fun t => p t && !(t == u)) 16) := by
  rw [one_shl hu]
  apply Int32.toBitVec_inj.1
  show BitVec.ofNat 32 (mk p 16) &&& (BitVec.ofNat 32 (2 ^ u) ^^^ (-1 : Int32).toBitVec) = BitVec.ofNat 32 (mk (fun t => p t && !(t == u)) 16)
  apply BitVec.eq_of_getLsbD_eq
  intro i hi
  rw [BitVec.getLsbD_and, BitVec.getLsbD_xor, BitVec.getLsbD_ofNat, BitVec.getLsbD_ofNat, BitVec.getLsbD_ofNat, mk_tb, mk_tb, Nat.testBit_two_pow, show (-1 : Int32).toBitVec = BitVec.allOnes 32 from rfl, BitVec.getLsbD_allOnes, decide_eq_true hi]
  by_cases c : u = i
  · subst c; simp
  · have c' : ¬ i = u := fun q => c q.symm
    rw [show (i == u) = false from beq_false_of_ne c']
    simp [c]
def cnt (p : Nat → Bool) : Nat → Nat
  | 0 => 0
  | n + 1 => cnt p n + (if p n = true then 1 else 0)
theorem cnt_le (p : Nat → Bool) : ∀ n, cnt p n ≤ n
  | 0 => Nat.le_refl _
  | n + 1 => by
    have := cnt_le p n
    unfold cnt
    split <;> omega
theorem cnt_ext {p q : Nat → Bool} : ∀ {n : Nat}, (∀ t, t < n → p t = q t) → cnt p n = cnt q n
  | 0, _ => rfl
  | n + 1, h => by
    unfold cnt
    rw [cnt_ext (n := n) fun t ht => h t (by omega), h n (by omega)]
/-- the shapes that s clips, itself too -/
def aff (sb : Nat → Int32) (ch : Nat → List Nat) (s t : Nat) : Bool := decide (sb t ≠ 0 ∧ (t = s ∨ s ∈ ch t))
/-- the views of a set are damaged -/
def dvs (sb : Nat → Int32) (ch : Nat → List Nat) (p : Nat → Bool) (D : List Int32) : Nat → List Int32
  | 0 => D
  | n + 1 => if p n = true then dadd (dvs sb ch p D n) (vw sb ch n) else dvs sb ch p D n
theorem dvs_ok {sb : Nat → Int32} {cl : Nat → Nat} {ch : Nat → List Nat} {p : Nat → Bool} {D : List Int32} (hb : ∀ s, sb s ≠ 0 → bok (sb s)) (hc : CHI sb cl ch) (hp : ∀ t, t < 16 → p t = true → sb t ≠ 0) (hD : D.length ≤ 4) (hk : ∀ x, x ∈ D → bok x) : ∀ n, n ≤ 16 → (dvs sb ch p D n).length ≤ 4 ∧ ∀ x, x ∈ dvs sb ch p D n → bok x
  | 0, _ => ⟨hD, hk⟩
  | n + 1, hn => by
    obtain ⟨i1, i2⟩ := dvs_ok hb hc hp hD hk n (by omega)
    unfold dvs
    by_cases c : p n = true
    · rw [if_pos c]; exact dadd_ok i1 i2 (vw_ok hb hc ⟨by omega, hp n (by omega) c⟩)
    · rw [if_neg c]; exact ⟨i1, i2⟩
