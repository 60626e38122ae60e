/-! Boxes: the class's 0 is the empty box, the reference's -1 -/
theorem fa_lit (n : Nat) : (OfNat.ofNat n : Int32) = nI n := rfl
theorem fa_or (a b : Nat) : nI a ||| nI b = nI (a ||| b) := by
  apply Int32.toBitVec_inj.1
  show BitVec.ofNat 32 a ||| BitVec.ofNat 32 b = BitVec.ofNat 32 (a ||| b)
  apply BitVec.eq_of_getLsbD_eq
  intro i hi
  simp [hi]
def bL (b : Int32) : Int32 := b &&& 127
def bT (b : Int32) : Int32 := (b >>> (7 &&& 31)) &&& 127
def bR (b : Int32) : Int32 := (b >>> (14 &&& 31)) &&& 127
def bB (b : Int32) : Int32 := (b >>> (21 &&& 31)) &&& 127
def bpk (l t r b : Int32) : Int32 := ((l ||| (t <<< (7 &&& 31))) ||| (r <<< (14 &&& 31))) ||| (b <<< (21 &&& 31))
def bar (b : Int32) : Int32 := (bR b - bL b) * (bB b - bT b)
def imin (x y : Int32) : Int32 := if y < x then y else x
def imax (x y : Int32) : Int32 := if x < y then y else x
def cun (a b : Int32) : Int32 := if a = 0 then b else if b = 0 then a else bpk (imin (bL a) (bL b)) (imin (bT a) (bT b)) (imax (bR a) (bR b)) (imax (bB a) (bB b))
def cme (a b : Int32) : Int32 := if imax (bL a) (bL b) < imin (bR a) (bR b) then (if imax (bT a) (bT b) < imin (bB a) (bB b) then bpk (imax (bL a) (bL b)) (imax (bT a) (bT b)) (imin (bR a) (bR b)) (imin (bB a) (bB b)) else 0) else 0
def cgr (a b : Int32) : Int32 := bar (cun a b) - bar a
def cwa (a b : Int32) : Int32 := bar (cun a b) - bar a - bar b
def bval (b w : Int32) : Int32 := if w = 0 then bL b else if w = 1 then bT b else if w = 2 then bR b - bL b else bB b - bT b
theorem or0 (b : Int32) : (0 : Int32) ||| b = b := by
  apply Int32.toBitVec_inj.1
  show (0 : BitVec 32) ||| b.toBitVec = b.toBitVec
  simp
theorem or0' (b : Int32) : b ||| (0 : Int32) = b := by
  apply Int32.toBitVec_inj.1
  show b.toBitVec ||| (0 : BitVec 32) = b.toBitVec
  simp
-- the class
theorem c_left (b : Int32) (h : xH) : xM 2 [.int b] h = some (some (.int (bL b)), h) := xb2 b h
theorem c_top (b : Int32) (h : xH) : xM 3 [.int b] h = some (some (.int (bT b)), h) := xb3 b h
theorem c_right (b : Int32) (h : xH) : xM 4 [.int b] h = some (some (.int (bR b)), h) := xb4 b h
theorem c_bottom (b : Int32) (h : xH) : xM 5 [.int b] h = some (some (.int (bB b)), h) := xb5 b h
theorem c_pack (l t r b : Int32) (h : xH) : xM 1 [.int l, .int t, .int r, .int b] h = some (some (.int (bpk l t r b)), h) := xb1 l t r b h
theorem c_area (b : Int32) (h : xH) : xM 7 [.int b] h = some (some (.int (bar b)), h) := by
  simp only [xb7, c_left, c_top, c_right, c_bottom, xcI_some, bar]
theorem c_value (b w : Int32) (h : xH) : xM 6 [.int b, .int w] h = some (some (.int (bval b w)), h) := by
  simp only [xb6, c_left, c_top, c_right, c_bottom, xcI_some, bval]
  split
  · rfl
  split
  · rfl
  split <;> rfl
theorem c_union (a b : Int32) (h : xH) : xM 8 [.int a, .int b] h = some (some (.int (cun a b)), h) := by
  simp only [xb8, c_left, c_top, c_right, c_bottom, c_pack, xcI_some, cun, imin, imax]
  split
  · next e => rw [e, or0]
  split
  · next e => rw [e, or0']
  rfl
theorem c_meet (a b : Int32) (h : xH) : xM 9 [.int a, .int b] h = some (some (.int (cme a b)), h) := by
  simp only [xb9, c_left, c_top, c_right, c_bottom, c_pack, xcI_some]
  show (if imax (bL a) (bL b) < imin (bR a) (bR b) then (if imax (bT a) (bT b) < imin (bB a) (bB b) then some (some (Value.int (bpk (imax (bL a) (bL b)) (imax (bT a) (bT b)) (imin (bR a) (bR b)) (imin (bB a) (bB b)))), h) else some (some (Value.int 0), h)) else some (some (Value.int 0), h)) = _
  unfold cme
  split
  · split <;> rfl
  · rfl
theorem c_growth (a b : Int32) (h : xH) : xM 10 [.int a, .int b] h = some (some (.int (cgr a b)), h) := by
  simp only [xb10, c_union, c_area, xcI_some, cgr]
theorem c_waste (a b : Int32) (h : xH) : xM 11 [.int a, .int b] h = some (some (.int (cwa a b)), h) := by
  simp only [xb11, c_union, c_area, xcI_some, cwa]
-- the box of four numbers
def bnum (l t r c : Nat) : Nat := l + 128 * t + 16384 * r + 2097152 * c
theorem bpk_nI {l t r c : Nat} (hl : l < 128) (ht : t < 128) (hr : r < 128) (hc : c < 128) : bpk (nI l) (nI t) (nI r) (nI c) = nI (bnum l t r c) := by
  unfold bpk
  rw [pk_shlN (7 &&& 31) 7 (by decide) (by omega), pk_shlN (14 &&& 31) 14 (by decide) (by omega), pk_shlN (21 &&& 31) 21 (by decide) (by omega), fa_or, fa_or, fa_or]
  have e1 : l ||| t * 2 ^ 7 = 2 ^ 7 * t + l := by
    rw [Nat.or_comm, Nat.mul_comm t, ← Nat.two_pow_add_eq_or_of_lt (by omega)]
  have e2 : (2 ^ 7 * t + l) ||| r * 2 ^ 14 = 2 ^ 14 * r + (2 ^ 7 * t + l) := by
    rw [Nat.or_comm, Nat.mul_comm r, ← Nat.two_pow_add_eq_or_of_lt (by omega)]
  have e3 : (2 ^ 14 * r + (2 ^ 7 * t + l)) ||| c * 2 ^ 21 = 2 ^ 21 * c + (2 ^ 14 * r + (2 ^ 7 * t + l)) := by
    rw [Nat.or_comm, Nat.mul_comm c, ← Nat.two_pow_add_eq_or_of_lt (by omega)]
  rw [e1, e2, e3]
  congr 1
  unfold bnum
  omega
theorem b127 : ((127 : Int32).toBitVec.toNat) = 2 ^ 7 - 1 := by decide
theorem bL_nI {l t r c : Nat} (hl : l < 128) (ht : t < 128) (hr : r < 128) (hc : c < 128) : bL (nI (bnum l t r c)) = nI l := by
  unfold bL bnum
  rw [pk_andN (by omega) 7 b127]
  congr 1
  omega
theorem bT_nI {l t r c : Nat} (hl : l < 128) (ht : t < 128) (hr : r < 128) (hc : c < 128) : bT (nI (bnum l t r c)) = nI t := by
  unfold bT bnum
  rw [pk_shrN (by omega) (7 &&& 31) 7 (by decide), pk_andN (by omega) 7 b127]
  congr 1
  omega
theorem bR_nI {l t r c : Nat} (hl : l < 128) (ht : t < 128) (hr : r < 128) (hc : c < 128) : bR (nI (bnum l t r c)) = nI r := by
  unfold bR bnum
  rw [pk_shrN (by omega) (14 &&& 31) 14 (by decide), pk_andN (by omega) 7 b127]
  congr 1
  omega
theorem bB_nI {l t r c : Nat} (hl : l < 128) (ht : t < 128) (hr : r < 128) (hc : c < 128) : bB (nI (bnum l t r c)) = nI c := by
  unfold bB bnum
  rw [pk_shrN (by omega) (21 &&& 31) 21 (by decide), pk_andN (by omega) 7 b127]
  congr 1
  omega
/-- a proper box -/
def bok (b : Int32) : Prop := ∃ l t r c : Nat, l < r ∧ r ≤ 64 ∧ t < c ∧ c ≤ 64 ∧ b = nI (bnum l t r c)
theorem bok_ne0 {b : Int32} (h : bok b) : b ≠ 0 := by
  obtain ⟨l, t, r, c, h1, h2, h3, h4, rfl⟩ := h
  intro e
  have e2 : nI (bnum l t r c) = nI 0 := e
  rw [nI_eq (by unfold bnum; omega) (by decide)] at e2
  unfold bnum at e2
  omega
theorem bok_nm1 {b : Int32} (h : bok b) : b ≠ -1 := by
  obtain ⟨l, t, r, c, h1, h2, h3, h4, rfl⟩ := h
  intro e
  have h5 : (0 : Int32) ≤ nI (bnum l t r c) := nI_pos' (by unfold bnum; omega)
  rw [e] at h5
  exact absurd h5 (by decide)
theorem imin_nI {a b : Nat} (ha : a < 2 ^ 31) (hb : b < 2 ^ 31) : imin (nI a) (nI b) = nI (min a b) := by
  unfold imin
  by_cases h : b < a
  · rw [if_pos ((nI_ltI hb ha).mpr h), Nat.min_eq_right (by omega)]
  · rw [if_neg (fun q => h ((nI_ltI hb ha).mp q)), Nat.min_eq_left (by omega)]
theorem imax_nI {a b : Nat} (ha : a < 2 ^ 31) (hb : b < 2 ^ 31) : imax (nI a) (nI b) = nI (max a b) := by
  unfold imax
  by_cases h : a < b
  · rw [if_pos ((nI_ltI ha hb).mpr h), Nat.max_eq_right (by omega)]
  · rw [if_neg (fun q => h ((nI_ltI ha hb).mp q)), Nat.max_eq_left (by omega)]
theorem bok_un {a b : Int32} (ha : bok a) (hb : bok b) : bok (cun a b) := by
  have ha0 := bok_ne0 ha
  have hb0 := bok_ne0 hb
  unfold cun
  rw [if_neg ha0, if_neg hb0]
  obtain ⟨l, t, r, c, h1, h2, h3, h4, rfl⟩ := ha
  obtain ⟨l', t', r', c', h1', h2', h3', h4', rfl⟩ := hb
  rw [bL_nI (by omega) (by omega) (by omega) (by omega), bL_nI (by omega) (by omega) (by omega) (by omega), bT_nI (by omega) (by omega) (by omega) (by omega), bT_nI (by omega) (by omega) (by omega) (by omega), bR_nI (by omega) (by omega) (by omega) (by omega), bR_nI (by omega) (by omega) (by omega) (by omega), bB_nI (by omega) (by omega) (by omega) (by omega), bB_nI (by omega) (by omega) (by omega) (by omega)]
  rw [imin_nI (by omega) (by omega), imin_nI (by omega) (by omega), imax_nI (by omega) (by omega), imax_nI (by omega) (by omega), bpk_nI (by omega) (by omega) (by omega) (by omega)]
  exact ⟨_, _, _, _, by omega, by omega, by omega, by omega, rfl⟩
/-- a proper box, or empty -/
def bok0 (b : Int32) : Prop := b = 0 ∨ bok b
theorem bok0_un {a b : Int32} (ha : bok0 a) (hb : bok0 b) : bok0 (cun a b) := by
  rcases ha with rfl | ha
  · unfold cun; rw [if_pos rfl]; exact hb
  · rcases hb with rfl | hb
    · unfold cun; rw [if_neg (bok_ne0 ha), if_pos rfl]; exact Or.inr ha
    · exact Or.inr (bok_un ha hb)
theorem bsides0 : bL 0 = 0 ∧ bT 0 = 0 ∧ bR 0 = 0 ∧ bB 0 = 0 := by decide
theorem bok0_me {a b : Int32} (ha : bok0 a) (hb : bok b) : bok0 (cme a b) := by
  unfold cme
  split
  · next h5 =>
    split
    · next h6 =>
      rcases ha with rfl | ha
      · obtain ⟨l', t', r', c', h1', h2', h3', h4', rfl⟩ := hb
        exfalso
        rw [bsides0.1, bsides0.2.2.1, bL_nI (by omega) (by omega) (by omega) (by omega), bR_nI (by omega) (by omega) (by omega) (by omega)] at h5
        rw [show (0 : Int32) = nI 0 from rfl, imax_nI (by omega) (by omega), imin_nI (by omega) (by omega), nI_ltI (by omega) (by omega)] at h5
        omega
      · obtain ⟨l, t, r, c, h1, h2, h3, h4, rfl⟩ := ha
        obtain ⟨l', t', r', c', h1', h2', h3', h4', rfl⟩ := hb
        rw [bL_nI (by omega) (by omega) (by omega) (by omega), bL_nI (by omega) (by omega) (by omega) (by omega), bR_nI (by omega) (by omega) (by omega) (by omega), bR_nI (by omega) (by omega) (by omega) (by omega)] at h5 ⊢
        rw [bT_nI (by omega) (by omega) (by omega) (by omega), bT_nI (by omega) (by omega) (by omega) (by omega), bB_nI (by omega) (by omega) (by omega) (by omega), bB_nI (by omega) (by omega) (by omega) (by omega)] at h6 ⊢
        rw [imax_nI (by omega) (by omega), imin_nI (by omega) (by omega), nI_ltI (by omega) (by omega)] at h5 h6
        rw [imax_nI (by omega) (by omega), imin_nI (by omega) (by omega), imax_nI (by omega) (by omega), imin_nI (by omega) (by omega), bpk_nI (by omega) (by omega) (by omega) (by omega)]
        exact Or.inr ⟨_, _, _, _, h5, by omega, h6, by omega, rfl⟩
    · exact Or.inl rfl
  · exact Or.inl rfl
-- the reference
def e2m (b : Int32) : Int32 := if b = 0 then -1 else b
theorem e2m_0 : e2m 0 = -1 := rfl
theorem e2m_ok {b : Int32} (h : bok b) : e2m b = b := if_neg (bok_ne0 h)
theorem e2m_m1 {b : Int32} (h : bok0 b) : e2m b = -1 ↔ b = 0 := by
  rcases h with rfl | h
  · exact ⟨fun _ => rfl, fun _ => rfl⟩
  · rw [e2m_ok h]
    exact ⟨fun e => absurd e (bok_nm1 h), fun e => absurd e (bok_ne0 h)⟩
theorem e2m_inj {a b : Int32} (ha : bok0 a) (hb : bok0 b) (h : e2m a = e2m b) : a = b := by
  rcases ha with rfl | ha
  · exact ((e2m_m1 hb).mp h.symm).symm
  · rcases hb with rfl | hb
    · exact absurd ((e2m_m1 (Or.inr ha)).mp h) (bok_ne0 ha)
    · rw [e2m_ok ha, e2m_ok hb] at h; exact h
theorem m_side0 (b : Int32) (h : xH) : xM 111 [.int b, .int 0] h = some (some (.int (bL b)), h) := by
  rw [xb111]
  show some (some (Value.int (b >>> (7 * 0 &&& 31) &&& 127)), h) = _
  rw [show (7 * 0 &&& 31 : Int32) = 0 by decide]
  have e : b >>> (0 : Int32) = b := by
    apply Int32.toBitVec_inj.1
    simp
  rw [e]
  rfl
theorem m_side1 (b : Int32) (h : xH) : xM 111 [.int b, .int 1] h = some (some (.int (bT b)), h) := by
  rw [xb111, show (7 * 1 &&& 31 : Int32) = 7 &&& 31 by decide]; rfl
theorem m_side2 (b : Int32) (h : xH) : xM 111 [.int b, .int 2] h = some (some (.int (bR b)), h) := by
  rw [xb111, show (7 * 2 &&& 31 : Int32) = 14 &&& 31 by decide]; rfl
theorem m_side3 (b : Int32) (h : xH) : xM 111 [.int b, .int 3] h = some (some (.int (bB b)), h) := by
  rw [xb111, show (7 * 3 &&& 31 : Int32) = 21 &&& 31 by decide]; rfl
theorem m_box (l t r b : Int32) (h : xH) : xM 110 [.int l, .int t, .int r, .int b] h = some (some (.int (bpk l t r b)), h) := xb110 l t r b h
theorem m_lesser (x y : Int32) (h : xH) : xM 113 [.int x, .int y] h = some (some (.int (imin x y)), h) := by
  rw [xb113]
  unfold imin
  by_cases h1 : x < y
  · rw [if_pos h1, if_neg (by rw [Int32.not_lt]; exact Int32.le_of_lt h1)]
  · rw [if_neg h1]
    by_cases h2 : y < x
    · rw [if_pos h2]
    · rw [if_neg h2]
      rw [Int32.le_antisymm (Int32.not_lt.mp h1) (Int32.not_lt.mp h2)]
theorem m_greater (x y : Int32) (h : xH) : xM 114 [.int x, .int y] h = some (some (.int (imax x y)), h) := by
  rw [xb114]
  unfold imax
  by_cases h1 : y < x
  · rw [if_pos h1, if_neg (by rw [Int32.not_lt]; exact Int32.le_of_lt h1)]
  · rw [if_neg h1]
    by_cases h2 : x < y
    · rw [if_pos h2]
    · rw [if_neg h2]
      rw [Int32.le_antisymm (Int32.not_lt.mp h2) (Int32.not_lt.mp h1)]
theorem bar_0 : bar 0 = 0 := by decide
theorem m_area {b : Int32} (hb : bok0 b) (h : xH) : xM 112 [.int (e2m b)] h = some (some (.int (bar b)), h) := by
  rw [xb112]
  rcases hb with rfl | hb
  · rw [e2m_0, if_pos rfl, bar_0]
  · rw [e2m_ok hb, if_neg (bok_nm1 hb)]
    simp only [m_side0, m_side1, m_side2, m_side3, xcI_some, bar]
theorem m_union {a b : Int32} (ha : bok0 a) (hb : bok0 b) (h : xH) : xM 115 [.int (e2m a), .int (e2m b)] h = some (some (.int (e2m (cun a b))), h) := by
  rw [xb115]
  rcases ha with rfl | ha
  · rw [e2m_0, if_pos rfl, if_pos rfl]
    unfold cun
    rw [if_pos rfl]
  · rw [e2m_ok ha, if_neg (bok_nm1 ha)]
    rcases hb with rfl | hb
    · rw [e2m_0, if_pos rfl, if_neg (bok_nm1 ha)]
      unfold cun
      rw [if_neg (bok_ne0 ha), if_pos rfl, e2m_ok ha]
    · rw [e2m_ok hb, if_neg (bok_nm1 hb), e2m_ok (bok_un ha hb)]
      unfold cun
      rw [if_neg (bok_ne0 ha), if_neg (bok_ne0 hb)]
      simp only [m_side0, m_side1, m_side2, m_side3, m_lesser, m_greater, m_box, xcI_some]
theorem m_common {a b : Int32} (ha : bok0 a) (hb : bok b) (h : xH) : xM 116 [.int (e2m a), .int b] h = some (some (.int (e2m (cme a b))), h) := by
  rw [xb116]
  rcases ha with rfl | ha
  · rw [e2m_0, if_pos rfl]
    have e : cme 0 b = 0 := by
      rcases bok0_me (Or.inl rfl) hb with e | e
      · exact e
      · obtain ⟨l', t', r', c', h1', h2', h3', h4', rfl⟩ := hb
        unfold cme
        rw [if_neg]
        rw [bsides0.1, bsides0.2.2.1, bL_nI (by omega) (by omega) (by omega) (by omega), bR_nI (by omega) (by omega) (by omega) (by omega)]
        rw [show (0 : Int32) = nI 0 from rfl, imax_nI (by omega) (by omega), imin_nI (by omega) (by omega), nI_ltI (by omega) (by omega)]
        omega
    rw [e, e2m_0]
  · have hm := bok0_me (Or.inr ha) hb
    rw [e2m_ok ha, if_neg (bok_nm1 ha), if_neg (bok_nm1 hb)]
    simp only [m_side0, m_side1, m_side2, m_side3, m_lesser, m_greater, m_box, xcI_some]
    unfold cme at hm ⊢
    split
    · next h5 =>
      rw [if_pos h5] at hm
      split
      · next h6 =>
        rw [if_pos h6] at hm
        rcases hm with e | e
        · exfalso
          obtain ⟨l, t, r, c, h1, h2, h3, h4, rfl⟩ := ha
          obtain ⟨l', t', r', c', h1', h2', h3', h4', rfl⟩ := hb
          rw [bL_nI (by omega) (by omega) (by omega) (by omega), bL_nI (by omega) (by omega) (by omega) (by omega), bR_nI (by omega) (by omega) (by omega) (by omega), bR_nI (by omega) (by omega) (by omega) (by omega)] at h5 e
          rw [bT_nI (by omega) (by omega) (by omega) (by omega), bT_nI (by omega) (by omega) (by omega) (by omega), bB_nI (by omega) (by omega) (by omega) (by omega), bB_nI (by omega) (by omega) (by omega) (by omega)] at h6 e
          rw [imax_nI (by omega) (by omega), imin_nI (by omega) (by omega), nI_ltI (by omega) (by omega)] at h5 h6
          rw [imax_nI (by omega) (by omega), imin_nI (by omega) (by omega), imax_nI (by omega) (by omega), imin_nI (by omega) (by omega), bpk_nI (by omega) (by omega) (by omega) (by omega)] at e
          exact bok_ne0 ⟨_, _, _, _, h5, by omega, h6, by omega, rfl⟩ e
        · rw [e2m_ok e]
      · rfl
    · rfl
theorem m_growth {a b : Int32} (ha : bok0 a) (hb : bok0 b) (h : xH) : xM 136 [.int (e2m a), .int (e2m b)] h = some (some (.int (cgr a b)), h) := by
  simp only [xb136, m_union ha hb, m_area (bok0_un ha hb), m_area ha, xcI_some, cgr]
theorem m_waste {a b : Int32} (ha : bok0 a) (hb : bok0 b) (h : xH) : xM 117 [.int (e2m a), .int (e2m b)] h = some (some (.int (cwa a b)), h) := by
  simp only [xb117, m_union ha hb, m_area (bok0_un ha hb), m_area ha, m_area hb, xcI_some, cwa]
theorem m_part {b : Int32} (hb : bok b) {w : Nat} (hw : w < 4) (z : Int32) (h : xH) : xM 118 [.int b, .int (nI w), .int z] h = some (some (.int (bval b (nI w))), h) := by
  rw [xb118, if_neg (bok_nm1 hb)]
  match w, hw with
  | 0, _ => rw [if_pos (by decide)]; exact congrArg (fun z => xcI z _) (m_side0 b h)
  | 1, _ => rw [if_pos (by decide)]; exact congrArg (fun z => xcI z _) (m_side1 b h)
  | 2, _ =>
    rw [if_neg (by decide)]
    show xcI (xM 111 [.int b, .int 2] h) (fun v4 h3 => xcI (xM 111 [.int b, .int 0] h3) fun v6 h5 => some (some (.int (v4 - v6)), h5)) = _
    simp only [m_side2, m_side0, xcI_some]; rfl
  | 3, _ =>
    rw [if_neg (by decide)]
    show xcI (xM 111 [.int b, .int 3] h) (fun v4 h3 => xcI (xM 111 [.int b, .int 1] h3) fun v6 h5 => some (some (.int (v4 - v6)), h5)) = _
    simp only [m_side3, m_side1, xcI_some]; rfl
theorem m_part0 (w z : Int32) (h : xH) : xM 118 [.int (-1), .int w, .int z] h = some (some (.int z), h) := by
  rw [xb118, if_pos rfl]
theorem m_in (x a b : Int32) (h : xH) : xM 103 [.int x, .int a, .int b] h = some (some (.int (if a ≤ x ∧ x ≤ b then 1 else 0)), h) := by
  rw [xb103]
  by_cases h1 : x < a
  · rw [if_pos h1, if_neg (fun q => absurd h1 (Int32.not_lt.mpr q.1))]
  · rw [if_neg h1]
    by_cases h2 : b < x
    · rw [if_pos h2, if_neg (fun q => absurd h2 (Int32.not_lt.mpr q.2))]
    · rw [if_neg h2, if_pos ⟨Int32.not_lt.mp h1, Int32.not_lt.mp h2⟩]
