/-! The class's scene: rows read and written; what it is that the rows hold a tree -/
def sB (S : sS) (k : Nat) (g : Nat → Int32) : sS := (va_up S.1 k g, S.2)
def sJ (S : sS) (k : Nat) (v : Int32) : sS := (S.1, va_up S.2 k v)
theorem sB_s (S : sS) (k : Nat) (g : Nat → Int32) : (sB S k g).1 k = g := by
  show va_up S.1 k g k = g
  exact up_s _ _ _
theorem sB_n (S : sS) {k j : Nat} (g : Nat → Int32) (hj : j ≠ k) : (sB S k g).1 j = S.1 j := by
  show va_up S.1 k g j = S.1 j
  exact up_n _ _ hj
theorem sB_2 (S : sS) (k : Nat) (g : Nat → Int32) : (sB S k g).2 = S.2 := rfl
theorem sJ_1 (S : sS) (k : Nat) (v : Int32) : (sJ S k v).1 = S.1 := rfl
theorem sJ_s (S : sS) (k : Nat) (v : Int32) : (sJ S k v).2 k = v := by
  show va_up S.2 k v k = v
  exact up_s _ _ _
theorem sJ_n (S : sS) {k j : Nat} (v : Int32) (hj : j ≠ k) : (sJ S k v).2 j = S.2 j := by
  show va_up S.2 k v j = S.2 j
  exact up_n _ _ hj
section CACC
variable (h : xH) (a : Nat) (S : sS)
theorem c_r0 {i : Nat} (hi : i < 32) : xri (pS h a S) 0 (a + 2) (nI i) = some (S.1 0 i) := by
  rw [sl_r0, xin_nI hi (by decide), cond_true, nI_clamp (by omega)]
theorem c_w0 {i : Nat} (hi : i < 32) (v : Int32) : xwi (pS h a S) 0 (a + 2) (nI i) v = some (pS h a (sB S 0 (upd (S.1 0) i v))) := by
  rw [sl_w0, xin_nI hi (by decide), cond_true, nI_clamp (by omega)]
  rfl
theorem c_r1 {i : Nat} (hi : i < 32) : xri (pS h a S) 0 (a + 3) (nI i) = some (S.1 1 i) := by
  rw [sl_r1, xin_nI hi (by decide), cond_true, nI_clamp (by omega)]
theorem c_w1 {i : Nat} (hi : i < 32) (v : Int32) : xwi (pS h a S) 0 (a + 3) (nI i) v = some (pS h a (sB S 1 (upd (S.1 1) i v))) := by
  rw [sl_w1, xin_nI hi (by decide), cond_true, nI_clamp (by omega)]
  rfl
theorem c_r2 {i : Nat} (hi : i < 32) : xri (pS h a S) 0 (a + 4) (nI i) = some (S.1 2 i) := by
  rw [sl_r2, xin_nI hi (by decide), cond_true, nI_clamp (by omega)]
theorem c_w2 {i : Nat} (hi : i < 32) (v : Int32) : xwi (pS h a S) 0 (a + 4) (nI i) v = some (pS h a (sB S 2 (upd (S.1 2) i v))) := by
  rw [sl_w2, xin_nI hi (by decide), cond_true, nI_clamp (by omega)]
  rfl
theorem c_r3 {i : Nat} (hi : i < 32) : xri (pS h a S) 0 (a + 5) (nI i) = some (S.1 3 i) := by
  rw [sl_r3, xin_nI hi (by decide), cond_true, nI_clamp (by omega)]
theorem c_w3 {i : Nat} (hi : i < 32) (v : Int32) : xwi (pS h a S) 0 (a + 5) (nI i) v = some (pS h a (sB S 3 (upd (S.1 3) i v))) := by
  rw [sl_w3, xin_nI hi (by decide), cond_true, nI_clamp (by omega)]
  rfl
theorem c_r4 {i : Nat} (hi : i < 80) : xri (pS h a S) 0 (a + 6) (nI i) = some (S.1 4 i) := by
  rw [sl_r4, xin_nI hi (by decide), cond_true, nI_clamp (by omega)]
theorem c_w4 {i : Nat} (hi : i < 80) (v : Int32) : xwi (pS h a S) 0 (a + 6) (nI i) v = some (pS h a (sB S 4 (upd (S.1 4) i v))) := by
  rw [sl_w4, xin_nI hi (by decide), cond_true, nI_clamp (by omega)]
  rfl
theorem c_r5 {i : Nat} (hi : i < 3) : xri (pS h a S) 0 (a + 7) (nI i) = some (S.1 5 i) := by
  rw [sl_r5, xin_nI hi (by decide), cond_true, nI_clamp (by omega)]
theorem c_w5 {i : Nat} (hi : i < 3) (v : Int32) : xwi (pS h a S) 0 (a + 7) (nI i) v = some (pS h a (sB S 5 (upd (S.1 5) i v))) := by
  rw [sl_w5, xin_nI hi (by decide), cond_true, nI_clamp (by omega)]
  rfl
theorem c_r6 {i : Nat} (hi : i < 16) : xri (pS h a S) 0 (a + 8) (nI i) = some (S.1 6 i) := by
  rw [sl_r6, xin_nI hi (by decide), cond_true, nI_clamp (by omega)]
theorem c_w6 {i : Nat} (hi : i < 16) (v : Int32) : xwi (pS h a S) 0 (a + 8) (nI i) v = some (pS h a (sB S 6 (upd (S.1 6) i v))) := by
  rw [sl_w6, xin_nI hi (by decide), cond_true, nI_clamp (by omega)]
  rfl
theorem c_r7 {i : Nat} (hi : i < 16) : xri (pS h a S) 0 (a + 9) (nI i) = some (S.1 7 i) := by
  rw [sl_r7, xin_nI hi (by decide), cond_true, nI_clamp (by omega)]
theorem c_w7 {i : Nat} (hi : i < 16) (v : Int32) : xwi (pS h a S) 0 (a + 9) (nI i) v = some (pS h a (sB S 7 (upd (S.1 7) i v))) := by
  rw [sl_w7, xin_nI hi (by decide), cond_true, nI_clamp (by omega)]
  rfl
theorem c_r8 {i : Nat} (hi : i < 5) : xri (pS h a S) 0 (a + 11) (nI i) = some (S.1 8 i) := by
  rw [sl_r8, xin_nI hi (by decide), cond_true, nI_clamp (by omega)]
theorem c_w8 {i : Nat} (hi : i < 5) (v : Int32) : xwi (pS h a S) 0 (a + 11) (nI i) v = some (pS h a (sB S 8 (upd (S.1 8) i v))) := by
  rw [sl_w8, xin_nI hi (by decide), cond_true, nI_clamp (by omega)]
  rfl
theorem c_r9 {i : Nat} (hi : i < 16) : xri (pS h a S) 0 (a + 12) (nI i) = some (S.1 9 i) := by
  rw [sl_r9, xin_nI hi (by decide), cond_true, nI_clamp (by omega)]
theorem c_w9 {i : Nat} (hi : i < 16) (v : Int32) : xwi (pS h a S) 0 (a + 12) (nI i) v = some (pS h a (sB S 9 (upd (S.1 9) i v))) := by
  rw [sl_w9, xin_nI hi (by decide), cond_true, nI_clamp (by omega)]
  rfl
theorem c_r10 {i : Nat} (hi : i < 16) : xri (pS h a S) 0 (a + 13) (nI i) = some (S.1 10 i) := by
  rw [sl_r10, xin_nI hi (by decide), cond_true, nI_clamp (by omega)]
theorem c_w10 {i : Nat} (hi : i < 16) (v : Int32) : xwi (pS h a S) 0 (a + 13) (nI i) v = some (pS h a (sB S 10 (upd (S.1 10) i v))) := by
  rw [sl_w10, xin_nI hi (by decide), cond_true, nI_clamp (by omega)]
  rfl
theorem c_place (n i : Nat) (h : xH) : xM 52 [.int (nI (16 + n)), .int (nI i)] h = some (some (.int (nI (5 * n + i))), h) := by
  rw [xb52, show (16 : Int32) = nI 16 from rfl, show (5 : Int32) = nI 5 from rfl, pk_sub (by omega), pk_mul, nI_add, show (16 + n - 16) * 5 + i = 5 * n + i by omega]
end CACC
def paC (q : Option Nat) : Int32 := match q with
  | some a => nI (16 + a)
  | none => -1
def rkC (q : Option Nat) : Int32 := match q with
  | some k => nI k
  | none => -1
/-- an entry's number -/
def off (k e : Nat) : Nat := if k = 0 then e else 16 + e
/-- the rows hold the tree -/
def RC (T : tS) (sb bx : Nat → Int32) (S : sS) : Prop :=
  S.2 0 = nI (16 + T.1) ∧ (∀ n, n < 16 → S.1 2 (16 + n) = rkC (T.2.1 n)) ∧
  (∀ n k, T.2.1 n = some k → n < 16 ∧ k < 16 ∧ S.1 3 (16 + n) = nI (T.2.2.1 n).length ∧ S.1 1 (16 + n) = paC (T.2.2.2.1 n) ∧ S.1 0 (16 + n) = bx n ∧ (T.2.2.1 n).length ≤ 5 ∧ ∀ i e, (T.2.2.1 n)[i]? = some e → e < 16 ∧ S.1 4 (5 * n + i) = nI (off k e) ∧ (k = 0 → S.1 1 e = nI (16 + n))) ∧
  (∀ s, s < 16 → S.1 0 s = sb s)
/-- the rows of a tree but not its scratch -/
def KC (S S' : sS) : Prop := (∀ k, 8 ≤ k → S'.1 k = S.1 k) ∧ (∀ s, s < 16 → S'.1 0 s = S.1 0 s) ∧ S'.2 2 = S.2 2
theorem KC_rf (S : sS) : KC S S := ⟨fun _ _ => rfl, fun _ _ => rfl, rfl⟩
theorem KC_tr {S S' S'' : sS} (h1 : KC S S') (h2 : KC S' S'') : KC S S'' := ⟨fun k a => (h2.1 k a).trans (h1.1 k a), fun s a => (h2.2.1 s a).trans (h1.2.1 s a), h2.2.2.trans h1.2.2⟩
