/-! The class's tree: a new node, an entry goes -/
section CN
variable {h : xH} {a : Nat} {S : sS} {T : tS} {sb bx : Nat → Int32} {Q : Nat → Prop}
def nwC (S : sS) (w k : Nat) : sS := sB (sB (sB (sB S 2 (upd (S.1 2) (16 + w) (nI k))) 1 (upd (S.1 1) (16 + w) (-1))) 3 (upd (S.1 3) (16 + w) 0)) 0 (upd (S.1 0) (16 + w) 0)
theorem nwC_0 (S : sS) (w k : Nat) : (nwC S w k).1 0 = upd (S.1 0) (16 + w) 0 := by unfold nwC; rw [sB_s]
theorem nwC_1 (S : sS) (w k : Nat) : (nwC S w k).1 1 = upd (S.1 1) (16 + w) (-1) := by unfold nwC; rw [sB_n _ _ (by decide), sB_n _ _ (by decide), sB_s]
theorem nwC_2 (S : sS) (w k : Nat) : (nwC S w k).1 2 = upd (S.1 2) (16 + w) (nI k) := by unfold nwC; rw [sB_n _ _ (by decide), sB_n _ _ (by decide), sB_n _ _ (by decide), sB_s]
theorem nwC_3 (S : sS) (w k : Nat) : (nwC S w k).1 3 = upd (S.1 3) (16 + w) 0 := by unfold nwC; rw [sB_n _ _ (by decide), sB_s]
theorem nwC_4 (S : sS) (w k : Nat) {j : Nat} (hj : 4 ≤ j) : (nwC S w k).1 j = S.1 j := by unfold nwC; rw [sB_n _ _ (by omega), sB_n _ _ (by omega), sB_n _ _ (by omega), sB_n _ _ (by omega)]
theorem RC_new (hR : RC T sb bx S) {w k : Nat} (hw : w < 16) (hk16 : k < 16) (hwn : T.2.1 w = none) : RC (newT T w k) sb (va_up bx w 0) (nwC S w k) := by
  obtain ⟨t1, t2, t3, t4⟩ := hR
  refine ⟨t1, fun m hm => ?_, fun m j hm => ?_, fun s hs => by rw [nwC_0, pk_un (by omega)]; exact t4 s hs⟩
  · rw [nwC_2]
    show _ = rkC (va_up T.2.1 w (some k) m)
    by_cases e : m = w
    · subst e; rw [pk_us, up_s]; rfl
    · rw [pk_un (by omega), up_n _ _ e]; exact t2 m hm
  · have hm' : va_up T.2.1 w (some k) m = some j := hm
    by_cases e : m = w
    · subst e
      rw [up_s] at hm'
      cases hm'
      have e0 : (newT T m k).2.2.1 m = [] := up_s _ _ _
      have e1 : (newT T m k).2.2.2.1 m = none := up_s _ _ _
      refine ⟨hw, hk16, ?_, ?_, ?_, by rw [e0]; decide, fun i x hx => by rw [e0] at hx; cases hx⟩
      · rw [nwC_3, pk_us, e0]; rfl
      · rw [nwC_1, pk_us, e1]; rfl
      · rw [nwC_0, pk_us, up_s]
    · rw [up_n _ _ e] at hm'
      have e0 : (newT T w k).2.2.1 m = T.2.2.1 m := up_n _ _ e
      have e1 : (newT T w k).2.2.2.1 m = T.2.2.2.1 m := up_n _ _ e
      obtain ⟨q0, q00, q2, q3, q4, q5, q6⟩ := t3 m j hm'
      refine ⟨q0, q00, by rw [e0, nwC_3, pk_un (by omega)]; exact q2, by rw [e1, nwC_1, pk_un (by omega)]; exact q3, by rw [nwC_0, pk_un (by omega), up_n _ _ e]; exact q4, by rw [e0]; exact q5, fun i x hx => ?_⟩
      rw [e0] at hx
      obtain ⟨y1, y2, y3⟩ := q6 i x hx
      refine ⟨y1, by rw [nwC_4 _ _ _ (by omega)]; exact y2, fun hj => by rw [nwC_1, pk_un (by omega)]; exact y3 hj⟩
theorem KP_new (Q : Nat → Prop) (S : sS) (w k : Nat) : KP Q S (nwC S w k) := ⟨fun j hj => nwC_4 _ _ _ (by omega), fun s hs => by rw [nwC_0, pk_un (by omega)], rfl, rfl, fun s hs _ => by rw [nwC_1, pk_un (by omega)]⟩
theorem c_empty (h : xH) (a : Nat) (S : sS) {n : Nat} (hn : n < 16) : xM 65 [.ref (a + 1), .int (nI (16 + n))] (pS h a S) = some (none, pS h a (sB (sB S 3 (upd (S.1 3) (16 + n) 0)) 0 (upd (S.1 0) (16 + n) 0))) := by
  rw [xb65, sl_t4, Option.bind_some, c_w3 h a S (by omega), Option.bind_some, sl_t1, Option.bind_some, c_w0 h a _ (by omega), Option.bind_some, sB_n _ _ (by decide)]
theorem rkC_m1 {k : Nat} (hk : k < 16) : rkC (some k) ≠ -1 := nI_m1 k (by omega)
theorem c_newNode (hR : RC T sb bx S) (hf : freeN T.2.1 < 16) (hn : T.2.1 (freeN T.2.1) = none) (k : Nat) : xM 64 [.ref (a + 1), .int (nI k)] (pS h a S) = some (some (.int (nI (16 + freeN T.2.1))), pS h a (nwC S (freeN T.2.1) k)) := by
  have hl := freeN_low T.2.1
  generalize freeN T.2.1 = w at hf hn hl ⊢
  have loop : ∀ (d i : Nat), i + d = w → xE 64 3 [some (.ref (a + 1)), some (.int (nI k)), some (.int (nI (16 + i)))] [] (pS h a S) = some (some (.int (nI (16 + w))), pS h a (nwC S w k)) := by
    intro d
    induction d with
    | zero =>
      intro i hi
      have hi : i = w := by omega
      subst hi
      rw [xb64_3, if_pos (show nI (16 + i) < (32 : Int32) from nI_lt (b := 32) (by omega) (by decide)), sl_t3, Option.bind_some, c_r2 h a S (by omega), Option.bind_some, hR.2.1 i hf, hn, if_pos (show rkC none = -1 from rfl), Option.bind_some, c_w2 h a S (by omega), Option.bind_some, sl_t2, Option.bind_some, c_w1 h a _ (by omega), Option.bind_some, sl_gt, c_empty h a _ hf, xcV_some]
      simp only [sB_n _ _ (show (1 : Nat) ≠ 2 by decide), sB_n _ _ (show (3 : Nat) ≠ 1 by decide), sB_n _ _ (show (3 : Nat) ≠ 2 by decide), sB_n _ _ (show (0 : Nat) ≠ 1 by decide), sB_n _ _ (show (0 : Nat) ≠ 2 by decide)]
      rfl
    | succ d ih =>
      intro i hi
      have hu := hl i (by omega)
      obtain ⟨q, hq⟩ : ∃ q, T.2.1 i = some q := by
        cases hq : T.2.1 i with
        | none => exact absurd hq hu
        | some q => exact ⟨q, rfl⟩
      rw [xb64_3, if_pos (show nI (16 + i) < (32 : Int32) from nI_lt (b := 32) (by omega) (by decide)), sl_t3, Option.bind_some, c_r2 h a S (by omega), Option.bind_some, hR.2.1 i (by omega), hq, if_neg (rkC_m1 (hR.2.2.1 i q hq).2.1), nI_1]
      exact ih (i + 1) (by omega)
  rw [xb64]
  exact loop w 0 (by omega)
end CN
