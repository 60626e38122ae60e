/-! The checksum of both objects -/
def dgX (A : aT) : Int64 := dgD A.1.2.2.2.2.2 (dgA A.1.1 A.1.2.1 A.1.2.2.1 A.1.2.2.2.1 A.1.2.2.2.2.1 (dgT A.1.1 A.1.2.1 (itr (fun k x => mx x (vtd A k)) 7 ((1757 : Int32).toInt64))))
theorem itr_c {F G : Nat → Int64 → Int64} : ∀ (n : Nat) (x : Int64), (∀ k y, k < n → F k y = G k y) → itr F n x = itr G n x
  | 0, x, _ => by rw [itr_0, itr_0]
  | n + 1, x, h => by rw [itr_s, itr_s, itr_c n x (fun k y hk => h k y (by omega)), h n _ (by omega)]
section DG2
variable {A : aT}
theorem c_digX (hA : AW A) {X : hD} {M : mS} {h : xH} (hh : HS X M h) (hC : CL X A) : ∃ S', xM 94 [.ref 0] h = some (some (.long (dgX A)), pS h (X.1 5) S') ∧ CSc A.1 S' := by
  obtain ⟨hW1, hW2, hW3, hW4, hW5, hW6, hW7, hW8⟩ := id hA.1
  have p5 := hC.1.1 5 (by decide)
  have hg := HS_GO hh hC.1
  have hid := X_S hh p5
  have hS := hC.2.2.1
  generalize X.2.2.1 (X.1 5) = S at hid hS
  generalize X.1 5 = a at hid hg
  have first : ∀ (d k : Nat), k + d = 7 → xE 94 6 [some (.ref 0), some (.long (itr (fun k x => mx x (vtd A k)) k ((1757 : Int32).toInt64))), none, some (.int (nI k)), none] [] h = xE 94 6 [some (.ref 0), some (.long (itr (fun k x => mx x (vtd A k)) 7 ((1757 : Int32).toInt64))), none, some (.int (nI 7)), none] [] h := by
    intro d
    induction d with
    | zero =>
      intro k hk
      have hk : k = 7 := by omega
      subst hk
      rfl
    | succ d ih =>
      intro k hk
      rw [xb94_6, if_pos (show nI k < (7 : Int32) from nI_lt (b := 7) (by omega) (by decide)), X_g hh, c_countOf hh hC (by omega), xcI_some, mx_def, nI_1]
      have q := ih (k + 1) (by omega)
      rw [itr_s] at q
      exact q
  have f0 := first 7 0 (by decide)
  rw [itr_0] at f0
  generalize hx7 : itr (fun k x => mx x (vtd A k)) 7 ((1757 : Int32).toInt64) = x7 at f0
  have hR := CTr_B hW1 hS.1
  obtain ⟨g', t1⟩ := c_tdigest (h := h) (a := a) hW1 hW4 hR x7
  have hS2 := CSc_KW hS (KW_6 S g')
  obtain ⟨S3, n1, n2, n3⟩ := c_noteAll (h := h) (a := a) hW1 (CTr_B hW1 hS2.1)
  have hS3 := CSc_KW hS2 n3
  have wl := wS_len hW1
  have rest : ∀ (d i : Nat) (x : Int64), i + d = (wS A.1.1).length → xE 94 57 [some (.ref 0), some (.long (itr (fun i x => dgS A.1.2.1 A.1.2.2.1 A.1.2.2.2.1 A.1.2.2.2.2.1 ((wS A.1.1).getD i 0) x) i x)), none, some (.int (nI (wS A.1.1).length)), some (.int (nI i))] [] (pS h a S3) = some (some (.long (dgD A.1.2.2.2.2.2 (dgA A.1.1 A.1.2.1 A.1.2.2.1 A.1.2.2.2.1 A.1.2.2.2.2.1 x))), pS h a S3) := by
    intro d
    induction d with
    | zero =>
      intro i x hi
      have hi : i = (wS A.1.1).length := by omega
      subst hi
      rw [xb94_57, if_neg (nI_nlt (Nat.le_refl _) (by omega)), (hg _).1, Option.bind_some, sl_s1, Option.bind_some, sl_gd, c_ddigest hS3.2.2 hW8, xcL_some]
      rfl
    | succ d ih =>
      intro i x hi
      have q : i < (wS A.1.1).length := by omega
      have hv : S3.1 7 i = nI ((wS A.1.1).getD i 0) := by
        rw [List.getD_eq_getElem?_getD, List.getElem?_eq_getElem q]
        exact n2 i _ (List.getElem?_eq_getElem q)
      have hp : PR A.1.2.1 ((wS A.1.1).getD i 0) := by
        rw [List.getD_eq_getElem?_getD, List.getElem?_eq_getElem q]
        exact (wl.2 _ (List.getElem_mem q)).1
      rw [xb94_57, if_pos (nI_lt q (by omega)), (hg _).1, Option.bind_some, Option.bind_some, sl_s0, Option.bind_some, sl_t8, Option.bind_some, c_r7 h a S3 (by omega), Option.bind_some, hv, sl_gu, c_dshape hS3.2.1 hW6 hp, xcL_some, nI_1]
      have z := ih (i + 1) x (by omega)
      rw [itr_s] at z
      exact z
  have r0 := rest (wS A.1.1).length 0 (dgT A.1.1 A.1.2.1 x7) (by omega)
  rw [itr_0] at r0
  have tail : xE 94 6 [some (.ref 0), some (.long x7), none, some (.int (nI 7)), none] [] (pS h a S) = some (some (.long (dgX A)), pS h a S3) := by
    rw [xb94_6, if_neg (show ¬ nI 7 < (7 : Int32) by decide), (hg _).1, Option.bind_some, sl_s0, Option.bind_some, sl_gt, t1, xcL_some, (hg _).1, Option.bind_some, sl_s0, Option.bind_some, sl_gt, n1, xcI_some]
    unfold dgX
    rw [hx7]
    exact r0
  rw [hid] at tail
  refine ⟨S3, ?_, hS3⟩
  rw [xb94]
  exact Eq.trans (show _ = _ from f0) tail
theorem m_digX (hA : AW A) (h : xH) {M : mS} (hR : RF M A) : ∃ M', xM 196 [.ref 104] (pM h 104 M) = some (some (.long (dgX A)), pM h 104 M') ∧ RF M' A := by
  obtain ⟨hW1, hW2, hW3, hW4, hW5, hW6, hW7, hW8⟩ := id hA.1
  obtain ⟨S', e1, e2⟩ := m_digest (h := h) (a := 104) (S := M) hW1 (fun _ q => q) hW2 hW4 hW6 (MTr_B hW1 hR.2.1) hR.2.2.1 hR.2.2.2 hW7 hW8
  rw [m0_id] at e1
  refine ⟨m0 S' (M.1 0), ?_, RFc_0m (RFc_KM hR.1 (KH_KM e2)) _, by rw [m0_0]; exact hR.2⟩
  unfold dgX
  rw [e1, itr_c (G := fun k x => mx x (vtd A k)) 7 ((1757 : Int32).toInt64) (fun k y hk => by rw [told_A hR.1 hk])]
end DG2
