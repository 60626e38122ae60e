/-! A scene is copied; states are remembered -/
theorem CSc_ext {σ : gT} (hW : WF σ) {S S' : sS} (hS : CSc σ S) (h1 : ∀ j i, j < 4 → i < 32 → S'.1 j i = S.1 j i) (h4 : ∀ i, i < 80 → S'.1 4 i = S.1 4 i) (h8 : ∀ i, i < 5 → S'.1 8 i = S.1 8 i) (h9 : ∀ i, i < 16 → S'.1 9 i = S.1 9 i) (h10 : ∀ i, i < 16 → S'.1 10 i = S.1 10 i) (g0 : S'.2 0 = S.2 0) (g2 : S'.2 2 = S.2 2) : CSc σ S' := by
  obtain ⟨⟨bx, ⟨r1, r2, r3, r4⟩, hC⟩, hSh, hDm⟩ := hS
  refine ⟨⟨bx, ⟨by rw [g0]; exact r1, fun n hn => by rw [h1 2 _ (by decide) (by omega)]; exact r2 n hn, fun n k hn => ?_, fun s hs => by rw [h1 0 _ (by decide) (by omega)]; exact r4 s hs⟩, hC⟩, ⟨fun s hs => by rw [h1 0 _ (by decide) (by omega)]; exact hSh.1 s hs, fun s hs => by rw [h9 s hs.1, h10 s hs.1]; exact hSh.2 s hs⟩, ⟨by rw [g2]; exact hDm.1, fun i b hb => ?_⟩⟩
  · obtain ⟨q0, q00, q2, q3, q4, q5, q6⟩ := r3 n k hn
    refine ⟨q0, q00, by rw [h1 3 _ (by decide) (by omega)]; exact q2, by rw [h1 1 _ (by decide) (by omega)]; exact q3, by rw [h1 0 _ (by decide) (by omega)]; exact q4, q5, fun i e he => ?_⟩
    have hi := (List.getElem?_eq_some_iff.mp he).1
    obtain ⟨y1, y2, y3⟩ := q6 i e he
    exact ⟨y1, by rw [h4 _ (by omega)]; exact y2, fun hk => by rw [h1 1 _ (by decide) (by omega)]; exact y3 hk⟩
  · have hi := (List.getElem?_eq_some_iff.mp hb).1
    have := hW.2.2.2.2.2.2.2
    rw [h8 i (by omega)]; exact hDm.2 i b hb
theorem MSc_ext {σ : gT} (hW : WF σ) {f f' : Nat → Int32} (hS : MSc σ f) (hf : ∀ i, i < 311 → f' i = f i) : MSc σ f' := by
  obtain ⟨⟨bx, h1, h2⟩, h3, h4⟩ := hS
  refine ⟨⟨bx, RM_lo h1 (fun i q1 q2 => hf i (by omega)) (fun t ht hb => by rw [hf _ (by omega)]; exact h1.2.2.2 t ht hb), h2⟩, ⟨fun s hs => by rw [hf _ (by omega)]; exact h3.1 s hs, fun s hs => ?_⟩, ⟨by rw [hf 305 (by decide)]; exact h4.1, fun i b hb => ?_⟩⟩
  · have := hs.1
    rw [hf _ (by omega), hf _ (by omega), hf _ (by omega)]; exact h3.2 s hs
  · have hi := (List.getElem?_eq_some_iff.mp hb).1
    have := hW.2.2.2.2.2.2.2
    show f' (306 + i) = b
    rw [hf _ (by omega)]; exact h4.2 i b hb
section CPY
variable {h : xH} {a b : Nat} {Sa : sS}
theorem xcp2 {m n0 n1 n k : Nat} {l l' : List xC} {f g : Nat → Int32} (hs : xarr (pL h b l) 0 (a + k) = some (n0, f)) (hm : l[m]? = some (.inl (0, n1, g))) (h0 : n ≤ n0) (h1 : n ≤ n1) (hn : n < 2 ^ 31) (hl : l.set m (.inl (0, n1, va_cpy f g 0 0 n)) = l') : xcp (pL h b l) (a + k) 0 (b + m) 0 (nI n) = some (pL h b l') := by
  unfold xcp
  rw [hs, Option.bind_some, xarr_pL hm, Option.bind_some, nI_clamp hn, show (0 : Int32).toNatClampNeg = 0 by decide, decide_eq_false (nI_pos hn), show decide ((0 : Int32) < 0) = false by decide, Nat.zero_add, show Nat.ble n n0 = true from Nat.ble_eq_true_of_le h0, show Nat.ble n n1 = true from Nat.ble_eq_true_of_le h1, pL_up _ (List.getElem?_eq_some_iff.mp hm).1, hl]
  rfl
/-- b becomes what a is -/
theorem c_copyFrom (ha : a ∈ SA) (hb : b ∈ SA) (hab : a ≠ b) (hA : pAt h a (gS a Sa)) (S : sS) : ∃ S', xM 31 [.ref b, .ref a] (pS h b S) = some (none, pS h b S') ∧ ∀ σ, WF σ → CSc σ Sa → CSc σ S' := by
  have hat : ∀ S : sS, pAt (pS h b S) a (gS a Sa) := fun S => pAt_pL hA (by rw [gS_len, gS_len]; have := SA_d ha hb hab; omega)
  have ar : ∀ (S : sS) (k m : Nat) (g : Nat → Int32), (gS a Sa)[k]? = some (.inl (0, m, g)) → xarr (pS h b S) 0 (a + k) = some (m, g) := fun S k m g hk => at_a (hat S) hk
  have c0 : ∀ S : sS, xcp (pS h b S) (a + 2) 0 (b + 2) 0 32 = some (pS h b (sB S 0 (va_cpy (Sa.1 0) (S.1 0) 0 0 32))) := fun S => xcp2 (k := 2) (m := 2) (n := 32) (ar S 2 32 _ rfl) rfl (by decide) (by decide) (by decide) rfl
  have c1 : ∀ S : sS, xcp (pS h b S) (a + 3) 0 (b + 3) 0 32 = some (pS h b (sB S 1 (va_cpy (Sa.1 1) (S.1 1) 0 0 32))) := fun S => xcp2 (k := 3) (m := 3) (n := 32) (ar S 3 32 _ rfl) rfl (by decide) (by decide) (by decide) rfl
  have c2 : ∀ S : sS, xcp (pS h b S) (a + 4) 0 (b + 4) 0 32 = some (pS h b (sB S 2 (va_cpy (Sa.1 2) (S.1 2) 0 0 32))) := fun S => xcp2 (k := 4) (m := 4) (n := 32) (ar S 4 32 _ rfl) rfl (by decide) (by decide) (by decide) rfl
  have c3 : ∀ S : sS, xcp (pS h b S) (a + 5) 0 (b + 5) 0 32 = some (pS h b (sB S 3 (va_cpy (Sa.1 3) (S.1 3) 0 0 32))) := fun S => xcp2 (k := 5) (m := 5) (n := 32) (ar S 5 32 _ rfl) rfl (by decide) (by decide) (by decide) rfl
  have c4 : ∀ S : sS, xcp (pS h b S) (a + 6) 0 (b + 6) 0 80 = some (pS h b (sB S 4 (va_cpy (Sa.1 4) (S.1 4) 0 0 80))) := fun S => xcp2 (k := 6) (m := 6) (n := 80) (ar S 6 80 _ rfl) rfl (by decide) (by decide) (by decide) rfl
  have c8 : ∀ S : sS, xcp (pS h b S) (a + 11) 0 (b + 11) 0 5 = some (pS h b (sB S 8 (va_cpy (Sa.1 8) (S.1 8) 0 0 5))) := fun S => xcp2 (k := 11) (m := 11) (n := 5) (ar S 11 5 _ rfl) rfl (by decide) (by decide) (by decide) rfl
  have c9 : ∀ S : sS, xcp (pS h b S) (a + 12) 0 (b + 12) 0 16 = some (pS h b (sB S 9 (va_cpy (Sa.1 9) (S.1 9) 0 0 16))) := fun S => xcp2 (k := 12) (m := 12) (n := 16) (ar S 12 16 _ rfl) rfl (by decide) (by decide) (by decide) rfl
  have c10 : ∀ S : sS, xcp (pS h b S) (a + 13) 0 (b + 13) 0 16 = some (pS h b (sB S 10 (va_cpy (Sa.1 10) (S.1 10) 0 0 16))) := fun S => xcp2 (k := 13) (m := 13) (n := 16) (ar S 13 16 _ rfl) rfl (by decide) (by decide) (by decide) rfl
  have t0 : ∀ S : sS, xfI (pS h b S) (a + 1) 3 0 = some (Sa.2 0) := fun S => at_I (hat S) rfl rfl
  have t1 : ∀ S : sS, xfR (pS h b S) (a + 1) 3 1 = some (a + 2) := fun S => at_R (hat S) rfl rfl
  have t2 : ∀ S : sS, xfR (pS h b S) (a + 1) 3 2 = some (a + 3) := fun S => at_R (hat S) rfl rfl
  have t3 : ∀ S : sS, xfR (pS h b S) (a + 1) 3 3 = some (a + 4) := fun S => at_R (hat S) rfl rfl
  have t4 : ∀ S : sS, xfR (pS h b S) (a + 1) 3 4 = some (a + 5) := fun S => at_R (hat S) rfl rfl
  have t5 : ∀ S : sS, xfR (pS h b S) (a + 1) 3 5 = some (a + 6) := fun S => at_R (hat S) rfl rfl
  have s0 : ∀ S : sS, xfR (pS h b S) a 2 0 = some (a + 1) := fun S => at_R (k := 0) (hat S) rfl rfl
  have s1 : ∀ S : sS, xfR (pS h b S) a 2 1 = some (a + 10) := fun S => at_R (k := 0) (hat S) rfl rfl
  have s3 : ∀ S : sS, xfR (pS h b S) a 2 3 = some (a + 12) := fun S => at_R (k := 0) (hat S) rfl rfl
  have s4 : ∀ S : sS, xfR (pS h b S) a 2 4 = some (a + 13) := fun S => at_R (k := 0) (hat S) rfl rfl
  have d0 : ∀ S : sS, xfR (pS h b S) (a + 10) 0 0 = some (a + 11) := fun S => at_R (hat S) rfl rfl
  have d1 : ∀ S : sS, xfI (pS h b S) (a + 10) 0 1 = some (Sa.2 2) := fun S => at_I (hat S) rfl rfl
  have p0 : ∀ (S : sS) (v : Int32), xpf (pS h b S) (b + 1) 3 0 (.int v) = some (pS h b (sJ S 0 v)) := fun S v => sl_pt0 ..
  have p2 : ∀ (S : sS) (v : Int32), xpf (pS h b S) (b + 10) 0 1 (.int v) = some (pS h b (sJ S 2 v)) := fun S v => sl_pd1 ..
  refine ⟨_, (by
    rw [xb31, sl_s0, Option.bind_some, s0, Option.bind_some, sl_gt, xb51, t0, Option.bind_some, p0, Option.bind_some, t1, Option.bind_some, sl_t1, Option.bind_some, c0, Option.bind_some, t2, Option.bind_some, sl_t2, Option.bind_some, c1, Option.bind_some, t3, Option.bind_some, sl_t3, Option.bind_some, c2, Option.bind_some, t4, Option.bind_some, sl_t4, Option.bind_some, c3, Option.bind_some, t5, Option.bind_some, sl_t5, Option.bind_some, c4, Option.bind_some, xcV_some, sl_s1, Option.bind_some, s1, Option.bind_some, sl_gd, xb15, d1, Option.bind_some, p2, Option.bind_some, d0, Option.bind_some, sl_d0, Option.bind_some, c8, Option.bind_some, xcV_some, s3, Option.bind_some, sl_s3, Option.bind_some, c9, Option.bind_some, s4, Option.bind_some, sl_s4, Option.bind_some, c10, Option.bind_some]), fun σ hW hS => ?_⟩
  have cin : ∀ (x y : Nat → Int32) (n i : Nat), i < n → va_cpy x y 0 0 n i = x i := fun x y n i hi => by
    rw [pk_cpy_in (by omega) (by omega)]
    congr 1
    omega
  refine CSc_ext hW hS (fun j i hj hi => ?_) (fun i hi => ?_) (fun i hi => ?_) (fun i hi => ?_) (fun i hi => ?_) ?_ ?_
  · rw [sB_n _ _ (by omega), sB_n _ _ (by omega), sB_n _ _ (by omega), sJ_1, sB_n _ _ (by omega)]
    rcases (show j = 0 ∨ j = 1 ∨ j = 2 ∨ j = 3 by omega) with rfl | rfl | rfl | rfl
    · rw [sB_n _ _ (by decide), sB_n _ _ (by decide), sB_n _ _ (by decide), sB_s, cin _ _ _ _ hi]
    · rw [sB_n _ _ (by decide), sB_n _ _ (by decide), sB_s, cin _ _ _ _ hi]
    · rw [sB_n _ _ (by decide), sB_s, cin _ _ _ _ hi]
    · rw [sB_s, cin _ _ _ _ hi]
  · rw [sB_n _ _ (by decide), sB_n _ _ (by decide), sB_n _ _ (by decide), sJ_1, sB_s, cin _ _ _ _ hi]
  · rw [sB_n _ _ (by decide), sB_n _ _ (by decide), sB_s, cin _ _ _ _ hi]
  · rw [sB_n _ _ (by decide), sB_s, cin _ _ _ _ hi]
  · rw [sB_s, cin _ _ _ _ hi]
  · rw [sB_2, sB_2, sB_2, sJ_n _ _ (by decide)]; rfl
  · rw [sB_2, sB_2, sB_2, sJ_s]
end CPY
section MUN
variable (h : xH) (a : Nat) (S : mS) (f : Nat → Int32)
theorem a_r1 {i : Nat} (hi : i < 311) : xri (pM h a (m0 S f)) 0 (a + 2) (nI i) = some (S.1 1 i) := by
  rw [ml_r1, xin_nI hi (by decide), cond_true, nI_clamp (by omega), m0_n _ _ (by decide)]
theorem a_w1 {i : Nat} (hi : i < 311) (v : Int32) : xwi (pM h a (m0 S f)) 0 (a + 2) (nI i) v = some (pM h a (m0 (sA S 1 (upd (S.1 1) i v)) f)) := by
  rw [ml_w1, xin_nI hi (by decide), cond_true, nI_clamp (by omega), m0_n _ _ (by decide), m0_sA _ _ _ (by decide)]
theorem a_r2 {i : Nat} (hi : i < 1555) : xri (pM h a (m0 S f)) 0 (a + 3) (nI i) = some (S.1 2 i) := by
  rw [ml_r2, xin_nI hi (by decide), cond_true, nI_clamp (by omega), m0_n _ _ (by decide)]
theorem a_w2 {i : Nat} (hi : i < 1555) (v : Int32) : xwi (pM h a (m0 S f)) 0 (a + 3) (nI i) v = some (pM h a (m0 (sA S 2 (upd (S.1 2) i v)) f)) := by
  rw [ml_w2, xin_nI hi (by decide), cond_true, nI_clamp (by omega), m0_n _ _ (by decide), m0_sA _ _ _ (by decide)]
theorem a_r4 {i : Nat} (hi : i < 3) : xri (pM h a (m0 S f)) 0 (a + 4) (nI i) = some (S.1 4 i) := by
  rw [ml_r4, xin_nI hi (by decide), cond_true, nI_clamp (by omega), m0_n _ _ (by decide)]
theorem a_w4 {i : Nat} (hi : i < 3) (v : Int32) : xwi (pM h a (m0 S f)) 0 (a + 4) (nI i) v = some (pM h a (m0 (sA S 4 (upd (S.1 4) i v)) f)) := by
  rw [ml_w4, xin_nI hi (by decide), cond_true, nI_clamp (by omega), m0_n _ _ (by decide), m0_sA _ _ _ (by decide)]
end MUN
theorem sA_sA (S : mS) (k : Nat) (g g' : Nat → Int32) : sA (sA S k g) k g' = sA S k g' := by
  unfold sA
  dsimp only
  rw [bx_uu]
theorem sA_id (S : mS) (k : Nat) : sA S k (S.1 k) = S := by
  refine Prod.ext ?_ rfl
  funext j
  show va_up S.1 k (S.1 k) j = S.1 j
  by_cases q : j = k
  · subst q; exact up_s _ _ _
  · exact up_n _ _ q
section MUL
variable {h : xH} {a : Nat} {f : Nat → Int32}
theorem m_laysAside (S : mS) : ∃ g, xM 105 [.ref a] (pM h a (m0 S f)) = some (none, pM h a (m0 (sA S 1 g) f)) ∧ ∀ i, i < 311 → g i = f i := by
  have loop : ∀ (d i : Nat) (g : Nat → Int32), i + d = 311 → (∀ j, j < i → g j = f j) → ∃ g', xE 105 2 [some (.ref a), some (.int (nI i))] [] (pM h a (m0 (sA S 1 g) f)) = some (none, pM h a (m0 (sA S 1 g') f)) ∧ ∀ j, j < 311 → g' j = f j := by
    intro d
    induction d with
    | zero =>
      intro i g hi hg
      have hi : i = 311 := by omega
      subst hi
      refine ⟨g, ?_, hg⟩
      rw [xb105_2, if_neg (show ¬ nI 311 < (311 : Int32) by decide)]
    | succ d ih =>
      intro i g hi hg
      obtain ⟨g', z1, z2⟩ := ih (i + 1) (upd g i (f i)) (by omega) (fun j hj => by
        by_cases e : j = i
        · subst e; rw [pk_us]
        · rw [pk_un e]; exact hg j (by omega))
      refine ⟨g', ?_, z2⟩
      rw [xb105_2, if_pos (show nI i < (311 : Int32) from nI_lt (b := 311) (by omega) (by decide)), ml_f1, Option.bind_some, ml_f0, Option.bind_some, m_r0 h a _ f (by omega), Option.bind_some, a_w1 h a _ f (by omega), Option.bind_some, nI_1, sA_s, sA_sA]
      exact z1
  obtain ⟨g', z1, z2⟩ := loop 311 0 (S.1 1) (by decide) (fun j hj => absurd hj (Nat.not_lt_zero _))
  rw [sA_id] at z1
  refine ⟨g', ?_, z2⟩
  rw [xb105]
  exact z1
/-- what is aside is the newest of the past; u: how many there were -/
theorem m_remembers (S : mS) {u : Nat} (hu : u ≤ 5) (h3 : S.2.1 3 = nI u) : ∃ g, xM 106 [.ref a] (pM h a (m0 S f)) = some (none, pM h a (m0 (sI (sA S 2 g) 3 (nI (if u = 5 then 5 else u + 1))) f)) ∧ (∀ k i, k < (if u = 5 then 4 else u) → i < 311 → g (311 * k + i) = S.1 2 (311 * (if u = 5 then k + 1 else k) + i)) ∧ ∀ i, i < 311 → g (311 * (if u = 5 then 4 else u) + i) = S.1 1 i := by
  have put : ∀ (v : Nat) (S : mS), v < 5 → S.2.1 3 = nI v → ∀ (d i : Nat) (g : Nat → Int32), i + d = 311 → (∀ j, j < i → g (311 * v + j) = S.1 1 j) → (∀ j, j < 311 * v → g j = S.1 2 j) → ∃ g', xE 106 51 [some (.ref a), some (.int (nI i))] [] (pM h a (m0 (sA S 2 g) f)) = some (none, pM h a (m0 (sI (sA S 2 g') 3 (nI (v + 1))) f)) ∧ (∀ j, j < 311 → g' (311 * v + j) = S.1 1 j) ∧ ∀ j, j < 311 * v → g' j = S.1 2 j := by
    intro v S hv h3 d
    induction d with
    | zero =>
      intro i g hi hg1 hg2
      have hi : i = 311 := by omega
      subst hi
      refine ⟨g, ?_, hg1, hg2⟩
      rw [xb106_51, if_neg (show ¬ nI 311 < (311 : Int32) by decide), a_i3, Option.bind_some, sA_2, h3, nI_1, a_p3, Option.bind_some]
    | succ d ih =>
      intro i g hi hg1 hg2
      obtain ⟨g', z1, z2⟩ := ih (i + 1) (upd g (311 * v + i) (S.1 1 i)) (by omega) (fun j hj => by
        by_cases e : j = i
        · subst e; rw [pk_us]
        · rw [pk_un (by omega)]; exact hg1 j (by omega)) (fun j hj => by rw [pk_un (by omega)]; exact hg2 j hj)
      refine ⟨g', ?_, z2⟩
      rw [xb106_51, if_pos (show nI i < (311 : Int32) from nI_lt (b := 311) (by omega) (by decide)), ml_f2, Option.bind_some, a_i3, Option.bind_some, sA_2, h3, ml_f1, Option.bind_some, a_r1 h a _ f (by omega), Option.bind_some, show (311 : Int32) = nI 311 from rfl, pk_mul, nI_add, a_w2 h a _ f (by omega), Option.bind_some, nI_1, sA_s, sA_sA, sA_n _ _ (show (1 : Nat) ≠ 2 by decide)]
      exact z1
  by_cases c : u = 5
  · subst c
    have shift : ∀ (d i : Nat) (g : Nat → Int32), i + d = 1244 → (∀ j, j < i → g j = S.1 2 (j + 311)) → (∀ j, i ≤ j → g j = S.1 2 j) → ∃ g', xE 106 10 [some (.ref a), some (.int (nI i))] [] (pM h a (m0 (sA S 2 g) f)) = xE 106 51 [some (.ref a), some (.int 0)] [] (pM h a (m0 (sI (sA S 2 g') 3 (nI 4)) f)) ∧ ∀ j, j < 1244 → g' j = S.1 2 (j + 311) := by
      intro d
      induction d with
      | zero =>
        intro i g hi hg1 hg2
        have hi : i = 1244 := by omega
        subst hi
        refine ⟨g, ?_, hg1⟩
        rw [xb106_10, if_neg (show ¬ nI 1244 < (1244 : Int32) by decide), a_i3, Option.bind_some, sA_2, h3, show nI 5 - 1 = nI 4 from nI_pred 4, a_p3, Option.bind_some]
      | succ d ih =>
        intro i g hi hg1 hg2
        obtain ⟨g', z1, z2⟩ := ih (i + 1) (upd g i (g (i + 311))) (by omega) (fun j hj => by
          by_cases e : j = i
          · subst e; rw [pk_us]; exact hg2 _ (by omega)
          · rw [pk_un e]; exact hg1 j (by omega)) (fun j hj => by rw [pk_un (by omega)]; exact hg2 j (by omega))
        refine ⟨g', ?_, z2⟩
        rw [xb106_10, if_pos (show nI i < (1244 : Int32) from nI_lt (b := 1244) (by omega) (by decide)), ml_f2, Option.bind_some, Option.bind_some, show nI i + 311 = nI (i + 311) from nI_add i 311, a_r2 h a _ f (by omega), Option.bind_some, a_w2 h a _ f (by omega), Option.bind_some, nI_1, sA_s, sA_sA]
        exact z1
    obtain ⟨g1, y1, y2⟩ := shift 1244 0 (S.1 2) (by decide) (fun j hj => absurd hj (Nat.not_lt_zero _)) (fun _ _ => rfl)
    rw [sA_id] at y1
    have hS4 : (sI (sA S 2 g1) 3 (nI 4)).2.1 3 = nI 4 := sI_s _ _ _
    obtain ⟨g2, z1, z2, z3⟩ := put 4 (sI (sA S 2 g1) 3 (nI 4)) (by decide) hS4 311 0 g1 (by decide) (fun j hj => absurd hj (Nat.not_lt_zero _)) (fun j hj => by rw [sI_1, sA_s])
    have e1 : sA (sI (sA S 2 g1) 3 (nI 4)) 2 g1 = sI (sA S 2 g1) 3 (nI 4) := by
      have := sA_id (sI (sA S 2 g1) 3 (nI 4)) 2
      rw [sI_1, sA_s] at this
      exact this
    have e2 : sI (sA (sI (sA S 2 g1) 3 (nI 4)) 2 g2) 3 (nI (4 + 1)) = sI (sA S 2 g2) 3 (nI 5) := by
      refine Prod.ext ?_ (Prod.ext ?_ rfl)
      · show va_up (va_up S.1 2 g1) 2 g2 = va_up S.1 2 g2
        rw [bx_uu]
      · show va_up (va_up S.2.1 3 (nI 4)) 3 (nI (4 + 1)) = va_up S.2.1 3 (nI 5)
        rw [bx_uu]
    rw [e1] at z1
    rw [e2] at z1
    refine ⟨g2, ?_, fun k i hk hi => ?_, fun i hi => ?_⟩
    · rw [xb106, a_i3, Option.bind_some, h3, if_pos (show nI 5 = (5 : Int32) from rfl)]
      exact (Eq.trans (show _ = _ from y1) (show _ = _ from z1))
    · rw [if_pos rfl] at hk ⊢
      rw [z3 _ (by omega), sI_1, sA_s, y2 _ (by omega), show 311 * k + i + 311 = 311 * (k + 1) + i by omega]
    · rw [if_pos rfl, z2 i hi, sI_1, sA_n _ _ (by decide)]
  · obtain ⟨g2, z1, z2, z3⟩ := put u S (by omega) h3 311 0 (S.1 2) (by decide) (fun j hj => absurd hj (Nat.not_lt_zero _)) (fun _ _ => rfl)
    rw [sA_id] at z1
    refine ⟨g2, ?_, fun k i hk hi => ?_, fun i hi => ?_⟩
    · rw [xb106, a_i3, Option.bind_some, h3, if_neg (show ¬ nI u = (5 : Int32) from nI_nel (n := 5) (by omega) (by decide) c), if_neg c]
      exact z1
    · rw [if_neg c] at hk ⊢
      exact z3 _ (by omega)
    · rw [if_neg c]
      exact z2 i hi
theorem m_refuses (S : mS) {k : Nat} (hk : k < 3) {r : Int32} (hr : (-r) - 2 = nI k) : xM 104 [.ref a, .int r] (pM h a (m0 S f)) = some (some (.int r), pM h a (m0 (sA S 4 (upd (S.1 4) k (S.1 4 k + 1))) f)) := by
  rw [xb104, ml_f4, Option.bind_some, hr, a_r4 h a S f hk, Option.bind_some, a_w4 h a S f hk, Option.bind_some]
end MUL
