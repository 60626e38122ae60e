/-! Damage: the list of damaged boxes as a function; the class -/
def DL (g : Nat → Int32) (D : List Int32) : Prop := ∀ i b, D[i]? = some b → g i = b
def dW (D : List Int32) : Nat → Nat → Int32 := fun i j => cwa (D.getD i 0) (D.getD j 0)
def dinn (w : Nat → Nat → Int32) (i : Nat) : Nat → Nat → Nat × Nat → Nat × Nat
  | 0, _, p => p
  | d + 1, j, p => dinn w i d (j + 1) (if w i j < w p.1 p.2 then (i, j) else p)
def dout (w : Nat → Nat → Int32) (n : Nat) : Nat → Nat → Nat × Nat → Nat × Nat
  | 0, _, p => p
  | d + 1, i, p => dout w n d (i + 1) (dinn w i (n - (i + 1)) (i + 1) p)
def dlp (D : List Int32) : Nat × Nat := dout (dW D) D.length D.length 0 (0, 1)
def dmrg (D : List Int32) (p : Nat × Nat) : List Int32 := (D.set p.1 (cun (D.getD p.1 0) (D.getD p.2 0))).eraseIdx p.2
def dmgf : Nat → List Int32 → List Int32
  | 0, D => D
  | k + 1, D => if D.length ≤ 1 then D else if 0 < dW D (dlp D).1 (dlp D).2 ∧ D.length ≤ 4 then D else dmgf k (dmrg D (dlp D))
def dadd (D : List Int32) (b : Int32) : List Int32 := if b = 0 ∨ b ∈ D then D else dmgf 4 (D ++ [b])
theorem dinn_lt {w : Nat → Nat → Int32} {i n : Nat} : ∀ (d j : Nat) (p : Nat × Nat), i < j → j + d ≤ n → p.1 < p.2 ∧ p.2 < n → (dinn w i d j p).1 < (dinn w i d j p).2 ∧ (dinn w i d j p).2 < n
  | 0, _, p, _, _, hp => hp
  | d + 1, j, p, hij, hj, hp => by
    unfold dinn
    refine dinn_lt d (j + 1) _ (by omega) (by omega) ?_
    by_cases c : w i j < w p.1 p.2
    · rw [if_pos c]; exact ⟨hij, by show j < n; omega⟩
    · rw [if_neg c]; exact hp
theorem dout_lt {w : Nat → Nat → Int32} {n : Nat} : ∀ (d i : Nat) (p : Nat × Nat), i + d ≤ n → p.1 < p.2 ∧ p.2 < n → (dout w n d i p).1 < (dout w n d i p).2 ∧ (dout w n d i p).2 < n
  | 0, _, p, _, hp => hp
  | d + 1, i, p, hi, hp => by
    unfold dout
    exact dout_lt d (i + 1) _ (by omega) (dinn_lt _ _ _ (by omega) (by omega) hp)
theorem dlp_lt {D : List Int32} (h : 1 < D.length) : (dlp D).1 < (dlp D).2 ∧ (dlp D).2 < D.length := dout_lt _ _ _ (by omega) ⟨by show (0 : Nat) < 1; decide, h⟩
theorem dmrg_len {D : List Int32} {p : Nat × Nat} (hp : p.2 < D.length) : (dmrg D p).length + 1 = D.length := by
  unfold dmrg
  rw [List.length_eraseIdx_of_lt (by rw [List.length_set]; exact hp), List.length_set]
  omega
theorem dmgf_len : ∀ (k : Nat) (D : List Int32), D.length ≤ k + 1 → (dmgf k D).length ≤ 4
  | 0, D, h => by unfold dmgf; omega
  | k + 1, D, h => by
    unfold dmgf
    by_cases c1 : D.length ≤ 1
    · rw [if_pos c1]; omega
    · rw [if_neg c1]
      by_cases c2 : 0 < dW D (dlp D).1 (dlp D).2 ∧ D.length ≤ 4
      · rw [if_pos c2]; exact c2.2
      · rw [if_neg c2]
        have := dmrg_len (dlp_lt (D := D) (by omega)).2
        exact dmgf_len k _ (by omega)
theorem getD_memI {D : List Int32} {i : Nat} (hi : i < D.length) : D.getD i 0 ∈ D := by
  rw [List.getD_eq_getElem?_getD, List.getElem?_eq_getElem hi]
  exact List.getElem_mem hi
theorem dmrg_ok {D : List Int32} {p : Nat × Nat} (h : ∀ b, b ∈ D → bok b) (h1 : p.1 < D.length) (h2 : p.2 < D.length) : ∀ b, b ∈ dmrg D p → bok b := fun b hb => by
  have := List.mem_of_mem_eraseIdx hb
  rcases List.mem_or_eq_of_mem_set this with q | q
  · exact h b q
  · rw [q]; exact bok_un (h _ (getD_memI h1)) (h _ (getD_memI h2))
theorem dmgf_ok : ∀ (k : Nat) (D : List Int32), (∀ b, b ∈ D → bok b) → ∀ b, b ∈ dmgf k D → bok b
  | 0, D, h => h
  | k + 1, D, h => by
    unfold dmgf
    by_cases c1 : D.length ≤ 1
    · rw [if_pos c1]; exact h
    · rw [if_neg c1]
      by_cases c2 : 0 < dW D (dlp D).1 (dlp D).2 ∧ D.length ≤ 4
      · rw [if_pos c2]; exact h
      · rw [if_neg c2]
        have hl := dlp_lt (D := D) (by omega)
        exact dmgf_ok k _ (dmrg_ok h (by omega) hl.2)
theorem dadd_ok {D : List Int32} {b : Int32} (hD : D.length ≤ 4) (h : ∀ x, x ∈ D → bok x) (hb : bok0 b) : (dadd D b).length ≤ 4 ∧ ∀ x, x ∈ dadd D b → bok x := by
  unfold dadd
  by_cases c : b = 0 ∨ b ∈ D
  · rw [if_pos c]; exact ⟨hD, h⟩
  · rw [if_neg c]
    have hb' : bok b := hb.resolve_left (fun q => c (Or.inl q))
    refine ⟨dmgf_len 4 _ (by rw [List.length_append, List.length_singleton]; omega), dmgf_ok 4 _ (fun x hx => ?_)⟩
    rcases List.mem_append.mp hx with q | q
    · exact h x q
    · rw [List.mem_singleton.mp q]; exact hb'
theorem DL_get {g : Nat → Int32} {D : List Int32} (h : DL g D) {i : Nat} (hi : i < D.length) : g i = D.getD i 0 := h i _ (by rw [List.getD_eq_getElem?_getD, List.getElem?_eq_getElem hi]; rfl)
theorem DL_snoc {g : Nat → Int32} {D : List Int32} (h : DL g D) (b : Int32) : DL (upd g D.length b) (D ++ [b]) := fun i x q => by
  by_cases hi : i < D.length
  · rw [pk_un (by omega)]
    rw [List.getElem?_append_left hi] at q
    exact h i x q
  · have hl := (List.getElem?_eq_some_iff.mp q).1
    rw [List.length_append, List.length_singleton] at hl
    have hi : i = D.length := by omega
    subst hi
    rw [pk_us]
    rw [List.getElem?_append_right (Nat.le_refl _), Nat.sub_self] at q
    exact Option.some.inj q
theorem DL_set {g : Nat → Int32} {D : List Int32} (h : DL g D) {k : Nat} (v : Int32) : DL (upd g k v) (D.set k v) := fun i x q => by
  by_cases hi : i = k
  · subst hi
    rw [pk_us]
    have hl := (List.getElem?_eq_some_iff.mp q).1
    rw [List.length_set] at hl
    rw [List.getElem?_set_self hl] at q
    exact Option.some.inj q
  · rw [pk_un hi]
    rw [List.getElem?_set_ne (fun q => hi q.symm)] at q
    exact h i x q
theorem DL_erase {g g' : Nat → Int32} {E : List Int32} {p : Nat} (hE : DL g E) (h1 : ∀ i, i < p → g' i = g i) (h2 : ∀ i, p ≤ i → i + 1 < E.length → g' i = g (i + 1)) : DL g' (E.eraseIdx p) := fun i x q => by
  rw [List.getElem?_eraseIdx] at q
  by_cases c : i < p
  · rw [if_pos c] at q
    rw [h1 i c]; exact hE i x q
  · rw [if_neg c] at q
    have hl := (List.getElem?_eq_some_iff.mp q).1
    rw [h2 i (by omega) (by omega)]; exact hE (i + 1) x q
/-- the damage alone has changed -/
def KD (S S' : sS) : Prop := (∀ j, j ≠ 8 → S'.1 j = S.1 j) ∧ ∀ j, j ≠ 2 → S'.2 j = S.2 j
theorem KD_rf (S : sS) : KD S S := ⟨fun _ _ => rfl, fun _ _ => rfl⟩
theorem KD_tr {S S' S'' : sS} (h1 : KD S S') (h2 : KD S' S'') : KD S S'' := ⟨fun k a => (h2.1 k a).trans (h1.1 k a), fun k a => (h2.2 k a).trans (h1.2 k a)⟩
section CDM
variable {h : xH} {a : Nat}
theorem c_contains {S : sS} {D : List Int32} (hn : S.2 2 = nI D.length) (hD : DL (S.1 8) D) (hl : D.length ≤ 5) (b : Int32) : xM 20 [.ref (a + 10), .int b] (pS h a S) = some (some (.int (if b ∈ D then 1 else 0)), pS h a S) := by
  have loop : ∀ (d i : Nat), i + d = D.length → xE 20 2 [some (.ref (a + 10)), some (.int b), some (.int (nI i))] [] (pS h a S) = some (some (.int (if b ∈ D.drop i then 1 else 0)), pS h a S) := by
    intro d
    induction d with
    | zero =>
      intro i hi
      rw [xb20_2, sl_d1, Option.bind_some, hn, if_neg (nI_nlt (by omega) (by omega)), List.drop_eq_nil_of_le (by omega), if_neg List.not_mem_nil]
    | succ d ih =>
      intro i hi
      have hlt : i < D.length := by omega
      have hv : S.1 8 i = D[i] := hD i _ (List.getElem?_eq_getElem hlt)
      rw [xb20_2, sl_d1, Option.bind_some, hn, if_pos (nI_lt hlt (by omega)), sl_d0, Option.bind_some, c_r8 h a S (by omega), Option.bind_some, hv, List.drop_eq_getElem_cons hlt, nI_1]
      by_cases c : D[i] = b
      · rw [if_pos c, if_pos (by rw [← c]; exact List.mem_cons_self)]
      · rw [if_neg c, ih (i + 1) (by omega)]
        by_cases c2 : b ∈ D.drop (i + 1)
        · rw [if_pos c2, if_pos (List.mem_cons_of_mem _ c2)]
        · rw [if_neg c2, if_neg (fun q => (List.mem_cons.mp q).elim (fun z => c z.symm) c2)]
  rw [xb20]
  have := loop D.length 0 (by omega)
  rw [List.drop_zero] at this
  exact this
theorem c_merge {S : sS} {D : List Int32} (hn : S.2 2 = nI D.length) (hD : DL (S.1 8) D) (hl : D.length ≤ 5) {p : Nat × Nat} (h1 : p.1 < D.length) (h2 : p.2 < D.length) : ∃ S', xM 21 [.ref (a + 10), .int (nI p.1), .int (nI p.2)] (pS h a S) = some (none, pS h a S') ∧ KD S S' ∧ S'.2 2 = nI (dmrg D p).length ∧ DL (S'.1 8) (dmrg D p) := by
  have v1 := DL_get hD h1
  have v2 := DL_get hD h2
  have hE := DL_set hD (k := p.1) (cun (D.getD p.1 0) (D.getD p.2 0))
  have hml := dmrg_len h2
  generalize hg0 : upd (S.1 8) p.1 (cun (D.getD p.1 0) (D.getD p.2 0)) = g0 at hE
  have loop : ∀ (d k : Nat) (g : Nat → Int32), k + 1 + d = D.length → p.2 ≤ k → (∀ i, i < p.2 → g i = g0 i) → (∀ i, p.2 ≤ i → i < k → g i = g0 (i + 1)) → (∀ i, k ≤ i → g i = g0 i) → ∃ g', xE 21 23 [some (.ref (a + 10)), some (.int (nI p.1)), some (.int (nI p.2)), some (.int (nI k))] [] (pS h a (sB S 8 g)) = some (none, pS h a (sJ (sB S 8 g') 2 (nI (D.length - 1)))) ∧ (∀ i, i < p.2 → g' i = g0 i) ∧ (∀ i, p.2 ≤ i → i + 1 < D.length → g' i = g0 (i + 1)) := by
    intro d
    induction d with
    | zero =>
      intro k g hk hpk i1 i2 i3
      refine ⟨g, ?_, i1, fun i q1 q2 => i2 i q1 (by omega)⟩
      rw [xb21_23, sl_d1, Option.bind_some, sB_2, hn, nI_1, if_neg (nI_nlt (by omega) (by omega)), Option.bind_some, show nI D.length - 1 = nI (D.length - 1) by rw [show nI D.length = nI (D.length - 1 + 1) by congr 1; omega, nI_pred], sl_pd1, Option.bind_some]
      rfl
    | succ d ih =>
      intro k g hk hpk i1 i2 i3
      obtain ⟨g', z1, z2⟩ := ih (k + 1) (upd g k (g (k + 1))) (by omega) (by omega) (fun i hi => by rw [pk_un (by omega)]; exact i1 i hi)
        (fun i q1 q2 => by
          by_cases e : i = k
          · subst e; rw [pk_us]; exact i3 _ (by omega)
          · rw [pk_un e]; exact i2 i q1 (by omega))
        (fun i hi => by rw [pk_un (by omega)]; exact i3 i (by omega))
      refine ⟨g', ?_, z2⟩
      rw [← z1]
      rw [xb21_23, sl_d1, Option.bind_some, sB_2, hn, nI_1, if_pos (nI_lt (by omega) (by omega)), sl_d0, Option.bind_some, Option.bind_some, c_r8 h a _ (by omega), Option.bind_some, sB_s, c_w8 h a _ (by omega), Option.bind_some, sB_s, sB_sB]
  obtain ⟨g', z1, z2, z3⟩ := loop (D.length - (p.2 + 1)) p.2 g0 (by omega) (Nat.le_refl _) (fun _ _ => rfl) (fun i q1 q2 => by omega) (fun _ _ => rfl)
  have hDm := DL_erase (g' := g') (p := p.2) hE z2 (fun i q1 q2 => z3 i q1 (by rw [List.length_set] at q2; exact q2))
  refine ⟨sJ (sB S 8 g') 2 (nI (D.length - 1)), ?_, ⟨fun j hj => by rw [sJ_1, sB_n _ _ hj], fun j hj => by rw [sJ_n _ _ hj]; rfl⟩, by rw [sJ_s]; congr 1; omega, by rw [sJ_1, sB_s]; exact hDm⟩
  rw [xb21]
  simp only [sl_d0, Option.bind_some, c_r8 h a S (show p.1 < 5 by omega), c_r8 h a S (show p.2 < 5 by omega), v1, v2, c_union, xcI_some, c_w8 h a S (show p.1 < 5 by omega), hg0]
  exact z1
/-- the pair that wastes least -/
theorem c_least {S : sS} {D : List Int32} (hn : S.2 2 = nI D.length) (hD : DL (S.1 8) D) (hl : D.length ≤ 5) (b st : Int32) : ∀ (d i : Nat) (p : Nat × Nat) (l7 l8 : Option Value), i + d = D.length → ∃ l7' l8', xE 18 81 [some (.ref (a + 10)), some (.int b), some (.int st), some (.int (nI p.1)), some (.int (nI p.2)), some (.int (dW D p.1 p.2)), some (.int (nI i)), l7, l8] [] (pS h a S) = xE 18 81 [some (.ref (a + 10)), some (.int b), some (.int st), some (.int (nI (dout (dW D) D.length d i p).1)), some (.int (nI (dout (dW D) D.length d i p).2)), some (.int (dW D (dout (dW D) D.length d i p).1 (dout (dW D) D.length d i p).2)), some (.int (nI D.length)), l7', l8'] [] (pS h a S) := by
  have inner : ∀ (i : Nat), i < D.length → ∀ (d j : Nat) (p : Nat × Nat) (l8 : Option Value), j + d = D.length → ∃ l7' l8', xE 18 96 [some (.ref (a + 10)), some (.int b), some (.int st), some (.int (nI p.1)), some (.int (nI p.2)), some (.int (dW D p.1 p.2)), some (.int (nI i)), some (.int (nI j)), l8] [] (pS h a S) = xE 18 81 [some (.ref (a + 10)), some (.int b), some (.int st), some (.int (nI (dinn (dW D) i d j p).1)), some (.int (nI (dinn (dW D) i d j p).2)), some (.int (dW D (dinn (dW D) i d j p).1 (dinn (dW D) i d j p).2)), some (.int (nI (i + 1))), l7', l8'] [] (pS h a S) := by
    intro i hi d
    induction d with
    | zero =>
      intro j p l8 hj
      refine ⟨some (.int (nI j)), l8, ?_⟩
      rw [xb18_96, sl_d1, Option.bind_some, hn, if_neg (nI_nlt (by omega) (by omega)), nI_1]
      rfl
    | succ d ih =>
      intro j p l8 hj
      have vi := DL_get hD hi
      have vj := DL_get hD (show j < D.length by omega)
      obtain ⟨l7', l8', z⟩ := ih (j + 1) (if dW D i j < dW D p.1 p.2 then (i, j) else p) (some (.int (dW D i j))) (by omega)
      refine ⟨l7', l8', ?_⟩
      unfold dinn
      rw [← z]
      rw [xb18_96, sl_d1, Option.bind_some, hn, if_pos (nI_lt (by omega) (by omega))]
      simp only [sl_d0, Option.bind_some, c_r8 h a S (show i < 5 by omega), c_r8 h a S (show j < 5 by omega), vi, vj, c_waste, xcI_some, nI_1]
      rw [show cwa (D.getD i 0) (D.getD j 0) = dW D i j from rfl]
      by_cases c : dW D i j < dW D p.1 p.2
      · rw [if_pos c, if_pos c]
      · rw [if_neg c, if_neg c]
  intro d
  induction d with
  | zero =>
    intro i p l7 l8 hi
    have hi : i = D.length := by omega
    subst hi
    exact ⟨l7, l8, rfl⟩
  | succ d ih =>
    intro i p l7 l8 hi
    obtain ⟨a1, a2, z⟩ := inner i (by omega) (D.length - (i + 1)) (i + 1) p l8 (by omega)
    obtain ⟨b1, b2, y⟩ := ih (i + 1) (dinn (dW D) i (D.length - (i + 1)) (i + 1) p) a1 a2 (by omega)
    refine ⟨b1, b2, ?_⟩
    unfold dout
    rw [← y, ← z]
    rw [xb18_81, sl_d1, Option.bind_some, hn, if_pos (nI_lt (by omega) (by omega)), nI_1]
theorem c_merges (b : Int32) : ∀ (k st : Nat) {S : sS} {D : List Int32} (l3 l4 l5 l6 l7 l8 : Option Value), st + k = 4 → S.2 2 = nI D.length → DL (S.1 8) D → D.length ≤ 5 → ∃ S', xE 18 43 [some (.ref (a + 10)), some (.int b), some (.int (nI st)), l3, l4, l5, l6, l7, l8] [] (pS h a S) = some (none, pS h a S') ∧ KD S S' ∧ S'.2 2 = nI (dmgf k D).length ∧ DL (S'.1 8) (dmgf k D) := by
  intro k
  induction k with
  | zero =>
    intro st S D l3 l4 l5 l6 l7 l8 hst hn hD hl
    have hst : st = 4 := by omega
    subst hst
    refine ⟨S, ?_, KD_rf S, hn, hD⟩
    rw [xb18_43, if_neg (show ¬ nI 4 < (4 : Int32) by decide)]
  | succ k ih =>
    intro st S D l3 l4 l5 l6 l7 l8 hst hn hD hl
    rw [xb18_43, if_pos (show nI st < (4 : Int32) from nI_lt (b := 4) (by omega) (by decide)), sl_d1, Option.bind_some, hn]
    unfold dmgf
    by_cases c1 : D.length ≤ 1
    · rw [if_neg (show ¬ (1 : Int32) < nI D.length from nI_nlt (a := 1) (by omega) (by decide)), if_pos c1]
      exact ⟨S, rfl, KD_rf S, hn, hD⟩
    · rw [if_pos (show (1 : Int32) < nI D.length from nI_lt (a := 1) (by omega) (by omega)), if_neg c1]
      obtain ⟨l7', l8', z⟩ := c_least (h := h) (a := a) hn hD hl b (nI st) D.length 0 (0, 1) l7 l8 (by omega)
      have hp := dlp_lt (D := D) (by omega)
      have hlp : dout (dW D) D.length D.length 0 (0, 1) = dlp D := rfl
      rw [hlp] at z
      have r0 : xri (pS h a S) 0 (a + 11) 0 = some (D.getD 0 0) := by
        have := c_r8 h a S (i := 0) (by decide)
        rw [DL_get hD (show 0 < D.length by omega)] at this
        exact this
      have r1 : xri (pS h a S) 0 (a + 11) 1 = some (D.getD 1 0) := by
        have := c_r8 h a S (i := 1) (by decide)
        rw [DL_get hD (show 1 < D.length by omega)] at this
        exact this
      simp only [sl_d0, Option.bind_some, r0, r1, c_waste, xcI_some]
      have z' : xE 18 81 [some (.ref (a + 10)), some (.int b), some (.int (nI st)), some (.int 0), some (.int 1), some (.int (cwa (D.getD 0 0) (D.getD 1 0))), some (.int 0), l7, l8] [] (pS h a S) = xE 18 81 [some (.ref (a + 10)), some (.int b), some (.int (nI st)), some (.int (nI (dlp D).1)), some (.int (nI (dlp D).2)), some (.int (dW D (dlp D).1 (dlp D).2)), some (.int (nI D.length)), l7', l8'] [] (pS h a S) := z
      rw [z', xb18_81, sl_d1, Option.bind_some, hn, if_neg (nI_nlt (Nat.le_refl _) (by omega)), nI_1]
      generalize dlp D = p at hp ⊢
      obtain ⟨S1, m1, m2, m3, m4⟩ := c_merge (h := h) (a := a) hn hD hl (p := p) (by omega) hp.2
      have hml := dmrg_len hp.2
      obtain ⟨S2, y1, y2, y3, y4⟩ := ih (st + 1) (some (.int (nI p.1))) (some (.int (nI p.2))) (some (.int (dW D p.1 p.2))) (some (.int (nI D.length))) l7' l8' (by omega) m3 m4 (by omega)
      have hgo : xgu (pS h a S) (a + 10) 0 (xcV (xM 21 [.ref (a + 10), .int (nI p.1), .int (nI p.2)] (pS h a S)) fun h3 => xE 18 43 [some (.ref (a + 10)), some (.int b), some (.int (nI (st + 1))), some (.int (nI p.1)), some (.int (nI p.2)), some (.int (dW D p.1 p.2)), some (.int (nI D.length)), l7', l8'] [] h3) = some (none, pS h a S2) := by
        rw [sl_gd, m1, xcV_some]; exact y1
      by_cases c2 : 0 < dW D p.1 p.2
      · rw [if_pos c2, Option.bind_some]
        by_cases c3 : D.length ≤ 4
        · rw [if_neg (show ¬ (4 : Int32) < nI D.length from nI_nlt (a := 4) (by omega) (by decide)), if_pos ⟨c2, c3⟩]
          exact ⟨S, rfl, KD_rf S, hn, hD⟩
        · rw [if_pos (show (4 : Int32) < nI D.length from nI_lt (a := 4) (by omega) (by omega)), if_neg (fun q => c3 q.2)]
          exact ⟨S2, hgo, KD_tr m2 y2, y3, y4⟩
      · rw [if_neg c2, if_neg (fun q => c2 q.1)]
        exact ⟨S2, hgo, KD_tr m2 y2, y3, y4⟩
theorem c_add {S : sS} {D : List Int32} (hn : S.2 2 = nI D.length) (hD : DL (S.1 8) D) (hl : D.length ≤ 4) (b : Int32) : ∃ S', xM 18 [.ref (a + 10), .int b] (pS h a S) = some (none, pS h a S') ∧ KD S S' ∧ S'.2 2 = nI (dadd D b).length ∧ DL (S'.1 8) (dadd D b) := by
  rw [xb18]
  unfold dadd
  by_cases c1 : b = 0
  · rw [if_pos c1, if_pos (Or.inl c1)]
    exact ⟨S, rfl, KD_rf S, hn, hD⟩
  · rw [if_neg c1, sl_gd, c_contains hn hD (by omega), xcI_some]
    by_cases c2 : b ∈ D
    · rw [if_pos c2, if_neg (show ¬ (1 : Int32) = 0 by decide), if_pos (Or.inr c2)]
      exact ⟨S, rfl, KD_rf S, hn, hD⟩
    · rw [if_neg c2, if_pos rfl, if_neg (fun q => q.elim c1 c2)]
      have hsJ : ∀ (S : sS) (v : Int32), xpf (pS h a S) (a + 10) 0 1 (.int v) = some (pS h a (sJ S 2 v)) := fun S v => sl_pd1 ..
      obtain ⟨S', y1, y2, y3, y4⟩ := c_merges (h := h) (a := a) b 4 0 (S := sJ (sB S 8 (upd (S.1 8) D.length b)) 2 (nI (D.length + 1))) (D := D ++ [b]) none none none none none none (by decide) (by rw [sJ_s, List.length_append]; rfl) (by rw [sJ_1, sB_s]; exact DL_snoc hD b) (by rw [List.length_append]; show D.length + 1 ≤ 5; omega)
      refine ⟨S', ?_, KD_tr ⟨fun j hj => by rw [sJ_1, sB_n _ _ hj], fun j hj => by rw [sJ_n _ _ hj]; rfl⟩ y2, y3, y4⟩
      rw [sl_d1, Option.bind_some, hn, if_neg (show ¬ (4 : Int32) < nI D.length from nI_nlt (a := 4) (by omega) (by decide)), sl_d0, Option.bind_some, Option.bind_some, c_w8 h a S (by omega), Option.bind_some, sl_d1, Option.bind_some, sB_2, hn, nI_1, hsJ, Option.bind_some]
      exact y1
end CDM
