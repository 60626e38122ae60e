/-! Damage: the reference -/
def FD (f f' : Nat → Int32) : Prop := ∀ i, i < 305 → f' i = f i
theorem FD_rf (f : Nat → Int32) : FD f f := fun _ _ => rfl
theorem FD_tr {f g k : Nat → Int32} (h1 : FD f g) (h2 : FD g k) : FD f k := fun i hi => (h2 i hi).trans (h1 i hi)
/-- the row's damage is the list -/
def MD (f : Nat → Int32) (D : List Int32) : Prop := f 305 = nI D.length ∧ DL (fun i => f (306 + i)) D
theorem upd306 (f : Nat → Int32) (k : Nat) (v : Int32) : (fun i => upd f (306 + k) v (306 + i)) = upd (fun i => f (306 + i)) k v := by
  funext i
  by_cases e : i = k
  · subst e; rw [pk_us, pk_us]
  · rw [pk_un e, pk_un (by omega)]
section MDM
variable {h : xH} {a : Nat} {S : mS}
theorem m_r305 (f : Nat → Int32) : xri (pM h a (m0 S f)) 0 (a + 1) 305 = some (f 305) := m_r0 h a S f (i := 305) (by decide)
theorem m_w305 (f : Nat → Int32) (v : Int32) : xwi (pM h a (m0 S f)) 0 (a + 1) 305 v = some (pM h a (m0 S (upd f 305 v))) := m_w0 h a S f (i := 305) (by decide) v
theorem m_w306 (f : Nat → Int32) {i : Nat} (hi : i < 5) (v : Int32) : xwi (pM h a (m0 S f)) 0 (a + 1) (306 + nI i) v = some (pM h a (m0 S (upd f (306 + i) v))) := by
  rw [show (306 : Int32) = nI 306 from rfl, nI_add, m_w0 h a S f (by omega)]
theorem m_dbox (f : Nat → Int32) {i : Nat} (hi : i < 5) : xM 148 [.ref a, .int (nI i)] (pM h a (m0 S f)) = some (some (.int (f (306 + i))), pM h a (m0 S f)) := by
  rw [xb148, ml_f0, Option.bind_some, show (306 : Int32) = nI 306 from rfl, nI_add, m_r0 h a S f (by omega), Option.bind_some]
theorem m_least {f : Nat → Int32} {D : List Int32} (hM : MD f D) (hok : ∀ b, b ∈ D → bok b) (hl : D.length ≤ 5) (l1 : Int32) : ∀ (d i : Nat) (p : Nat × Nat) (l7 l8 : Option Value), p.1 < 5 → i + d = D.length → ∃ l7' l8', xE 149 26 [some (.ref a), some (.int l1), some (.int (nI D.length)), some (.int (nI p.1)), some (.int (nI p.2)), some (.int (dW D p.1 p.2)), some (.int (nI i)), l7, l8] [] (pM h a (m0 S f)) = xE 149 26 [some (.ref a), some (.int l1), some (.int (nI D.length)), some (.int (nI (dout (dW D) D.length d i p).1)), some (.int (nI (dout (dW D) D.length d i p).2)), some (.int (dW D (dout (dW D) D.length d i p).1 (dout (dW D) D.length d i p).2)), some (.int (nI D.length)), l7', l8'] [] (pM h a (m0 S f)) := by
  have inner : ∀ (i : Nat), i < D.length → ∀ (d j : Nat) (p : Nat × Nat) (l8 : Option Value), p.1 < 5 → j + d = D.length → (dinn (dW D) i d j p).1 < 5 ∧ ∃ l7' l8', xE 149 38 [some (.ref a), some (.int l1), some (.int (nI D.length)), some (.int (nI p.1)), some (.int (nI p.2)), some (.int (dW D p.1 p.2)), some (.int (nI i)), some (.int (nI j)), l8] [] (pM h a (m0 S f)) = xE 149 26 [some (.ref a), some (.int l1), some (.int (nI D.length)), some (.int (nI (dinn (dW D) i d j p).1)), some (.int (nI (dinn (dW D) i d j p).2)), some (.int (dW D (dinn (dW D) i d j p).1 (dinn (dW D) i d j p).2)), some (.int (nI (i + 1))), l7', l8'] [] (pM h a (m0 S f)) := by
    intro i hi d
    induction d with
    | zero =>
      intro j p l8 hp hj
      refine ⟨hp, some (.int (nI j)), l8, ?_⟩
      rw [xb149_38, if_neg (nI_nlt (by omega) (by omega)), nI_1]
      rfl
    | succ d ih =>
      intro j p l8 hp hj
      have vi : f (306 + i) = D.getD i 0 := DL_get hM.2 hi
      have vj : f (306 + j) = D.getD j 0 := DL_get hM.2 (show j < D.length by omega)
      have oi := hok _ (getD_memI hi)
      have oj := hok _ (getD_memI (show j < D.length by omega))
      have hw := m_waste (Or.inr oi) (Or.inr oj) (pM h a (m0 S f))
      rw [e2m_ok oi, e2m_ok oj] at hw
      obtain ⟨q, l7', l8', z⟩ := ih (j + 1) (if dW D i j < dW D p.1 p.2 then (i, j) else p) (some (.int (dW D i j))) (by
        by_cases c : dW D i j < dW D p.1 p.2
        · rw [if_pos c]; show i < 5; omega
        · rw [if_neg c]; exact hp) (by omega)
      refine ⟨by unfold dinn; exact q, l7', l8', ?_⟩
      unfold dinn
      rw [← z]
      rw [xb149_38, if_pos (nI_lt (by omega) (by omega)), ml_gu, m_dbox f (by omega), xcI_some, vi, ml_gu, m_dbox f (by omega), xcI_some, vj, hw, xcI_some, if_neg (nI_m1 p.1 (by omega)), nI_1]
      rw [show cwa (D.getD i 0) (D.getD j 0) = dW D i j from rfl]
      by_cases c : dW D i j < dW D p.1 p.2
      · rw [if_pos c, if_pos c]
      · rw [if_neg c, if_neg c]
  intro d
  induction d with
  | zero =>
    intro i p l7 l8 hp hi
    have hi : i = D.length := by omega
    subst hi
    exact ⟨l7, l8, rfl⟩
  | succ d ih =>
    intro i p l7 l8 hp hi
    obtain ⟨hp', a1, a2, z⟩ := inner i (by omega) (D.length - (i + 1)) (i + 1) p l8 hp (by omega)
    obtain ⟨b1, b2, y⟩ := ih (i + 1) (dinn (dW D) i (D.length - (i + 1)) (i + 1) p) a1 a2 hp' (by omega)
    refine ⟨b1, b2, ?_⟩
    unfold dout
    rw [← y, ← z]
    rw [xb149_26, if_pos (nI_lt (by omega) (by omega)), nI_1]
theorem m_mergeL {f0 : Nat → Int32} {D : List Int32} (hl : D.length ≤ 5) {p : Nat × Nat} (h2 : p.2 < D.length) (l1 l3 l4 l5 : Int32) : ∀ (d k : Nat) (f : Nat → Int32) (l7 l8 : Option Value), k + 1 + d = D.length → p.2 ≤ k → (∀ i, i < 306 + p.2 → f i = f0 i) → (∀ i, p.2 ≤ i → i < k → f (306 + i) = f0 (306 + (i + 1))) → (∀ i, k ≤ i → f (306 + i) = f0 (306 + i)) → ∃ f' l6' , xE 149 149 [some (.ref a), some (.int l1), some (.int (nI D.length)), some (.int l3), some (.int l4), some (.int l5), some (.int (nI k)), l7, l8] [] (pM h a (m0 S f)) = xE 149 2 [some (.ref a), some (.int l1), some (.int (nI D.length)), some (.int l3), some (.int l4), some (.int l5), some (.int l6'), l7, l8] [] (pM h a (m0 S (upd f' 305 (nI (D.length - 1))))) ∧ (∀ i, i < 306 + p.2 → f' i = f0 i) ∧ (∀ i, p.2 ≤ i → i + 1 < D.length → f' (306 + i) = f0 (306 + (i + 1))) := by
  have hm1 : nI D.length - 1 = nI (D.length - 1) := by rw [show nI D.length = nI (D.length - 1 + 1) by congr 1; omega, nI_pred]
  intro d
  induction d with
  | zero =>
    intro k f l7 l8 hk hpk i1 i2 i3
    refine ⟨f, nI k, ?_, i1, fun i q1 q2 => i2 i q1 (by omega)⟩
    rw [xb149_149, hm1, if_neg (nI_nlt (by omega) (by omega)), ml_f0, Option.bind_some, m_w305, Option.bind_some]
  | succ d ih =>
    intro k f l7 l8 hk hpk i1 i2 i3
    obtain ⟨f', l6', z1, z2⟩ := ih (k + 1) (upd f (306 + k) (f (306 + (k + 1)))) l7 l8 (by omega) (by omega) (fun i hi => by rw [pk_un (by omega)]; exact i1 i hi)
      (fun i q1 q2 => by
        by_cases e : i = k
        · subst e; rw [pk_us]; exact i3 _ (by omega)
        · rw [pk_un (by omega)]; exact i2 i q1 (by omega))
      (fun i hi => by rw [pk_un (by omega)]; exact i3 i (by omega))
    refine ⟨f', l6', ?_, z2⟩
    rw [← z1]
    rw [xb149_149, hm1, if_pos (nI_lt (by omega) (by omega)), ml_f0, Option.bind_some, ml_gu, nI_1, m_dbox f (by omega), xcI_some, m_w306 f (by omega), Option.bind_some]
theorem m_merges : ∀ (k : Nat) {f : Nat → Int32} {D : List Int32} (l2 l3 l4 l5 l6 l7 l8 : Option Value), MD f D → (∀ b, b ∈ D → bok b) → D.length ≤ 5 → 1 ≤ D.length → D.length ≤ k + 1 → ∃ f', xE 149 2 [some (.ref a), some (.int 1), l2, l3, l4, l5, l6, l7, l8] [] (pM h a (m0 S f)) = some (none, pM h a (m0 S f')) ∧ FD f f' ∧ MD f' (dmgf k D) := by
  intro k
  have one : ∀ {f : Nat → Int32} {D : List Int32} (l2 l3 l4 l5 l6 l7 l8 : Option Value), MD f D → D.length = 1 → xE 149 2 [some (.ref a), some (.int 1), l2, l3, l4, l5, l6, l7, l8] [] (pM h a (m0 S f)) = some (none, pM h a (m0 S f)) := by
    intro f D l2 l3 l4 l5 l6 l7 l8 hM hl
    rw [xb149_2, if_neg (show ¬ (1 : Int32) = 0 by decide), ml_f0, Option.bind_some, m_r305, Option.bind_some, hM.1, hl]
    rw [xb149_26, if_pos (show (0 : Int32) < nI 1 by decide), xb149_38, if_neg (show ¬ (0 : Int32) + 1 < nI 1 by decide), xb149_26, if_neg (show ¬ (0 : Int32) + 1 < nI 1 by decide), if_pos rfl, xb149_115, if_pos rfl, xb149_2, if_pos rfl]
  induction k with
  | zero =>
    intro f D l2 l3 l4 l5 l6 l7 l8 hM hok hl h1 hk
    exact ⟨f, one _ _ _ _ _ _ _ hM (by omega), FD_rf f, hM⟩
  | succ k ih =>
    intro f D l2 l3 l4 l5 l6 l7 l8 hM hok hl h1 hk
    unfold dmgf
    by_cases c1 : D.length ≤ 1
    · rw [if_pos c1]
      exact ⟨f, one _ _ _ _ _ _ _ hM (by omega), FD_rf f, hM⟩
    · rw [if_neg c1]
      have v0 : f (306 + 0) = D.getD 0 0 := DL_get hM.2 (by omega)
      have v1 : f (306 + 1) = D.getD 1 0 := DL_get hM.2 (by omega)
      have o0 := hok _ (getD_memI (show 0 < D.length by omega))
      have o1 := hok _ (getD_memI (show 1 < D.length by omega))
      have hw := m_waste (Or.inr o0) (Or.inr o1) (pM h a (m0 S f))
      rw [e2m_ok o0, e2m_ok o1] at hw
      have d0 : xM 148 [.ref a, .int 0] (pM h a (m0 S f)) = some (some (.int (D.getD 0 0)), pM h a (m0 S f)) := by
        have := m_dbox (h := h) (a := a) (S := S) f (i := 0) (by decide)
        rw [v0] at this
        exact this
      have d1 : xM 148 [.ref a, .int (0 + 1)] (pM h a (m0 S f)) = some (some (.int (D.getD 1 0)), pM h a (m0 S f)) := by
        have := m_dbox (h := h) (a := a) (S := S) f (i := 1) (by decide)
        rw [v1] at this
        exact this
      have d1' : xM 148 [.ref a, .int (nI 1)] (pM h a (m0 S f)) = some (some (.int (D.getD 1 0)), pM h a (m0 S f)) := d1
      have d0' : xM 148 [.ref a, .int (nI 0)] (pM h a (m0 S f)) = some (some (.int (D.getD 0 0)), pM h a (m0 S f)) := d0
      -- the first pair
      have first : xE 149 26 [some (.ref a), some (.int 1), some (.int (nI D.length)), some (.int (-1)), some (.int (-1)), some (.int 0), some (.int 0), l7, l8] [] (pM h a (m0 S f)) = xE 149 26 [some (.ref a), some (.int 1), some (.int (nI D.length)), some (.int (nI 0)), some (.int (nI 1)), some (.int (dW D 0 1)), some (.int (nI 0)), l7, l8] [] (pM h a (m0 S f)) := by
        have hlt1 : (0 : Int32) + 1 < nI D.length := nI_lt (a := 1) (by omega) (by omega)
        have hlt1' : nI 0 + 1 < nI D.length := hlt1
        have irr : ¬ cwa (D.getD 0 0) (D.getD 1 0) < dW D 0 1 := fun q => by
          have q' : cwa (D.getD 0 0) (D.getD 1 0) < cwa (D.getD 0 0) (D.getD 1 0) := q
          rw [Int32.lt_iff_toInt_lt] at q'
          omega
        have hR : xE 149 26 [some (.ref a), some (.int 1), some (.int (nI D.length)), some (.int (nI 0)), some (.int (nI 1)), some (.int (dW D 0 1)), some (.int (nI 0)), l7, l8] [] (pM h a (m0 S f)) = xE 149 38 [some (.ref a), some (.int 1), some (.int (nI D.length)), some (.int (nI 0)), some (.int (nI 1)), some (.int (dW D 0 1)), some (.int (nI 0)), some (.int (nI 2)), some (.int (dW D 0 1))] [] (pM h a (m0 S f)) := by
          rw [xb149_26, if_pos (show nI 0 < nI D.length from nI_lt (by omega) (by omega)), xb149_38, if_pos hlt1', ml_gu, d0', xcI_some, ml_gu, nI_1, d1', xcI_some, hw, xcI_some, if_neg (nI_m1 0 (by decide)), if_neg irr]
          rfl
        rw [hR]
        rw [xb149_26, if_pos (show (0 : Int32) < nI D.length from nI_lt (a := 0) (by omega) (by omega))]
        refine Eq.trans (xb149_38 a 1 (nI D.length) (-1) (-1) 0 0 (0 + 1) l8 (pM h a (m0 S f))) ?_
        rw [if_pos hlt1, ml_gu, d0, xcI_some, ml_gu, d1, xcI_some, hw, xcI_some, if_pos rfl]
        rfl
      obtain ⟨l7', l8', z⟩ := m_least (h := h) (a := a) (S := S) hM hok hl 1 D.length 0 (0, 1) l7 l8 (by decide) (by omega)
      have hp := dlp_lt (D := D) (by omega)
      have hlp : dout (dW D) D.length D.length 0 (0, 1) = dlp D := rfl
      rw [hlp] at z
      generalize dlp D = p at hp z ⊢
      have hml := dmrg_len hp.2
      have hv1 : f (306 + p.1) = D.getD p.1 0 := DL_get hM.2 (by omega)
      have hv2 : f (306 + p.2) = D.getD p.2 0 := DL_get hM.2 hp.2
      have ov1 := hok _ (getD_memI (show p.1 < D.length by omega))
      have ov2 := hok _ (getD_memI hp.2)
      have hun := m_union (Or.inr ov1) (Or.inr ov2) (pM h a (m0 S f))
      rw [e2m_ok ov1, e2m_ok ov2, e2m_ok (bok_un ov1 ov2)] at hun
      generalize hf0 : upd f (306 + p.1) (cun (D.getD p.1 0) (D.getD p.2 0)) = f0
      obtain ⟨f1, l6', m1, m2, m3⟩ := m_mergeL (h := h) (a := a) (S := S) (f0 := f0) hl hp.2 1 (nI p.1) (nI p.2) (dW D p.1 p.2) (D.length - (p.2 + 1)) p.2 f0 l7' l8' (by omega) (Nat.le_refl _) (fun _ _ => rfl) (fun i q1 q2 => by omega) (fun _ _ => rfl)
      have hE := DL_set hM.2 (k := p.1) (cun (D.getD p.1 0) (D.getD p.2 0))
      rw [← upd306, hf0] at hE
      have hDm := DL_erase (g' := fun i => f1 (306 + i)) (p := p.2) hE (fun i q => m2 (306 + i) (by omega)) (fun i q1 q2 => m3 i q1 (by rw [List.length_set] at q2; exact q2))
      have hMm : MD (upd f1 305 (nI (D.length - 1))) (dmrg D p) := ⟨by rw [pk_us]; congr 1; omega, fun i b hb => by
        show upd f1 305 (nI (D.length - 1)) (306 + i) = b
        rw [pk_un (by omega)]; exact hDm i b hb⟩
      obtain ⟨f2, y1, y2, y3⟩ := ih (some (.int (nI D.length))) (some (.int (nI p.1))) (some (.int (nI p.2))) (some (.int (dW D p.1 p.2))) (some (.int l6')) l7' l8' hMm (dmrg_ok hok (by omega) hp.2) (by omega) (by omega) (by omega)
      have hFD : FD f f2 := FD_tr (fun i hi => by rw [pk_un (by omega), m2 i (by omega), ← hf0, pk_un (by omega)]) y2
      have hgo : xE 149 111 [some (.ref a), some (.int 1), some (.int (nI D.length)), some (.int (nI p.1)), some (.int (nI p.2)), some (.int (dW D p.1 p.2)), some (.int (nI D.length)), l7', l8'] [] (pM h a (m0 S f)) = some (none, pM h a (m0 S f2)) := by
        rw [xb149_111, if_neg (show ¬ (1 : Nat) = 0 by decide), ml_f0, Option.bind_some, ml_gu, m_dbox f (by omega), xcI_some, hv1, ml_gu, m_dbox f (by omega), xcI_some, hv2, hun, xcI_some, m_w306 f (by omega), Option.bind_some, hf0]
        exact m1.trans y1
      have z' : xE 149 26 [some (.ref a), some (.int 1), some (.int (nI D.length)), some (.int (nI 0)), some (.int (nI 1)), some (.int (dW D 0 1)), some (.int (nI 0)), l7, l8] [] (pM h a (m0 S f)) = _ := z
      rw [xb149_2, if_neg (show ¬ (1 : Int32) = 0 by decide), ml_f0, Option.bind_some, m_r305, Option.bind_some, hM.1, first, z', xb149_26, if_neg (nI_nlt (Nat.le_refl _) (by omega)), if_neg (nI_m1 p.1 (by omega))]
      by_cases c2 : 0 < dW D p.1 p.2
      · rw [if_pos c2]
        by_cases c3 : D.length ≤ 4
        · rw [if_neg (show ¬ (4 : Int32) < nI D.length from nI_nlt (a := 4) (by omega) (by decide)), if_pos ⟨c2, c3⟩, xb149_115, if_pos rfl, xb149_2, if_pos rfl]
          exact ⟨f, rfl, FD_rf f, hM⟩
        · rw [if_pos (show (4 : Int32) < nI D.length from nI_lt (a := 4) (by omega) (by omega)), if_neg (fun q => c3 q.2)]
          exact ⟨f2, hgo, hFD, y3⟩
      · rw [if_neg c2, if_neg (fun q => c2 q.1)]
        exact ⟨f2, hgo, hFD, y3⟩
theorem m_damages {f : Nat → Int32} {D : List Int32} (hM : MD f D) (hok : ∀ x, x ∈ D → bok x) (hl : D.length ≤ 4) {b : Int32} (hb : bok0 b) : ∃ f', xM 150 [.ref a, .int (e2m b)] (pM h a (m0 S f)) = some (none, pM h a (m0 S f')) ∧ FD f f' ∧ MD f' (dadd D b) := by
  have set : ∀ (d i : Nat), i + d = D.length → xE 150 13 [some (.ref a), some (.int (e2m b)), some (.int 1), some (.int (nI i))] [] (pM h a (m0 S f)) = some (none, pM h a (m0 S f)) := by
    intro d
    induction d with
    | zero =>
      intro i hi
      rw [xb150_13, ml_f0, Option.bind_some, m_r305, Option.bind_some, hM.1, if_neg (nI_nlt (by omega) (by omega)), if_neg (show ¬ (1 : Int32) = 0 by decide)]
    | succ d ih =>
      intro i hi
      rw [xb150_13, ml_f0, Option.bind_some, m_r305, Option.bind_some, hM.1, if_pos (nI_lt (by omega) (by omega)), if_neg (show ¬ (1 : Int32) = 0 by decide), nI_1]
      exact ih (i + 1) (by omega)
  unfold dadd
  rcases hb with rfl | hb
  · rw [if_pos (Or.inl rfl)]
    refine ⟨f, ?_, FD_rf f, hM⟩
    rw [xb150, if_pos e2m_0]
    exact set D.length 0 (by omega)
  · rw [e2m_ok hb] at set ⊢
    have loop : ∀ (d i : Nat), i + d = D.length → b ∉ D.take i → (b ∈ D ∧ xE 150 13 [some (.ref a), some (.int b), some (.int 0), some (.int (nI i))] [] (pM h a (m0 S f)) = some (none, pM h a (m0 S f))) ∨ (b ∉ D ∧ xE 150 13 [some (.ref a), some (.int b), some (.int 0), some (.int (nI i))] [] (pM h a (m0 S f)) = xE 150 13 [some (.ref a), some (.int b), some (.int 0), some (.int (nI D.length))] [] (pM h a (m0 S f))) := by
      intro d
      induction d with
      | zero =>
        intro i hi hni
        have hi : i = D.length := by omega
        subst hi
        rw [List.take_length] at hni
        exact Or.inr ⟨hni, rfl⟩
      | succ d ih =>
        intro i hi hni
        have hlt : i < D.length := by omega
        have hv : f (306 + i) = D[i] := hM.2 i _ (List.getElem?_eq_getElem hlt)
        rw [xb150_13, ml_f0, Option.bind_some, m_r305, Option.bind_some, hM.1, if_pos (nI_lt (by omega) (by omega)), if_pos rfl, ml_gu, m_dbox f (by omega), xcI_some, hv, nI_1]
        by_cases c : D[i] = b
        · rw [if_pos c]
          exact Or.inl ⟨by rw [← c]; exact List.getElem_mem hlt, set d (i + 1) (by omega)⟩
        · rw [if_neg c]
          refine ih (i + 1) (by omega) (fun q => ?_)
          rw [List.take_succ_eq_append_getElem hlt] at q
          rcases List.mem_append.mp q with q | q
          · exact hni q
          · exact c (List.mem_singleton.mp q).symm
    rw [xb150, if_neg (bok_nm1 hb)]
    have h0 := loop D.length 0 (by omega) (by rw [List.take_zero]; exact List.not_mem_nil)
    rcases h0 with ⟨q1, q2⟩ | ⟨q1, q2⟩
    · rw [if_pos (Or.inr q1)]
      exact ⟨f, q2, FD_rf f, hM⟩
    · rw [if_neg (fun q => q.elim (bok_ne0 hb) q1)]
      have hM2 : MD (upd (upd f (306 + D.length) b) 305 (nI (D.length + 1))) (D ++ [b]) := ⟨by rw [pk_us, List.length_append]; rfl, fun i x hx => by
        show upd (upd f (306 + D.length) b) 305 (nI (D.length + 1)) (306 + i) = x
        rw [pk_un (by omega)]
        have := DL_snoc hM.2 b
        rw [← upd306] at this
        exact this i x hx⟩
      obtain ⟨f', y1, y2, y3⟩ := m_merges (h := h) (a := a) (S := S) 4 none none none none none none none hM2 (fun x hx => by
        rcases List.mem_append.mp hx with q | q
        · exact hok x q
        · rw [List.mem_singleton.mp q]; exact hb) (by rw [List.length_append]; show D.length + 1 ≤ 5; omega) (by rw [List.length_append]; show 1 ≤ D.length + 1; omega) (by rw [List.length_append]; show D.length + 1 ≤ 4 + 1; omega)
      refine ⟨f', ?_, FD_tr (fun i hi => by rw [pk_un (by omega), pk_un (by omega)]) y2, y3⟩
      refine Eq.trans (show _ = _ from q2) ?_
      rw [xb150_13, ml_f0, Option.bind_some, m_r305, Option.bind_some, hM.1, if_neg (nI_nlt (Nat.le_refl _) (by omega)), if_pos rfl, Option.bind_some, Option.bind_some, m_r305, Option.bind_some, hM.1, m_w306 f (by omega), Option.bind_some, ml_f0, Option.bind_some, m_r305, Option.bind_some, pk_un (by omega), hM.1, nI_1, m_w305, Option.bind_some, ml_gu, xb149, y1, xcV_some]
end MDM
