/-! The two objects in one heap; what is the same on both sides -/
def SA : List Nat := [1, 15, 34, 48, 62, 76, 90]
theorem SA_c {a : Nat} (h : a ∈ SA) : (1 ≤ a ∧ a + 14 ≤ 29) ∨ (34 ≤ a ∧ a + 14 ≤ 104) := by
  simp only [SA, List.mem_cons, List.not_mem_nil, or_false] at h
  omega
theorem SA_d {a b : Nat} (ha : a ∈ SA) (hb : b ∈ SA) (h : a ≠ b) : a + 14 ≤ b ∨ b + 14 ≤ a := by
  simp only [SA, List.mem_cons, List.not_mem_nil, or_false] at ha hb
  omega
/-- the class's object -/
def gX (p : Nat → Nat) (I : Nat → Int32) : List xC := [.inr (.inr (4, [.ref (p 5), .ref (p 6), .ref 29, .int (I 3), .ref 30, .int (I 5), .ref 31, .int (I 7), .int (I 8), .int (I 9)]))]
def gTx (t : Nat → Int32) : List xC := [.inl (0, 120, t)]
/-- places (0 to 4 past, 5 now, 6 spare), numbers, scenes, orders, text -/
abbrev hD : Type := (Nat → Nat) × (Nat → Int32) × (Nat → sS) × sS × (Nat → Int32)
def HS (X : hD) (M : mS) (h : xH) : Prop := (h.1 = 121 ∧ h.2.1 ≤ 100000 ∧ xwf h) ∧ pAt h 0 (gX X.1 X.2.1) ∧ (∃ pp, pAt h 29 [.inr (.inl (5, pp))] ∧ ∀ k, k < 5 → pp k = some (X.1 k)) ∧ pAt h 30 (gTx X.2.2.2.2) ∧ pAt h 31 (gO 31 X.2.2.2.1) ∧ (∀ a, a ∈ SA → pAt h a (gS a (X.2.2.1 a))) ∧ pAt h 104 (gM 104 M)
theorem pL_wf {h : xH} {a : Nat} {l : List xC} (hw : xwf h) (hs : a + l.length ≤ h.1) : xwf (pL h a l) := fun k hk => by
  have hk' : h.1 ≤ k := hk
  rw [pL_out (by omega)]
  exact hw k hk'
theorem gS_len (a : Nat) (S : sS) : (gS a S).length = 14 := rfl
theorem gM_len (a : Nat) (S : mS) : (gM a S).length = 17 := rfl
theorem gO_len (a : Nat) (S : sS) : (gO a S).length = 3 := rfl
section HSL
variable {X : hD} {M : mS} {h : xH}
theorem HS_scene (hh : HS X M h) {a : Nat} (ha : a ∈ SA) (S' : sS) : HS (X.1, X.2.1, va_up X.2.2.1 a S', X.2.2.2) M (pS h a S') := by
  obtain ⟨⟨h1, h2, h3⟩, h4, ⟨pp, h5, h6⟩, h7, h8, h9, h10⟩ := hh
  have hc := SA_c ha
  have hl := gS_len a S'
  refine ⟨⟨h1, h2, pL_wf h3 (by rw [hl]; omega)⟩, pAt_pL h4 (by rw [hl]; show 0 + 1 ≤ a ∨ _; omega), ⟨pp, pAt_pL h5 (by rw [hl]; show 29 + 1 ≤ a ∨ _; omega), h6⟩, pAt_pL h7 (by rw [hl]; show 30 + 1 ≤ a ∨ _; omega), pAt_pL h8 (by rw [hl, gO_len]; omega), fun b hb => ?_, pAt_pL h10 (by rw [hl, gM_len]; omega)⟩
  by_cases e : b = a
  · subst e
    show pAt _ b (gS b (va_up X.2.2.1 b S' b))
    rw [up_s]
    exact pL_at _ _ _
  · show pAt _ b (gS b (va_up X.2.2.1 a S' b))
    rw [up_n _ _ e]
    exact pAt_pL (h9 b hb) (by rw [gS_len, hl]; have := SA_d ha hb (fun q => e q.symm); omega)
theorem HS_ref (hh : HS X M h) (M' : mS) : HS X M' (pM h 104 M') := by
  obtain ⟨⟨h1, h2, h3⟩, h4, ⟨pp, h5, h6⟩, h7, h8, h9, h10⟩ := hh
  have hl := gM_len 104 M'
  refine ⟨⟨h1, h2, pL_wf h3 (by rw [hl]; omega)⟩, pAt_pL h4 (by rw [hl]; show 0 + 1 ≤ 104 ∨ _; omega), ⟨pp, pAt_pL h5 (by rw [hl]; show 29 + 1 ≤ 104 ∨ _; omega), h6⟩, pAt_pL h7 (by rw [hl]; show 30 + 1 ≤ 104 ∨ _; omega), pAt_pL h8 (by rw [hl, gO_len]; omega), fun b hb => ?_, pL_at _ _ _⟩
  have := SA_c hb
  exact pAt_pL (h9 b hb) (by rw [gS_len, hl]; omega)
theorem HS_ord (hh : HS X M h) (O' : sS) : HS (X.1, X.2.1, X.2.2.1, O', X.2.2.2.2) M (pO h 31 O') := by
  obtain ⟨⟨h1, h2, h3⟩, h4, ⟨pp, h5, h6⟩, h7, h8, h9, h10⟩ := hh
  have hl := gO_len 31 O'
  refine ⟨⟨h1, h2, pL_wf h3 (by rw [hl]; omega)⟩, pAt_pL h4 (by rw [hl]; show 0 + 1 ≤ 31 ∨ _; omega), ⟨pp, pAt_pL h5 (by rw [hl]; show 29 + 1 ≤ 31 ∨ _; omega), h6⟩, pAt_pL h7 (by rw [hl]; show 30 + 1 ≤ 31 ∨ _; omega), pL_at _ _ _, fun b hb => ?_, pAt_pL h10 (by rw [hl, gM_len]; omega)⟩
  have := SA_c hb
  exact pAt_pL (h9 b hb) (by rw [gS_len, hl]; omega)
theorem HS_obj (hh : HS X M h) (p' : Nat → Nat) (I' : Nat → Int32) (hp : ∀ k, k < 5 → p' k = X.1 k) : HS (p', I', X.2.2) M (pL h 0 (gX p' I')) := by
  obtain ⟨⟨h1, h2, h3⟩, h4, ⟨pp, h5, h6⟩, h7, h8, h9, h10⟩ := hh
  have hl : (gX p' I').length = 1 := rfl
  refine ⟨⟨h1, h2, pL_wf h3 (by rw [hl]; omega)⟩, pL_at _ _ _, ⟨pp, pAt_pL h5 (by rw [hl]; show _ ∨ 0 + 1 ≤ 29; omega), fun k hk => (h6 k hk).trans (congrArg some (hp k hk).symm)⟩, pAt_pL h7 (by rw [hl]; show _ ∨ 0 + 1 ≤ 30; omega), pAt_pL h8 (by rw [hl]; omega), fun b hb => ?_, pAt_pL h10 (by rw [hl]; omega)⟩
  have := SA_c hb
  exact pAt_pL (h9 b hb) (by rw [hl]; omega)
theorem HS_txt (hh : HS X M h) (t' : Nat → Int32) : HS (X.1, X.2.1, X.2.2.1, X.2.2.2.1, t') M (pL h 30 (gTx t')) := by
  obtain ⟨⟨h1, h2, h3⟩, h4, ⟨pp, h5, h6⟩, h7, h8, h9, h10⟩ := hh
  have hl : (gTx t').length = 1 := rfl
  refine ⟨⟨h1, h2, pL_wf h3 (by rw [hl]; omega)⟩, pAt_pL h4 (by show 0 + 1 ≤ 30 ∨ _; omega), ⟨pp, pAt_pL h5 (by show 29 + 1 ≤ 30 ∨ _; omega), h6⟩, pL_at _ _ _, pAt_pL h8 (by rw [hl]; omega), fun b hb => ?_, pAt_pL h10 (by rw [hl]; omega)⟩
  have := SA_c hb
  exact pAt_pL (h9 b hb) (by rw [hl, gS_len]; omega)
theorem HS_past (hh : HS X M h) (pp' : Nat → Option Nat) (p' : Nat → Nat) (h5' : p' 5 = X.1 5) (h6' : p' 6 = X.1 6) (hp : ∀ k, k < 5 → pp' k = some (p' k)) : HS (p', X.2) M (pL h 29 [.inr (.inl (5, pp'))]) := by
  obtain ⟨⟨h1, h2, h3⟩, h4, ⟨pp, h5, h6⟩, h7, h8, h9, h10⟩ := hh
  have e : gX p' X.2.1 = gX X.1 X.2.1 := by unfold gX; rw [h5', h6']
  refine ⟨⟨h1, h2, pL_wf h3 (by show 29 + 1 ≤ _; omega)⟩, ?_, ⟨pp', pL_at _ _ _, hp⟩, pAt_pL h7 (by show _ ∨ 29 + 1 ≤ 30; omega), pAt_pL h8 (by show _ ∨ 29 + 1 ≤ 31; omega), fun b hb => ?_, pAt_pL h10 (by show _ ∨ 29 + 1 ≤ 104; omega)⟩
  · show pAt _ 0 (gX p' X.2.1)
    rw [e]
    exact pAt_pL h4 (by show 0 + 1 ≤ 29 ∨ _; omega)
  · have := SA_c hb
    exact pAt_pL (h9 b hb) (by rw [gS_len]; show _ ∨ 29 + 1 ≤ b; omega)
-- reading
theorem at_R {a k ci j b : Nat} {l : List xC} {fs : List Value} (hp : pAt h a l) (hk : l[k]? = some (.inr (.inr (ci, fs)))) (hf : fs[j]? = some (.ref b)) : xfR h (a + k) ci j = some b := by
  have := xfR_pL (h := h) (a := a) hk hf
  rw [pL_id hp] at this
  exact this
theorem at_I {a k ci j : Nat} {v : Int32} {l : List xC} {fs : List Value} (hp : pAt h a l) (hk : l[k]? = some (.inr (.inr (ci, fs)))) (hf : fs[j]? = some (.int v)) : xfI h (a + k) ci j = some v := by
  have := xfI_pL (h := h) (a := a) hk hf
  rw [pL_id hp] at this
  exact this
theorem at_g {a k ci : Nat} {l : List xC} {fs : List Value} (hp : pAt h a l) (hk : l[k]? = some (.inr (.inr (ci, fs)))) (z : Option xR) : xgu h (a + k) ci z = z := by
  have := xgu_pL (h := h) (a := a) hk z
  rw [pL_id hp] at this
  exact this
theorem at_a {a k t m : Nat} {g : Nat → Int32} {l : List xC} (hp : pAt h a l) (hk : l[k]? = some (.inl (t, m, g))) : xarr h t (a + k) = some (m, g) := by
  have := xarr_pL (h := h) (a := a) hk
  rw [pL_id hp] at this
  exact this
theorem X_g (hh : HS X M h) (z : Option xR) : xgu h 0 4 z = z := at_g (a := 0) (k := 0) hh.2.1 rfl z
theorem X_0 (hh : HS X M h) : xfR h 0 4 0 = some (X.1 5) := at_R (a := 0) (k := 0) hh.2.1 rfl rfl
theorem X_1 (hh : HS X M h) : xfR h 0 4 1 = some (X.1 6) := at_R (a := 0) (k := 0) hh.2.1 rfl rfl
theorem X_2 (hh : HS X M h) : xfR h 0 4 2 = some 29 := at_R (a := 0) (k := 0) hh.2.1 rfl rfl
theorem X_3 (hh : HS X M h) : xfI h 0 4 3 = some (X.2.1 3) := at_I (a := 0) (k := 0) hh.2.1 rfl rfl
theorem X_4 (hh : HS X M h) : xfR h 0 4 4 = some 30 := at_R (a := 0) (k := 0) hh.2.1 rfl rfl
theorem X_5 (hh : HS X M h) : xfI h 0 4 5 = some (X.2.1 5) := at_I (a := 0) (k := 0) hh.2.1 rfl rfl
theorem X_6 (hh : HS X M h) : xfR h 0 4 6 = some 31 := at_R (a := 0) (k := 0) hh.2.1 rfl rfl
theorem X_7 (hh : HS X M h) : xfI h 0 4 7 = some (X.2.1 7) := at_I (a := 0) (k := 0) hh.2.1 rfl rfl
theorem X_8 (hh : HS X M h) : xfI h 0 4 8 = some (X.2.1 8) := at_I (a := 0) (k := 0) hh.2.1 rfl rfl
theorem X_9 (hh : HS X M h) : xfI h 0 4 9 = some (X.2.1 9) := at_I (a := 0) (k := 0) hh.2.1 rfl rfl
theorem X_S (hh : HS X M h) {a : Nat} (ha : a ∈ SA) : pS h a (X.2.2.1 a) = h := pL_id (hh.2.2.2.2.2.1 a ha)
theorem X_M (hh : HS X M h) : pM h 104 M = h := pL_id hh.2.2.2.2.2.2
theorem X_O (hh : HS X M h) : pO h 31 X.2.2.2.1 = h := pL_id hh.2.2.2.2.1
theorem X_sg (hh : HS X M h) {a : Nat} (ha : a ∈ SA) (z : Option xR) : xgu h a 2 z = z := at_g (k := 0) (hh.2.2.2.2.2.1 a ha) rfl z
/-- a number of the object is written -/
theorem X_p (hh : HS X M h) {k : Nat} (hk : k = 3 ∨ k = 5 ∨ k = 7 ∨ k = 8 ∨ k = 9) (v : Int32) : ∃ h', xpf h 0 4 k (.int v) = some h' ∧ HS (X.1, va_up X.2.1 k v, X.2.2) M h' := by
  refine ⟨pL h 0 (gX X.1 (va_up X.2.1 k v)), ?_, HS_obj hh X.1 _ (fun _ _ => rfl)⟩
  have := xpf_pL (h := h) (a := 0) (l := gX X.1 X.2.1) (k := 0) (ci := 4) (j := k) (v := .int v) (l' := gX X.1 (va_up X.2.1 k v)) rfl (by show k < 10; omega) (by rcases hk with rfl | rfl | rfl | rfl | rfl <;> rfl)
  rw [pL_id hh.2.1] at this
  exact this
/-- now or spare is another one -/
theorem X_pn (hh : HS X M h) (v : Nat) : ∃ h', xpf h 0 4 0 (.ref v) = some h' ∧ HS (va_up X.1 5 v, X.2.1, X.2.2) M h' := by
  refine ⟨pL h 0 (gX (va_up X.1 5 v) X.2.1), ?_, HS_obj hh _ _ (fun k hk => up_n _ _ (by omega))⟩
  have := xpf_pL (h := h) (a := 0) (l := gX X.1 X.2.1) (k := 0) (ci := 4) (j := 0) (v := .ref v) (l' := gX (va_up X.1 5 v) X.2.1) rfl (by show 0 < 10; omega) rfl
  rw [pL_id hh.2.1] at this
  exact this
theorem X_ps (hh : HS X M h) (v : Nat) : ∃ h', xpf h 0 4 1 (.ref v) = some h' ∧ HS (va_up X.1 6 v, X.2.1, X.2.2) M h' := by
  refine ⟨pL h 0 (gX (va_up X.1 6 v) X.2.1), ?_, HS_obj hh _ _ (fun k hk => up_n _ _ (by omega))⟩
  have := xpf_pL (h := h) (a := 0) (l := gX X.1 X.2.1) (k := 0) (ci := 4) (j := 1) (v := .ref v) (l' := gX (va_up X.1 6 v) X.2.1) rfl (by show 1 < 10; omega) rfl
  rw [pL_id hh.2.1] at this
  exact this
theorem X_rr (hh : HS X M h) {k : Nat} (hk : k < 5) : xrr h 29 (nI k) = some (X.1 k) := by
  obtain ⟨pp, h5, h6⟩ := hh.2.2.1
  have hc : h.2.2 29 = .inr (.inl (5, pp)) := h5 0 _ rfl
  unfold xrr xrar
  rw [hc]
  show (bif xin (nI k) 5 then pp (nI k).toNatClampNeg else none) = _
  rw [xin_nI hk (by decide), cond_true, nI_clamp (by omega), h6 k hk]
theorem X_wr (hh : HS X M h) {k v : Nat} (hk : k < 5) (hv : v ∈ SA) : ∃ h', xwr h 29 (nI k) v 2 = some h' ∧ HS (va_up X.1 k v, X.2) M h' := by
  obtain ⟨pp, h5, h6⟩ := id hh.2.2.1
  have hc : h.2.2 29 = .inr (.inl (5, pp)) := h5 0 _ rfl
  have ho : xobj h v 2 = some [.ref (v + 1), .ref (v + 10), .ref (v + 2), .ref (v + 12), .ref (v + 13)] := by
    unfold xobj
    have : h.2.2 (v + 0) = _ := hh.2.2.2.2.2.1 v hv 0 _ rfl
    rw [Nat.add_zero] at this
    rw [this]
    rfl
  refine ⟨pL h 29 [.inr (.inl (5, va_up pp k (some v)))], ?_, HS_past hh _ _ (up_n _ _ (by omega)) (up_n _ _ (by omega)) (fun j hj => ?_)⟩
  · unfold xwr xrar
    rw [hc]
    show ((xobj h v 2).bind fun _ => bif xin (nI k) 5 then some (xup h 29 (.inr (.inl (5, va_up pp (nI k).toNatClampNeg (some v))))) else none) = _
    rw [ho, Option.bind_some, xin_nI hk (by decide), cond_true, nI_clamp (by omega)]
    have := pL_up (h := h) (a := 29) (k := 0) (l := [.inr (.inl (5, pp))]) (.inr (.inl (5, va_up pp k (some v)))) (by show 0 < 1; decide)
    rw [pL_id h5] at this
    rw [show (29 : Nat) = 29 + 0 from rfl, this]
    rfl
  · by_cases e : j = k
    · subst e; rw [up_s, up_s]
    · rw [up_n _ _ e, up_n _ _ e]; exact h6 j hj
end HSL
/-- the scene now, how many are past, those, the text's length, the text, the counts -/
abbrev aT : Type := gT × Nat × (Nat → gT) × Nat × (Nat → Int32) × (Nat → Int32)
def AW (A : aT) : Prop := WF A.1 ∧ A.2.1 ≤ 5 ∧ (∀ k, k < A.2.1 → WF (A.2.2.1 k)) ∧ A.2.2.2.1 ≤ 120 ∧ ∀ i, i < A.2.2.2.1 → 0 ≤ A.2.2.2.2.1 i ∧ A.2.2.2.2.1 i ≤ 127
def PM (p : Nat → Nat) : Prop := (∀ i, i < 7 → p i ∈ SA) ∧ ∀ i j, i < 7 → j < 7 → p i = p j → i = j
def CLc (X : hD) (A : aT) : Prop := X.2.1 3 = nI A.2.1 ∧ X.2.1 5 = nI A.2.2.2.1 ∧ X.2.1 7 = A.2.2.2.2.2 0 ∧ X.2.1 8 = A.2.2.2.2.2 1 ∧ X.2.1 9 = A.2.2.2.2.2 2 ∧ ∀ i, i < A.2.2.2.1 → X.2.2.2.2 i = A.2.2.2.2.1 i
def CL (X : hD) (A : aT) : Prop := PM X.1 ∧ CLc X A ∧ CSc A.1 (X.2.2.1 (X.1 5)) ∧ ∀ k, k < A.2.1 → CSc (A.2.2.1 k) (X.2.2.1 (X.1 k))
def RFc (M : mS) (A : aT) : Prop := M.2.1 3 = nI A.2.1 ∧ M.2.1 6 = nI A.2.2.2.1 ∧ (∀ k, k < 3 → M.1 4 k = A.2.2.2.2.2 k) ∧ (∀ i, i < A.2.2.2.1 → M.1 5 i = A.2.2.2.2.1 i) ∧ ∀ k, k < A.2.1 → MSc (A.2.2.1 k) (fun i => M.1 2 (311 * k + i))
def RF (M : mS) (A : aT) : Prop := RFc M A ∧ MSc A.1 (M.1 0)
def Sim (h : xH) : Prop := ∃ X M A, AW A ∧ HS X M h ∧ CL X A ∧ RF M A
theorem RFc_KM {M M' : mS} {A : aT} (hR : RFc M A) (hk : KM M M') : RFc M' A := by
  obtain ⟨h1, h2, h3, h4, h5⟩ := hR
  refine ⟨by rw [hk.2 3 (Or.inl rfl)]; exact h1, by rw [hk.2 6 (Or.inr (Or.inl rfl))]; exact h2, fun k hk' => by rw [hk.1 4 (by omega)]; exact h3 k hk', fun i hi => by rw [hk.1 5 (by omega)]; exact h4 i hi, fun k hk' => by rw [hk.1 2 (by omega)]; exact h5 k hk'⟩
/-- a step of both -/
def cstep (j : Nat) (as : List Value) (A : aT) (r : Int32) (A' : aT) : Prop := ∀ X M h, HS X M h → CL X A → ∃ X' h', xM j (.ref 0 :: as) h = some (some (.int r), h') ∧ HS X' M h' ∧ CL X' A'
def mstep (j : Nat) (as : List Value) (A : aT) (r : Int32) (A' : aT) : Prop := ∀ h M, RF M A → ∃ M', xM j (.ref 104 :: as) (pM h 104 M) = some (some (.int r), pM h 104 M') ∧ RF M' A'
