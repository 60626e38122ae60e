/-! Texts carried out -/
noncomputable def CD (c : Int32) (h : xH) (a : Nat) (g : Nat → Int32) : Option xR := if c = 99 then xM 37 [.ref a, .int (g 0), .int (g 1)] h else if c = 108 then xM 36 [.ref a, .int (g 0), .int (g 1)] h else if c = 109 then xM 35 [.ref a, .int (g 0), .int (g 1), .int (g 2), .int (g 3), .int (g 4)] h else if c = 114 then xM 38 [.ref a, .int (g 0)] h else if c = 115 then xM 34 [.ref a, .int (g 0), .int (g 1), .int (g 2), .int (g 3), .int (g 4)] h else xM 16 [.ref (a + 10)] h
noncomputable def MDs (c : Int32) (h : xH) (g : Nat → Int32) : Option xR := if c = 99 then xM 156 [.ref 104, .int (g 0), .int (g 1)] h else if c = 108 then xM 155 [.ref 104, .int (g 0), .int (g 1)] h else if c = 109 then xM 154 [.ref 104, .int (g 0), .int (g 1), .int (g 2), .int (g 3), .int (g 4)] h else if c = 114 then xM 157 [.ref 104, .int (g 0)] h else if c = 115 then xM 153 [.ref 104, .int (g 0), .int (g 1), .int (g 2), .int (g 3), .int (g 4)] h else xM 158 [.ref 104] h
theorem DL_getD {g : Nat → Int32} {ns : List Int32} (h : DL g ns) {j : Nat} (hj : j < ns.length) : g j = ns.getD j 0 := by
  rw [List.getD_eq_getElem?_getD, List.getElem?_eq_getElem hj]
  exact h j _ (List.getElem?_eq_getElem hj)
def OQ (σ : gT) (c : Int32) (ns : List Int32) (r : Int32) (σ' : gT) : Prop := OPr σ r σ' ∧ (∀ h a S g, CSc σ S → DL g ns → ∃ S', CD c (pS h a S) a g = some (some (.int r), pS h a S') ∧ CSc σ' S') ∧ ∀ h S f g, MSc σ f → DL g ns → ∃ S' f', MDs c (pM h 104 (m0 S f)) g = some (some (.int r), pM h 104 (m0 S' f')) ∧ KM S S' ∧ MSc σ' f'
theorem op_ord {σ : gT} (hW : WF σ) {c : Int32} {ns : List Int32} (hm : manyN c = some ns.length) : ∃ r σ', OQ σ c ns r σ' := by
  unfold manyN at hm
  by_cases c1 : c = 99
  · subst c1
    rw [if_pos rfl] at hm
    injection hm with hm
    obtain ⟨r, σ', hO, hC, hM⟩ := op_clip hW (ns.getD 0 0) (ns.getD 1 0)
    refine ⟨r, σ', hO, fun h a S g hS hg => ?_, fun h S f g hS hg => ?_⟩
    · unfold CD; rw [if_pos rfl, DL_getD hg (by omega), DL_getD hg (by omega)]; exact hC h a S hS
    · unfold MDs; rw [if_pos rfl, DL_getD hg (by omega), DL_getD hg (by omega)]; exact hM h 104 S f hS
  rw [if_neg c1] at hm
  by_cases c2 : c = 100
  · subst c2
    obtain ⟨r, σ', hO, hC, hM⟩ := op_drawn hW
    refine ⟨r, σ', hO, fun h a S g hS hg => ?_, fun h S f g hS hg => ?_⟩
    · unfold CD; rw [if_neg (by decide), if_neg (by decide), if_neg (by decide), if_neg (by decide), if_neg (by decide)]; exact hC h a S hS
    · unfold MDs; rw [if_neg (by decide), if_neg (by decide), if_neg (by decide), if_neg (by decide), if_neg (by decide)]; exact hM h 104 S f hS
  rw [if_neg c2] at hm
  by_cases c3 : c = 108
  · subst c3
    rw [if_pos rfl] at hm
    injection hm with hm
    obtain ⟨r, σ', hO, hC, hM⟩ := op_lift hW (ns.getD 0 0) (ns.getD 1 0)
    refine ⟨r, σ', hO, fun h a S g hS hg => ?_, fun h S f g hS hg => ?_⟩
    · unfold CD; rw [if_neg (by decide), if_pos rfl, DL_getD hg (by omega), DL_getD hg (by omega)]; exact hC h a S hS
    · unfold MDs; rw [if_neg (by decide), if_pos rfl, DL_getD hg (by omega), DL_getD hg (by omega)]; exact hM h 104 S f hS
  rw [if_neg c3] at hm
  by_cases c4 : c = 109
  · subst c4
    rw [if_pos rfl] at hm
    injection hm with hm
    obtain ⟨r, σ', hO, hC, hM⟩ := op_move hW (ns.getD 0 0) (ns.getD 1 0) (ns.getD 2 0) (ns.getD 3 0) (ns.getD 4 0)
    refine ⟨r, σ', hO, fun h a S g hS hg => ?_, fun h S f g hS hg => ?_⟩
    · unfold CD; rw [if_neg (by decide), if_neg (by decide), if_pos rfl, DL_getD hg (by omega), DL_getD hg (by omega), DL_getD hg (by omega), DL_getD hg (by omega), DL_getD hg (by omega)]; exact hC h a S hS
    · unfold MDs; rw [if_neg (by decide), if_neg (by decide), if_pos rfl, DL_getD hg (by omega), DL_getD hg (by omega), DL_getD hg (by omega), DL_getD hg (by omega), DL_getD hg (by omega)]; exact hM h 104 S f hS
  rw [if_neg c4] at hm
  by_cases c5 : c = 114
  · subst c5
    rw [if_pos rfl] at hm
    injection hm with hm
    obtain ⟨r, σ', hO, hC, hM⟩ := op_away hW (ns.getD 0 0)
    refine ⟨r, σ', hO, fun h a S g hS hg => ?_, fun h S f g hS hg => ?_⟩
    · unfold CD; rw [if_neg (by decide), if_neg (by decide), if_neg (by decide), if_pos rfl, DL_getD hg (by omega)]; exact hC h a S hS
    · unfold MDs; rw [if_neg (by decide), if_neg (by decide), if_neg (by decide), if_pos rfl, DL_getD hg (by omega)]; exact hM h 104 S f hS
  rw [if_neg c5] at hm
  by_cases c6 : c = 115
  · subst c6
    rw [if_pos rfl] at hm
    injection hm with hm
    obtain ⟨r, σ', hO, hC, hM⟩ := op_add hW (ns.getD 0 0) (ns.getD 1 0) (ns.getD 2 0) (ns.getD 3 0) (ns.getD 4 0)
    refine ⟨r, σ', hO, fun h a S g hS hg => ?_, fun h S f g hS hg => ?_⟩
    · unfold CD; rw [if_neg (by decide), if_neg (by decide), if_neg (by decide), if_neg (by decide), if_pos rfl, DL_getD hg (by omega), DL_getD hg (by omega), DL_getD hg (by omega), DL_getD hg (by omega), DL_getD hg (by omega)]; exact hC h a S hS
    · unfold MDs; rw [if_neg (by decide), if_neg (by decide), if_neg (by decide), if_neg (by decide), if_pos rfl, DL_getD hg (by omega), DL_getD hg (by omega), DL_getD hg (by omega), DL_getD hg (by omega), DL_getD hg (by omega)]; exact hM h 104 S f hS
  rw [if_neg c6] at hm
  cases hm
section CARRY
variable {X : hD} {M : mS} {h : xH}
theorem X_og (hh : HS X M h) (z : Option xR) : xgu h 31 1 z = z := at_g (a := 31) (k := 0) hh.2.2.2.2.1 rfl z
theorem X_o0 (hh : HS X M h) : xfR h 31 1 0 = some 32 := at_R (a := 31) (k := 0) hh.2.2.2.2.1 rfl rfl
theorem X_o1 (hh : HS X M h) : xfR h 31 1 1 = some 33 := at_R (a := 31) (k := 0) hh.2.2.2.2.1 rfl rfl
theorem X_o2 (hh : HS X M h) : xfI h 31 1 2 = some (X.2.2.2.1.2 2) := at_I (a := 31) (k := 0) hh.2.2.2.2.1 rfl rfl
theorem X_ol (hh : HS X M h) {i : Nat} (hi : i < 120) : xri h 0 32 (nI i) = some (X.2.2.2.1.1 0 i) := by
  have := o_r0 h 31 X.2.2.2.1 hi
  rw [X_O hh] at this
  exact this
theorem X_on (hh : HS X M h) (i : Nat) (hi : i < 2 ^ 31) : xM 24 [.ref 31, .int (nI i)] h = some (some (.int (if i < 120 then X.2.2.2.1.1 1 i else 0)), h) := by
  rw [xb24, if_neg (nI_pos hi)]
  by_cases c : i < 120
  · have := o_r1 h 31 X.2.2.2.1 c
    rw [X_O hh] at this
    rw [if_pos (show nI i < (120 : Int32) from nI_lt (b := 120) c (by decide)), if_pos c, X_o1 hh, Option.bind_some]
    rw [show xri h 0 33 (nI i) = some (X.2.2.2.1.1 1 i) from this, Option.bind_some]
  · rw [if_neg (show ¬ nI i < (120 : Int32) from nI_nlt (b := 120) (by omega) (by omega)), if_neg c]
theorem c_carry (hh : HS X M h) (hp : PM X.1) {off : Nat} (ho : off < 2 ^ 30) {c r : Int32} {h' : xH} (e : CD c h (X.1 5) (fun j => if off + j < 120 then X.2.2.2.1.1 1 (off + j) else 0) = some (some (.int r), h')) : xM 101 [.ref 0, .int c, .int (nI off)] h = some (some (.int r), h') := by
  have p5 := hp.1 5 (by decide)
  have hid := X_S hh p5
  have g1 := sl_s1 h (X.1 5) (X.2.2.1 (X.1 5))
  have g2 := sl_gd h (X.1 5) (X.2.2.1 (X.1 5))
  rw [hid] at g1 g2
  rw [xb101, X_6 hh, Option.bind_some, X_og hh, X_on hh off (by omega), xcI_some, X_6 hh, Option.bind_some, X_og hh, nI_1, X_on hh (off + 1) (by omega), xcI_some, X_6 hh, Option.bind_some, X_og hh, show nI off + 2 = nI (off + 2) from nI_add off 2, X_on hh (off + 2) (by omega), xcI_some, X_6 hh, Option.bind_some, X_og hh, show nI off + 3 = nI (off + 3) from nI_add off 3, X_on hh (off + 3) (by omega), xcI_some, X_6 hh, Option.bind_some, X_og hh, show nI off + 4 = nI (off + 4) from nI_add off 4, X_on hh (off + 4) (by omega), xcI_some]
  unfold CD at e
  dsimp only at e
  rw [Nat.add_zero] at e
  by_cases c1 : c = 99
  · rw [if_pos c1] at e ⊢
    rw [X_0 hh, Option.bind_some, X_sg hh p5, e, xcI_some]
  rw [if_neg c1] at e ⊢
  by_cases c2 : c = 108
  · rw [if_pos c2] at e ⊢
    rw [X_0 hh, Option.bind_some, X_sg hh p5, e, xcI_some]
  rw [if_neg c2] at e ⊢
  by_cases c3 : c = 109
  · rw [if_pos c3] at e ⊢
    rw [X_0 hh, Option.bind_some, X_sg hh p5, e, xcI_some]
  rw [if_neg c3] at e ⊢
  by_cases c4 : c = 114
  · rw [if_pos c4] at e ⊢
    rw [X_0 hh, Option.bind_some, X_sg hh p5, e, xcI_some]
  rw [if_neg c4] at e ⊢
  by_cases c5 : c = 115
  · rw [if_pos c5] at e ⊢
    rw [X_0 hh, Option.bind_some, X_sg hh p5, e, xcI_some]
  rw [if_neg c5] at e ⊢
  rw [X_0 hh, Option.bind_some, g1, Option.bind_some, g2, e, xcI_some]
end CARRY
theorem m_done {h : xH} {S : mS} {f : Nat → Int32} {k : Nat} (hk : k < 60) {c r : Int32} {h' : xH} (hc : S.1 19 k = c) (e : MDs c (pM h 104 (m0 S f)) (fun j => S.1 20 (5 * k + j)) = some (some (.int r), h')) : xM 191 [.ref 104, .int (nI k)] (pM h 104 (m0 S f)) = some (some (.int r), h') := by
  have r0 := a_r20 h 104 S f (i := 5 * k) (by omega)
  have r1 := a_r20 h 104 S f (i := 5 * k + 1) (by omega)
  have r2 := a_r20 h 104 S f (i := 5 * k + 2) (by omega)
  have r3 := a_r20 h 104 S f (i := 5 * k + 3) (by omega)
  have r4 := a_r20 h 104 S f (i := 5 * k + 4) (by omega)
  have rc := a_r19 h 104 S f hk
  rw [xb191, ml_f20, Option.bind_some, show (5 : Int32) * nI k = nI (5 * k) from pk_mul .., r0, Option.bind_some, Option.bind_some, show nI (5 * k) + 1 = nI (5 * k + 1) from nI_add _ 1, r1, Option.bind_some, Option.bind_some, show nI (5 * k) + 2 = nI (5 * k + 2) from nI_add _ 2, r2, Option.bind_some, Option.bind_some, show nI (5 * k) + 3 = nI (5 * k + 3) from nI_add _ 3, r3, Option.bind_some, ml_f19, Option.bind_some, rc, Option.bind_some, hc, show nI (5 * k) + 4 = nI (5 * k + 4) from nI_add _ 4, Option.bind_some, r4, Option.bind_some]
  unfold MDs at e
  dsimp only at e
  rw [Nat.add_zero] at e
  by_cases c1 : c = 99
  · rw [if_pos c1] at e ⊢
    rw [ml_gu, e, xcI_some]
  rw [if_neg c1] at e ⊢
  by_cases c2 : c = 108
  · rw [if_pos c2] at e ⊢
    rw [ml_gu, e, xcI_some]
  rw [if_neg c2] at e ⊢
  by_cases c3 : c = 109
  · rw [if_pos c3] at e ⊢
    rw [ml_gu, e, xcI_some]
  rw [if_neg c3] at e ⊢
  by_cases c4 : c = 114
  · rw [if_pos c4] at e ⊢
    rw [ml_gu, e, xcI_some]
  rw [if_neg c4] at e ⊢
  by_cases c5 : c = 115
  · rw [if_pos c5] at e ⊢
    rw [Option.bind_some, r4, Option.bind_some, ml_gu, e, xcI_some]
  rw [if_neg c5] at e ⊢
  rw [ml_gu, e, xcI_some]
