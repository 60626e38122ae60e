/-! All orders of a text -/
abbrev oL : Type := List (Int32 × List Int32)
def onum (os : oL) : List Int32 := os.flatMap (fun q => q.2)
/-- what both know of the orders -/
def OC (os : oL) (O : sS) : Prop := O.2 2 = nI os.length ∧ DL (O.1 0) (os.map fun q => q.1) ∧ DL (O.1 1) (onum os)
def OM (os : oL) (S : mS) : Prop := S.2.1 21 = nI os.length ∧ DL (S.1 19) (os.map fun q => q.1) ∧ RNu os (S.1 20)
theorem OM_KM {os : oL} {S S' : mS} (h : OM os S) (hk : KM S S') : OM os S' := by
  obtain ⟨h1, h2, h3⟩ := h
  exact ⟨by rw [hk.2 21 (by omega)]; exact h1, by rw [hk.1 19 (by omega)]; exact h2, by rw [hk.1 20 (by omega)]; exact h3⟩
def RUNc (os : oL) (k off : Nat) (σ : gT) (P : xH → Nat → Option xR → Prop) : Prop := ∀ X M h, HS X M h → PM X.1 → OC os X.2.2.2.1 → CSc σ (X.2.2.1 (X.1 5)) → P h (X.1 5) (xE 91 41 [some (.ref 0), some (.int (-1)), some (.int (nI off)), some (.int (nI k))] [] h)
def RUNm (os : oL) (k : Nat) (σ : gT) (P : xH → mS → Option xR → Prop) : Prop := ∀ h S f, OM os S → MSc σ f → P h S (xE 192 21 [some (.ref 104), some (.int (nI k)), none] [] (pM h 104 (m0 S f)))
theorem pS_pS (h : xH) (a : Nat) (S S' : sS) : pS (pS h a S) a S' = pS h a S' := pL_pL _ _ _ _ rfl
theorem run {os : oL} (h60 : os.length ≤ 60) (hnu : (onum os).length ≤ 120) (hmn : ∀ o, o ∈ os → manyN o.1 = some o.2.length) : ∀ (rest pre : oL) (σ : gT), os = pre ++ rest → WF σ →
    (∃ σ', WF σ' ∧ RUNc os pre.length (onum pre).length σ (fun h a z => ∃ S', z = xE 91 41 [some (.ref 0), some (.int (-1)), some (.int (nI (onum os).length)), some (.int (nI os.length))] [] (pS h a S') ∧ CSc σ' S') ∧ RUNm os pre.length σ (fun h S z => ∃ S' f', z = xE 192 21 [some (.ref 104), some (.int (nI os.length)), none] [] (pM h 104 (m0 S' f')) ∧ KM S S' ∧ MSc σ' f')) ∨
    (∃ j, j < os.length ∧ RUNc os pre.length (onum pre).length σ (fun h a z => ∃ S', z = xcV (xM 100 [.ref 0] (pS h a S')) fun h8 => some (some (.int ((-1000) - nI j)), h8)) ∧ RUNm os pre.length σ (fun h S z => ∃ S' f', z = xE 192 39 [some (.ref 104), some (.int (nI j)), some (.int 0)] [] (pM h 104 (m0 S' f')) ∧ KM S S'))
  | [], pre, σ, ho, hW => by
    rw [List.append_nil] at ho
    subst ho
    refine Or.inl ⟨σ, hW, fun X M h hh hp hO hS => ⟨X.2.2.1 (X.1 5), ?_, hS⟩, fun h S f hO hS => ⟨S, f, rfl, KM_rf S, hS⟩⟩
    rw [X_S hh (hp.1 5 (by decide))]
  | o :: rest, pre, σ, ho, hW => by
    have hlen : os.length = pre.length + (rest.length + 1) := by rw [ho, List.length_append, List.length_cons]
    have hnn : onum os = onum pre ++ (o.2 ++ onum rest) := by rw [ho]; unfold onum; rw [List.flatMap_append, List.flatMap_cons]
    have hnl : (onum os).length = (onum pre).length + (o.2.length + (onum rest).length) := by rw [hnn, List.length_append, List.length_append]
    have hmo := hmn o (by rw [ho]; exact List.mem_append_right _ List.mem_cons_self)
    have hok : os[pre.length]? = some o := by rw [ho, List.getElem?_append_right (Nat.le_refl _), Nat.sub_self]; rfl
    have hlk : (os.map fun q => q.1)[pre.length]? = some o.1 := by rw [List.getElem?_map, hok]; rfl
    obtain ⟨r, σ', hOr, hQc, hQm⟩ := op_ord hW hmo
    have cl : ∀ X M h, HS X M h → PM X.1 → OC os X.2.2.2.1 → CSc σ (X.2.2.1 (X.1 5)) → ∃ S', xM 101 [.ref 0, .int o.1, .int (nI (onum pre).length)] h = some (some (.int r), pS h (X.1 5) S') ∧ CSc σ' S' := fun X M h hh hp hO hS => by
      obtain ⟨S', e1, e2⟩ := hQc h (X.1 5) (X.2.2.1 (X.1 5)) (fun j => if (onum pre).length + j < 120 then X.2.2.2.1.1 1 ((onum pre).length + j) else 0) hS (fun j v hv => by
        have hj : j < o.2.length := (List.getElem?_eq_some_iff.mp hv).1
        show (if (onum pre).length + j < 120 then X.2.2.2.1.1 1 ((onum pre).length + j) else 0) = v
        rw [if_pos (by omega)]
        refine hO.2.2 _ _ ?_
        rw [hnn, List.getElem?_append_right (Nat.le_add_right _ _), Nat.add_sub_cancel_left, List.getElem?_append_left hj]
        exact hv)
      rw [X_S hh (hp.1 5 (by decide))] at e1
      exact ⟨S', c_carry hh hp (by omega) e1, e2⟩
    have ml : ∀ h S f, OM os S → MSc σ f → ∃ S' f', xM 191 [.ref 104, .int (nI pre.length)] (pM h 104 (m0 S f)) = some (some (.int r), pM h 104 (m0 S' f')) ∧ KM S S' ∧ MSc σ' f' := fun h S f hO hS => by
      obtain ⟨S', f', e1, e2, e3⟩ := hQm h S f (fun j => S.1 20 (5 * pre.length + j)) hS (fun j v hv => hO.2.2 _ o j v hok hv)
      exact ⟨S', f', m_done (by omega) (hO.2.1 _ _ hlk) e1, e2, e3⟩
    have cs : ∀ X M h, HS X M h → PM X.1 → OC os X.2.2.2.1 → CSc σ (X.2.2.1 (X.1 5)) → ∃ S', CSc σ' S' ∧ xE 91 41 [some (.ref 0), some (.int (-1)), some (.int (nI (onum pre).length)), some (.int (nI pre.length))] [] h = (if r < 0 then (xcV (xM 100 [.ref 0] (pS h (X.1 5) S')) fun h8 => some (some (.int ((-1000) - nI pre.length)), h8)) else xE 91 41 [some (.ref 0), some (.int (-1)), some (.int (nI (onum (pre ++ [o])).length)), some (.int (nI (pre ++ [o]).length))] [] (pS h (X.1 5) S')) := fun X M h hh hp hO hS => by
      obtain ⟨S', e1, e2⟩ := cl X M h hh hp hO hS
      have H1 := HS_scene hh (hp.1 5 (by decide)) S'
      have l1 := X_ol H1 (i := pre.length) (by omega)
      dsimp only at l1
      rw [hO.2.1 _ _ hlk] at l1
      refine ⟨S', e2, ?_⟩
      rw [xb91_41, X_6 hh, Option.bind_some, X_o2 hh, Option.bind_some, hO.1, if_pos (nI_lt (by omega) (by omega)), Option.bind_some, X_o0 hh, Option.bind_some, X_ol hh (by omega), Option.bind_some, hO.2.1 _ _ hlk, X_g hh, e1, xcI_some]
      by_cases c : r < 0
      · rw [if_pos c, if_pos c, X_g H1]
      · rw [if_neg c, if_neg c, X_6 H1, Option.bind_some, X_o0 H1, Option.bind_some, l1, Option.bind_some, c_numbersOf, hmo, xcI_some, nI_1]
        have q1 : (onum (pre ++ [o])).length = (onum pre).length + o.2.length := by unfold onum; rw [List.flatMap_append, List.length_append, List.flatMap_cons, List.flatMap_nil, List.append_nil]
        have q2 : (pre ++ [o]).length = pre.length + 1 := by rw [List.length_append]; rfl
        rw [q1, q2]
        dsimp only
        rw [nI_add]
    have ms : ∀ h S f, OM os S → MSc σ f → ∃ S' f', KM S S' ∧ MSc σ' f' ∧ xE 192 21 [some (.ref 104), some (.int (nI pre.length)), none] [] (pM h 104 (m0 S f)) = (if r < 0 then xE 192 39 [some (.ref 104), some (.int (nI pre.length)), some (.int 0)] [] (pM h 104 (m0 S' f')) else xE 192 21 [some (.ref 104), some (.int (nI (pre ++ [o]).length)), none] [] (pM h 104 (m0 S' f'))) := fun h S f hO hS => by
      obtain ⟨S', f', e1, e2, e3⟩ := ml h S f hO hS
      refine ⟨S', f', e2, e3, ?_⟩
      have q2 : (pre ++ [o]).length = pre.length + 1 := by rw [List.length_append]; rfl
      rw [xb192_21, a_i21, Option.bind_some, hO.1, if_pos (nI_lt (by omega) (by omega)), ml_gu, e1, xcI_some, nI_1, q2]
    rcases hOr.2 with ⟨hr, -⟩ | ⟨m, hm, rfl⟩
    · refine Or.inr ⟨pre.length, by omega, fun X M h hh hp hO hS => ?_, fun h S f hO hS => ?_⟩
      · obtain ⟨S', -, e⟩ := cs X M h hh hp hO hS
        rw [if_pos (r_neg hr).1] at e
        exact ⟨S', e⟩
      · obtain ⟨S', f', e1, -, e⟩ := ms h S f hO hS
        rw [if_pos (r_neg hr).1] at e
        exact ⟨S', f', e, e1⟩
    · rcases run h60 hnu hmn rest (pre ++ [o]) σ' (by rw [ho, List.append_assoc]; rfl) hOr.1 with ⟨σ2, w, a1, a2⟩ | ⟨j, w, a1, a2⟩
      · refine Or.inl ⟨σ2, w, fun X M h hh hp hO hS => ?_, fun h S f hO hS => ?_⟩
        · obtain ⟨S', e2, e⟩ := cs X M h hh hp hO hS
          rw [if_neg (nI_pos hm)] at e
          obtain ⟨S3, z1, z2⟩ := a1 _ M _ (HS_scene hh (hp.1 5 (by decide)) S') hp hO (by dsimp only; rw [up_s]; exact e2)
          dsimp only at z1
          refine ⟨S3, ?_, z2⟩
          rw [e, z1, pS_pS]
        · obtain ⟨S', f', k1, e2, e⟩ := ms h S f hO hS
          rw [if_neg (nI_pos hm)] at e
          obtain ⟨S3, f3, z1, z2, z3⟩ := a2 h S' f' (OM_KM hO k1) e2
          exact ⟨S3, f3, e.trans z1, KM_tr k1 z2, z3⟩
      · refine Or.inr ⟨j, w, fun X M h hh hp hO hS => ?_, fun h S f hO hS => ?_⟩
        · obtain ⟨S', e2, e⟩ := cs X M h hh hp hO hS
          rw [if_neg (nI_pos hm)] at e
          obtain ⟨S3, z1⟩ := a1 _ M _ (HS_scene hh (hp.1 5 (by decide)) S') hp hO (by dsimp only; rw [up_s]; exact e2)
          dsimp only at z1
          refine ⟨S3, ?_⟩
          rw [e, z1, pS_pS]
        · obtain ⟨S', f', k1, e2, e⟩ := ms h S f hO hS
          rw [if_neg (nI_pos hm)] at e
          obtain ⟨S3, f3, z1, z2⟩ := a2 h S' f' (OM_KM hO k1) e2
          exact ⟨S3, f3, e.trans z1, KM_tr k1 z2⟩
