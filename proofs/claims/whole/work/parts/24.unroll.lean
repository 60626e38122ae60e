/-! The meaning of a method, and blocks of it -/
noncomputable def xE : Nat → Nat → xL → List Value → xH → Option xR := xEE xP xN
noncomputable def xM (j : Nat) (as : List Value) (h : xH) : Option xR := bif Nat.ble (xsl as).length (xN j) then xE j 0 (xpad (xN j) (xsl as)) [] h else none
theorem xE_step (m pc : Nat) (L : xL) (st : List Value) (h : xH) : xE m pc L st h = (xP m pc).bind fun w => xF (fun pc' L' st' h' => xE m pc' L' st' h') xM w L st h := xEE_step xP xN m pc L st h
/-- go on till a pc of the list S -/
noncomputable def xU (S : List Nat) : Nat → Nat → Nat → xL → List Value → xH → Option xR
  | 0, m, pc, L, st, h => xE m pc L st h
  | k + 1, m, pc, L, st, h => bif S.elem pc then xE m pc L st h else (xP m pc).bind fun w => xF (fun pc' L' st' h' => xU S k m pc' L' st' h') xM w L st h
theorem xU_eq (S : List Nat) : ∀ (k m pc : Nat) (L : xL) (st : List Value) (h : xH), xU S k m pc L st h = xE m pc L st h
  | 0, _, _, _, _, _ => rfl
  | k + 1, m, pc, L, st, h => by
    unfold xU
    cases S.elem pc
    · rw [cond_false, xE_step]
      congr 1
      funext w
      congr 1
      funext pc' L' st' h'
      exact xU_eq S k m pc' L' st' h'
    · rfl
theorem xB (S : List Nat) (k m pc : Nat) (L : xL) (st : List Value) (h : xH) : xE m pc L st h = (xP m pc).bind fun w => xF (fun pc' L' st' h' => xU S k m pc' L' st' h') xM w L st h := by
  rw [xE_step]
  congr 1
  funext w
  congr 1
  funext pc' L' st' h'
  exact (xU_eq S k m pc' L' st' h').symm
/-- THE CONTRACT OUT OF THE SMALL MACHINE'S MEANING -/
theorem xM_con (l : Launch) (D : va_G) (G : xG) (Bs : Nat) {j : Nat} {q1 : xMI} (hq : xmis[j]? = some q1) {as : List Value} {h h1 : xH} {r1 : Option Value} (hm : xM j as h = some (r1, h1)) (hwf : xwf h) : xCon l D G Bs q1 as h r1 h1 := by
  obtain ⟨hl, hc⟩ := xcond_k hm
  obtain ⟨n, hn⟩ := xEE_run xP xN hc
  exact x_con hq hwf (x_main l D G Bs n j q1 hq 0 _ [] h r1 h1 hn) (Nat.le_of_ble_eq_true hl)
theorem xM_go {j : Nat} {as : List Value} {h h1 : xH} {r1 : Option Value} (hm : xM j as h = some (r1, h1)) : xge h h1 := by
  obtain ⟨hl, hc⟩ := xcond_k hm
  obtain ⟨n, hn⟩ := xEE_run xP xN hc
  exact xrun_go n _ _ _ _ _ _ _ hn
