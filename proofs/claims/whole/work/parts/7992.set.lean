/-! Calls that can be undone -/
def uN (u : Nat) : Nat := if u = 5 then 4 else u
def uT (u : Nat) : Nat := if u = 5 then 5 else u + 1
def uS (u k : Nat) : Nat := if u = 5 then k + 1 else k
theorem uT_N (u : Nat) : uT u = uN u + 1 := by unfold uT uN; split <;> omega
/-- a state more; one more refused -/
def nxt (A : aT) (σ' : gT) : aT := (σ', uT A.2.1, (fun k => if k < uN A.2.1 then A.2.2.1 (uS A.2.1 k) else A.1), A.2.2.2.1, A.2.2.2.2.1, A.2.2.2.2.2)
def bmp (A : aT) (k : Nat) : aT := (A.1, A.2.1, A.2.2.1, A.2.2.2.1, A.2.2.2.2.1, upd A.2.2.2.2.2 k (A.2.2.2.2.2 k + 1))
def stl (A : aT) (r : Int32) (σ' : gT) : aT := if r = -2 then bmp A 0 else if r = -3 then bmp A 1 else if r = -4 then bmp A 2 else nxt A σ'
theorem AW_nxt {A : aT} (h : AW A) {σ' : gT} (hW : WF σ') : AW (nxt A σ') := by
  obtain ⟨h1, h2, h3, h4, h5⟩ := h
  refine ⟨hW, ?_, fun k hk => ?_, h4, h5⟩
  · show uT A.2.1 ≤ 5
    unfold uT; split <;> omega
  · show WF (if k < uN A.2.1 then A.2.2.1 (uS A.2.1 k) else A.1)
    by_cases c : k < uN A.2.1
    · rw [if_pos c]
      refine h3 _ ?_
      unfold uN at c
      unfold uS
      split at c <;> simp_all <;> omega
    · rw [if_neg c]; exact h1
theorem AW_bmp {A : aT} (h : AW A) (k : Nat) : AW (bmp A k) := h
theorem AW_stl {A : aT} (h : AW A) {r : Int32} {σ' : gT} (hO : OPr A.1 r σ') : AW (stl A r σ') := by
  unfold stl
  split
  · exact AW_bmp h 0
  · split
    · exact AW_bmp h 1
    · split
      · exact AW_bmp h 2
      · exact AW_nxt h hO.1
theorem PM_comp {p p' τ : Nat → Nat} (h : PM p) (h1 : ∀ i, i < 7 → τ i < 7) (h2 : ∀ i j, i < 7 → j < 7 → τ i = τ j → i = j) (h3 : ∀ i, i < 7 → p' i = p (τ i)) : PM p' := ⟨fun i hi => by rw [h3 i hi]; exact h.1 _ (h1 i hi), fun i j hi hj e => by
  rw [h3 i hi, h3 j hj] at e
  exact h2 i j hi hj (h.2 _ _ (h1 i hi) (h1 j hj) e)⟩
theorem c_remember {X : hD} {M : mS} {h : xH} (hh : HS X M h) (hp : PM X.1) {u : Nat} (hu : u ≤ 5) (h3 : X.2.1 3 = nI u) : ∃ p' h', xM 99 [.ref 0] h = some (none, h') ∧ HS (p', va_up X.2.1 3 (nI (uT u)), X.2.2) M h' ∧ PM p' ∧ p' 5 = X.1 5 ∧ (∀ k, k < uN u → p' k = X.1 (uS u k)) ∧ p' (uN u) = X.1 6 := by
  obtain ⟨p, I, R⟩ := X
  dsimp only at hp h3 hh ⊢
  by_cases c : u = 5
  · subst c
    have step : ∀ (k v : Nat) (p : Nat → Nat) (h : xH), k < 4 → HS (p, I, R) M h → p (k + 1) ∈ SA → ∃ h', xE 99 17 [some (.ref 0), some (.ref v), some (.int (nI k))] [] h = xE 99 17 [some (.ref 0), some (.ref v), some (.int (nI (k + 1)))] [] h' ∧ HS (va_up p k (p (k + 1)), I, R) M h' := fun k v p h hk hh hs => by
      obtain ⟨h', e1, e2⟩ := X_wr hh (k := k) (by omega) hs
      have hr := X_rr hh (k := k + 1) (by omega)
      dsimp only at hr
      refine ⟨h', ?_, e2⟩
      rw [xb99_17, nI_1, if_pos (show nI (k + 1) < (5 : Int32) from nI_lt (b := 5) (by omega) (by decide)), X_2 hh, Option.bind_some, Option.bind_some, hr, Option.bind_some, e1, Option.bind_some]
    obtain ⟨h1, a1, b1⟩ := step 0 (p 0) p h (by decide) hh (hp.1 1 (by decide))
    obtain ⟨h2, a2, b2⟩ := step 1 (p 0) _ h1 (by decide) b1 (by rw [up_n _ _ (by decide)]; exact hp.1 2 (by decide))
    obtain ⟨h3', a3, b3⟩ := step 2 (p 0) _ h2 (by decide) b2 (by rw [up_n _ _ (by decide), up_n _ _ (by decide)]; exact hp.1 3 (by decide))
    obtain ⟨h4, a4, b4⟩ := step 3 (p 0) _ h3' (by decide) b3 (by rw [up_n _ _ (by decide), up_n _ _ (by decide), up_n _ _ (by decide)]; exact hp.1 4 (by decide))
    generalize hpg : va_up (va_up (va_up (va_up p 0 (p (0 + 1))) 1 (va_up p 0 (p (0 + 1)) (1 + 1))) 2 (va_up (va_up p 0 (p (0 + 1))) 1 (va_up p 0 (p (0 + 1)) (1 + 1)) (2 + 1))) 3 (va_up (va_up (va_up p 0 (p (0 + 1))) 1 (va_up p 0 (p (0 + 1)) (1 + 1))) 2 (va_up (va_up p 0 (p (0 + 1))) 1 (va_up p 0 (p (0 + 1)) (1 + 1)) (2 + 1)) (3 + 1)) = p4 at b4
    have v4 : ∀ k, k < 4 → p4 k = p (k + 1) := fun k hk => by
      rw [← hpg]
      rcases (show k = 0 ∨ k = 1 ∨ k = 2 ∨ k = 3 by omega) with rfl | rfl | rfl | rfl <;> rfl
    have o4 : ∀ k, 4 ≤ k → p4 k = p k := fun k hk => by
      rw [← hpg, up_n _ _ (by omega), up_n _ _ (by omega), up_n _ _ (by omega), up_n _ _ (by omega)]
    have s6 := X_1 b4
    dsimp only at s6
    rw [o4 6 (by decide)] at s6
    obtain ⟨h5, a5, b5⟩ := X_wr b4 (k := 4) (v := p 6) (by decide) (hp.1 6 (by decide))
    obtain ⟨h6, a6, b6⟩ := X_ps b5 (p 0)
    dsimp only at b5 b6
    have hI : va_up I 3 (nI (uT 5)) = I := by
      funext k
      by_cases e : k = 3
      · subst e; rw [up_s, h3]; rfl
      · rw [up_n _ _ e]
    refine ⟨_, h6, ?_, by rw [hI]; exact b6, ?_, ?_, ?_, ?_⟩
    · have r0 := X_rr hh (k := 0) (by decide)
      dsimp only at r0
      have x3 := X_3 hh
      dsimp only at x3
      have a5' : xwr h4 29 4 (p 6) 2 = some h5 := a5
      have r0' : xrr h 29 0 = some (p 0) := r0
      rw [xb99, x3, Option.bind_some, h3, if_pos (show nI 5 = (5 : Int32) from rfl), X_2 hh, Option.bind_some, r0', Option.bind_some]
      refine Eq.trans (show _ = _ from a1) ?_
      rw [a2, a3, a4, xb99_17, nI_1, if_neg (show ¬ nI (3 + 1 + 1) < (5 : Int32) by decide), X_2 b4, Option.bind_some, s6, Option.bind_some, a5', Option.bind_some, a6, Option.bind_some]
    · refine PM_comp (τ := fun i => if i < 4 then i + 1 else if i = 4 then 6 else if i = 6 then 0 else i) hp (fun i hi => ?_) (fun i j hi hj e => ?_) (fun i hi => ?_)
      · split
        · omega
        · split
          · omega
          · split <;> omega
      · have q : ∀ i, i < 7 → ∀ j, j < 7 → (if i < 4 then i + 1 else if i = 4 then 6 else if i = 6 then 0 else i) = (if j < 4 then j + 1 else if j = 4 then 6 else if j = 6 then 0 else j) → i = j := by decide
        exact q i hi j hj e
      · rcases (show i < 4 ∨ i = 4 ∨ i = 5 ∨ i = 6 by omega) with q | rfl | rfl | rfl
        · rw [if_pos q, up_n _ _ (by omega), up_n _ _ (by omega), v4 i q]
        · rw [up_n _ _ (by decide), up_s]; rfl
        · rw [up_n _ _ (by decide), up_n _ _ (by decide), o4 5 (by decide)]; rfl
        · rw [up_s]; rfl
    · rw [up_n _ _ (by decide), up_n _ _ (by decide), o4 5 (by decide)]
    · intro k hk
      have hk : k < 4 := hk
      rw [up_n _ _ (by omega), up_n _ _ (by omega), v4 k hk]
      rfl
    · show va_up (va_up p4 4 (p 6)) 6 (p 0) 4 = p 6
      rw [up_n _ _ (by decide), up_s]
  · have hu5 : u < 5 := by omega
    have hN : uN u = u := if_neg c
    have hTu : uT u = u + 1 := if_neg c
    obtain ⟨h1, a1, b1⟩ := X_wr hh (k := u) (v := p 6) hu5 (hp.1 6 (by decide))
    obtain ⟨h2, a2, b2⟩ := X_ps b1 (p u)
    dsimp only at b1 b2
    have x3' := X_3 b2
    dsimp only at x3'
    obtain ⟨h4, a4, b4⟩ := X_p b2 (k := 3) (Or.inl rfl) (nI (u + 1))
    dsimp only at b4
    refine ⟨_, h4, ?_, by rw [hTu]; exact b4, ?_, ?_, ?_, ?_⟩
    · have r0 := X_rr hh (k := u) hu5
      dsimp only at r0
      have x3 := X_3 hh
      dsimp only at x3
      have x1 := X_1 hh
      dsimp only at x1
      rw [xb99, x3, Option.bind_some, h3, if_neg (show ¬ nI u = (5 : Int32) from nI_nel (n := 5) (by omega) (by decide) c), X_2 hh, Option.bind_some, Option.bind_some, r0, Option.bind_some, Option.bind_some, Option.bind_some, x1, Option.bind_some, a1, Option.bind_some, a2, Option.bind_some, x3', Option.bind_some, h3, nI_1, a4, Option.bind_some]
    · refine PM_comp (τ := fun i => if i = u then 6 else if i = 6 then u else i) hp (fun i hi => ?_) (fun i j hi hj e => ?_) (fun i hi => ?_)
      · split
        · omega
        · split <;> omega
      · split at e <;> split at e <;> (try split at e) <;> (try split at e) <;> omega
      · by_cases e1 : i = 6
        · subst e1; rw [up_s, if_neg (by omega), if_pos rfl]
        · rw [up_n _ _ e1]
          by_cases e2 : i = u
          · subst e2; rw [up_s, if_pos rfl]
          · rw [up_n _ _ e2, if_neg e2, if_neg e1]
    · rw [up_n _ _ (by decide), up_n _ _ (by omega)]
    · intro k hk
      rw [hN] at hk
      have : uS u k = k := if_neg c
      rw [this, up_n _ _ (by omega), up_n _ _ (by omega)]
    · rw [hN, up_n _ _ (by omega), up_s]
theorem c_counted {X : hD} {M : mS} {h : xH} (hh : HS X M h) {k : Nat} {r : Int32} (hk : (r = -2 ∧ k = 0) ∨ (r = -3 ∧ k = 1) ∨ (r = -4 ∧ k = 2)) : ∃ h', xM 97 [.ref 0, .int r] h = some (some (.int r), h') ∧ HS (X.1, va_up X.2.1 (7 + k) (X.2.1 (7 + k) + 1), X.2.2) M h' := by
  rcases hk with ⟨rfl, rfl⟩ | ⟨rfl, rfl⟩ | ⟨rfl, rfl⟩
  · obtain ⟨h', e1, e2⟩ := X_p hh (k := 7) (by omega) (X.2.1 7 + 1)
    exact ⟨h', by rw [xb97, if_pos rfl, X_7 hh, Option.bind_some, e1, Option.bind_some], e2⟩
  · obtain ⟨h', e1, e2⟩ := X_p hh (k := 8) (by omega) (X.2.1 8 + 1)
    exact ⟨h', by rw [xb97, if_neg (by decide), if_pos rfl, X_8 hh, Option.bind_some, e1, Option.bind_some], e2⟩
  · obtain ⟨h', e1, e2⟩ := X_p hh (k := 9) (by omega) (X.2.1 9 + 1)
    exact ⟨h', by rw [xb97, if_neg (by decide), if_neg (by decide), if_pos rfl, X_9 hh, Option.bind_some, e1, Option.bind_some], e2⟩
theorem c_counted0 {n : Nat} (hn : n < 2 ^ 31) (h : xH) : xM 97 [.ref 0, .int (nI n)] h = some (some (.int (nI n)), h) := by
  have hp := nI_pos hn
  rw [xb97, if_neg (fun q => hp (by rw [q]; decide)), if_neg (fun q => hp (by rw [q]; decide)), if_neg (fun q => hp (by rw [q]; decide))]
theorem CLc_bmp {X : hD} {A : aT} (hc : CLc X A) {k : Nat} (hk : k < 3) : CLc (X.1, va_up X.2.1 (7 + k) (X.2.1 (7 + k) + 1), X.2.2) (bmp A k) := by
  obtain ⟨h1, h2, h3, h4, h5, h6⟩ := hc
  have e : ∀ j, j < 3 → X.2.1 (7 + j) = A.2.2.2.2.2 j → va_up X.2.1 (7 + k) (X.2.1 (7 + k) + 1) (7 + j) = upd A.2.2.2.2.2 k (A.2.2.2.2.2 k + 1) j := fun j hj q => by
    by_cases z : j = k
    · subst z; rw [up_s, pk_us, q]
    · rw [up_n _ _ (by omega), pk_un z, q]
  exact ⟨by show va_up X.2.1 (7 + k) _ 3 = _; rw [up_n _ _ (by omega)]; exact h1, by show va_up X.2.1 (7 + k) _ 5 = _; rw [up_n _ _ (by omega)]; exact h2, e 0 (by decide) h3, e 1 (by decide) h4, e 2 (by decide) h5, h6⟩
theorem r_neg {r : Int32} (h : r = -2 ∨ r = -3 ∨ r = -4) : r < 0 ∧ r < -1 := by
  rcases h with rfl | rfl | rfl <;> decide
theorem stl_n (A : aT) {n : Nat} (hn : n < 2 ^ 31) (σ' : gT) : stl A (nI n) σ' = nxt A σ' := by
  have hp := nI_pos hn
  unfold stl
  rw [if_neg (fun q => hp (by rw [q]; decide)), if_neg (fun q => hp (by rw [q]; decide)), if_neg (fun q => hp (by rw [q]; decide))]
theorem r_k {r : Int32} (h : r = -2 ∨ r = -3 ∨ r = -4) (A : aT) (σ' : gT) : ∃ k, k < 3 ∧ ((r = -2 ∧ k = 0) ∨ (r = -3 ∧ k = 1) ∨ (r = -4 ∧ k = 2)) ∧ stl A r σ' = bmp A k ∧ (-r) - 2 = nI k := by
  rcases h with rfl | rfl | rfl
  · exact ⟨0, by decide, Or.inl ⟨rfl, rfl⟩, if_pos rfl, by decide⟩
  · exact ⟨1, by decide, Or.inr (Or.inl ⟨rfl, rfl⟩), by unfold stl; rw [if_neg (by decide), if_pos rfl], by decide⟩
  · exact ⟨2, by decide, Or.inr (Or.inr ⟨rfl, rfl⟩), by unfold stl; rw [if_neg (by decide), if_neg (by decide), if_pos rfl], by decide⟩
theorem settle_c {X : hD} {M : mS} {h : xH} {A : aT} (hA : AW A) {σ' : gT} {r : Int32} (hO : OPr A.1 r σ') (hh : HS X M h) (hp : PM X.1) (hc : CLc X A) (hn : CSc σ' (X.2.2.1 (X.1 5))) (hs : CSc A.1 (X.2.2.1 (X.1 6))) (hk : ∀ k, k < A.2.1 → CSc (A.2.2.1 k) (X.2.2.1 (X.1 k))) : ∃ X' h', xM 98 [.ref 0, .int r] h = some (some (.int r), h') ∧ HS X' M h' ∧ CL X' (stl A r σ') := by
  rcases hO.2 with ⟨hr, rfl⟩ | ⟨m, hm, rfl⟩
  · obtain ⟨k, k3, kk, ks, -⟩ := r_k hr A A.1
    obtain ⟨h', e1, e2⟩ := c_counted hh kk
    refine ⟨_, h', ?_, e2, ?_⟩
    · rw [xb98, if_pos (r_neg hr).1, X_g hh, e1, xcI_some]
    · rw [ks]
      exact ⟨hp, CLc_bmp hc k3, hn, hk⟩
  · obtain ⟨p', h', e1, e2, e3, e4, e5, e6⟩ := c_remember hh hp hA.2.1 hc.1
    refine ⟨_, h', ?_, e2, ?_⟩
    · rw [xb98, if_neg (nI_pos hm), X_g hh, e1, xcV_some, X_g e2, c_counted0 hm, xcI_some]
    · rw [stl_n A hm]
      obtain ⟨c1, c2, c3, c4, c5, c6⟩ := hc
      have z3 : ∀ k, k ≠ 3 → va_up X.2.1 3 (nI (uT A.2.1)) k = X.2.1 k := fun k hk => up_n _ _ hk
      refine ⟨e3, ⟨show va_up X.2.1 3 (nI (uT A.2.1)) 3 = nI (uT A.2.1) from up_s _ _ _, (z3 5 (by decide)).trans c2, (z3 7 (by decide)).trans c3, (z3 8 (by decide)).trans c4, (z3 9 (by decide)).trans c5, c6⟩, ?_, fun k hk' => ?_⟩
      · show CSc σ' (X.2.2.1 (p' 5))
        rw [e4]; exact hn
      · have hk2 : k < uT A.2.1 := hk'
        show CSc (if k < uN A.2.1 then A.2.2.1 (uS A.2.1 k) else A.1) (X.2.2.1 (p' k))
        by_cases c : k < uN A.2.1
        · rw [if_pos c, e5 k c]
          refine hk _ ?_
          unfold uN at c
          unfold uS
          split at c <;> simp_all <;> omega
        · rw [if_neg c]
          rw [uT_N] at hk2
          have : k = uN A.2.1 := by omega
          rw [this, e6]
          exact hs
theorem settle_m {h : xH} {S : mS} {f : Nat → Int32} {A : aT} (hA : AW A) {σ' : gT} {r : Int32} (hO : OPr A.1 r σ') (hR : RFc (m0 S f) A) (hn : MSc σ' f) (hs : MSc A.1 (S.1 1)) : ∃ M', xM 108 [.ref 104, .int r] (pM h 104 (m0 S f)) = some (some (.int r), pM h 104 M') ∧ RF M' (stl A r σ') := by
  obtain ⟨g1, g2, g3, g4, g5⟩ := hR
  have e4 : (m0 S f).1 4 = S.1 4 := m0_n _ _ (by decide)
  have e5 : (m0 S f).1 5 = S.1 5 := m0_n _ _ (by decide)
  have e2 : (m0 S f).1 2 = S.1 2 := m0_n _ _ (by decide)
  rw [e4] at g3
  rw [e5] at g4
  rw [e2] at g5
  rcases hO.2 with ⟨hr, rfl⟩ | ⟨m, hm, rfl⟩
  · obtain ⟨k, k3, kk, ks, kr⟩ := r_k hr A A.1
    refine ⟨m0 (sA S 4 (upd (S.1 4) k (S.1 4 k + 1))) f, ?_, ?_⟩
    · rw [xb108, if_pos (r_neg hr).2, ml_gu, m_refuses S k3 kr, xcI_some]
    · rw [ks]
      refine ⟨⟨g1, g2, fun j hj => ?_, fun i hi => ?_, fun j hj => ?_⟩, ?_⟩
      · rw [m0_n _ _ (by decide), sA_s]
        show _ = upd A.2.2.2.2.2 k (A.2.2.2.2.2 k + 1) j
        by_cases e : j = k
        · subst e; rw [pk_us, pk_us, g3 j hj]
        · rw [pk_un e, pk_un e, g3 j hj]
      · rw [m0_n _ _ (by decide), sA_n _ _ (by decide)]; exact g4 i hi
      · rw [m0_n _ _ (by decide), sA_n _ _ (by decide)]; exact g5 j hj
      · rw [m0_0]; exact hn
  · have hu := hA.2.1
    obtain ⟨g, y1, y2, y3⟩ := m_remembers (h := h) (a := 104) (f := f) S hu g1
    refine ⟨m0 (sI (sA S 2 g) 3 (nI (uT A.2.1))) f, ?_, ?_⟩
    · have hnn : ¬ nI m < (-1 : Int32) := fun q => nI_pos hm (by
        rw [Int32.lt_iff_toInt_lt] at q ⊢
        rw [show (-1 : Int32).toInt = -1 by decide] at q
        rw [show (0 : Int32).toInt = 0 by decide]
        omega)
      rw [xb108, if_neg hnn, ml_gu, y1, xcV_some]
      rfl
    · rw [stl_n A hm]
      refine ⟨⟨sI_s _ _ _, (sI_n _ _ (by decide : (6 : Nat) ≠ 3)).trans g2, fun j hj => by rw [m0_n _ _ (by decide), sI_1, sA_n _ _ (by decide)]; exact g3 j hj, fun i hi => by rw [m0_n _ _ (by decide), sI_1, sA_n _ _ (by decide)]; exact g4 i hi, fun k hk => ?_⟩, by rw [m0_0]; exact hn⟩
      have hk2 : k < uT A.2.1 := hk
      rw [m0_n _ _ (by decide), sI_1, sA_s]
      show MSc (if k < uN A.2.1 then A.2.2.1 (uS A.2.1 k) else A.1) (fun i => g (311 * k + i))
      by_cases c : k < uN A.2.1
      · have hlt : uS A.2.1 k < A.2.1 := by
          unfold uN at c
          unfold uS
          split at c <;> simp_all <;> omega
        rw [if_pos c]
        exact MSc_ext (hA.2.2.1 _ hlt) (g5 _ hlt) (fun i hi => y2 k i c hi)
      · rw [if_neg c]
        rw [uT_N] at hk2
        have : k = uN A.2.1 := by omega
        subst this
        exact MSc_ext hA.1 hs (fun i hi => y3 i hi)
/-- both undone-able calls, from the orders -/
theorem c_call {A : aT} (hA : AW A) {j : Nat} {as : List Value} {σ' : gT} {r : Int32} (hO : OPr A.1 r σ') (hC : OPc j as A.1 r σ') {X : hD} {M : mS} {h : xH} (hh : HS X M h) (hc : CL X A) : ∃ X' h', ((xfR h 0 4 1).bind fun v1 => (xfR h 0 4 0).bind fun v2 => xgu h v1 2 (xcV (xM 31 [.ref v1, .ref v2] h) fun h3 => (xfR h3 0 4 0).bind fun v4 => xgu h3 v4 2 (xcI (xM j (.ref v4 :: as) h3) fun v6 h5 => xgu h5 0 4 (xcI (xM 98 [.ref 0, .int v6] h5) fun v8 h7 => some (some (.int v8), h7))))) = some (some (.int r), h') ∧ HS X' M h' ∧ CL X' (stl A r σ') := by
  obtain ⟨hp, hcc, hn, hk⟩ := hc
  have p5 := hp.1 5 (by decide)
  have p6 := hp.1 6 (by decide)
  have hne : X.1 5 ≠ X.1 6 := fun q => by have := hp.2 5 6 (by decide) (by decide) q; omega
  obtain ⟨S', c1, c2⟩ := c_copyFrom (h := h) p5 p6 hne (hh.2.2.2.2.2.1 _ p5) (X.2.2.1 (X.1 6))
  rw [X_S hh p6] at c1
  have H1 := HS_scene hh p6 S'
  have hn1 : va_up X.2.2.1 (X.1 6) S' (X.1 5) = X.2.2.1 (X.1 5) := up_n _ _ hne
  obtain ⟨S2, d1, d2⟩ := hC (pS h (X.1 6) S') (X.1 5) (X.2.2.1 (X.1 5)) hn
  have hid := X_S H1 p5
  dsimp only at hid
  rw [hn1] at hid
  rw [hid] at d1
  have H2 := HS_scene H1 p5 S2
  dsimp only at H2
  obtain ⟨X3, h3, e1, e2, e3⟩ := settle_c (X := (X.1, X.2.1, va_up (va_up X.2.2.1 (X.1 6) S') (X.1 5) S2, X.2.2.2)) hA hO H2 hp hcc (by dsimp only; rw [up_s]; exact d2) (by dsimp only; rw [up_n _ _ (fun q => hne q.symm), up_s]; exact c2 A.1 hA.1 hn) (fun k hk' => by
    have k5 : k < 5 := by have := hA.2.1; omega
    have n5 : X.1 k ≠ X.1 5 := fun q => by have := hp.2 k 5 (by omega) (by decide) q; omega
    have n6 : X.1 k ≠ X.1 6 := fun q => by have := hp.2 k 6 (by omega) (by decide) q; omega
    dsimp only
    rw [up_n _ _ n5, up_n _ _ n6]
    exact hk k hk')
  refine ⟨X3, h3, ?_, e2, e3⟩
  have z0 := X_0 H1
  dsimp only at z0
  rw [X_1 hh, Option.bind_some, X_0 hh, Option.bind_some, X_sg hh p6, c1, xcV_some, z0, Option.bind_some, X_sg H1 p5, d1, xcI_some, X_g H2, e1, xcI_some]
theorem m_call {A : aT} (hA : AW A) {j : Nat} {as : List Value} {σ' : gT} {r : Int32} (hO : OPr A.1 r σ') (hM : OPm j as A.1 r σ') {M : mS} (h : xH) (hR : RF M A) : ∃ M', xgu (pM h 104 M) 104 5 (xcV (xM 105 [.ref 104] (pM h 104 M)) fun h1 => xgu h1 104 5 (xcI (xM j (.ref 104 :: as) h1) fun v3 h2 => xgu h2 104 5 (xcI (xM 108 [.ref 104, .int v3] h2) fun v5 h4 => some (some (.int v5), h4)))) = some (some (.int r), pM h 104 M') ∧ RF M' (stl A r σ') := by
  obtain ⟨g, y1, y2⟩ := m_laysAside (h := h) (a := 104) (f := M.1 0) M
  rw [m0_id] at y1
  obtain ⟨S', f', z1, z2, z3⟩ := hM h 104 (sA M 1 g) (M.1 0) hR.2
  have hRc : RFc (m0 S' f') A := by
    have h1 : RFc (sA M 1 g) A := by
      obtain ⟨g1, g2, g3, g4, g5⟩ := hR.1
      exact ⟨g1, g2, fun k hk => by rw [sA_n _ _ (by decide)]; exact g3 k hk, fun i hi => by rw [sA_n _ _ (by decide)]; exact g4 i hi, fun k hk => by rw [sA_n _ _ (by decide)]; exact g5 k hk⟩
    obtain ⟨g1, g2, g3, g4, g5⟩ := RFc_KM h1 z2
    exact ⟨g1, g2, fun k hk => by rw [m0_n _ _ (by decide)]; exact g3 k hk, fun i hi => by rw [m0_n _ _ (by decide)]; exact g4 i hi, fun k hk => by rw [m0_n _ _ (by decide)]; exact g5 k hk⟩
  have hs1 : MSc A.1 (S'.1 1) := by
    rw [z2.1 1 (Or.inl rfl), sA_s]
    exact MSc_ext hA.1 hR.2 y2
  obtain ⟨M', w1, w2⟩ := settle_m (h := h) hA hO hRc z3 hs1
  refine ⟨M', ?_, w2⟩
  rw [ml_gu, y1, xcV_some, ml_gu, z1, xcI_some, ml_gu, w1, xcI_some]
