/-! Steps of both objects: questions -/
def QR (jc jm : Nat) (as : List Value) (A : aT) : Prop := ∃ r A', AW A' ∧ cstep jc as A r A' ∧ mstep jm as A r A'
def GO (h : xH) (a : Nat) : Prop := ∀ S, xfR (pS h a S) 0 4 0 = some a ∧ ∀ z, xgu (pS h a S) 0 4 z = z
theorem RFc_m0 {S : mS} {f : Nat → Int32} {A : aT} (h : RFc (m0 S f) A) : RFc S A := by
  obtain ⟨g1, g2, g3, g4, g5⟩ := h
  rw [m0_n _ _ (by decide)] at g3 g4 g5
  exact ⟨g1, g2, g3, g4, g5⟩
theorem RFc_0m {S : mS} {A : aT} (h : RFc S A) (f : Nat → Int32) : RFc (m0 S f) A := by
  obtain ⟨g1, g2, g3, g4, g5⟩ := h
  refine ⟨g1, g2, ?_, ?_, ?_⟩
  · rw [m0_n _ _ (by decide)]; exact g3
  · rw [m0_n _ _ (by decide)]; exact g4
  · rw [m0_n _ _ (by decide)]; exact g5
theorem HS_GO {X : hD} {M : mS} {h : xH} (hh : HS X M h) (hp : PM X.1) : GO h (X.1 5) := fun S => by
  have H := HS_scene hh (hp.1 5 (by decide)) S
  have h0 := X_0 H
  exact ⟨h0, fun z => X_g H z⟩
/-- now is another scene that says the same -/
theorem CL_now {X : hD} {A : aT} (hA : AW A) (hc : CL X A) {S' : sS} {σ : gT} (hS : CSc σ S') : CL (X.1, X.2.1, va_up X.2.2.1 (X.1 5) S', X.2.2.2) (σ, A.2) := by
  obtain ⟨hp, hcc, hn, hk⟩ := hc
  refine ⟨hp, hcc, ?_, fun k hk' => ?_⟩
  · show CSc σ (va_up X.2.2.1 (X.1 5) S' (X.1 5))
    rw [up_s]; exact hS
  · have hk2 : k < A.2.1 := hk'
    have k5 : k < 5 := by have := hA.2.1; omega
    have n5 : X.1 k ≠ X.1 5 := fun q => by have := hp.2 k 5 (by omega) (by decide) q; omega
    show CSc (A.2.2.1 k) (va_up X.2.2.1 (X.1 5) S' (X.1 k))
    rw [up_n _ _ n5]
    exact hk k hk'
theorem q_ans {A : aT} (hA : AW A) {jc jm : Nat} {as : List Value} {r : Int32} (hc : ∀ h a S, GO h a → CSc A.1 S → ∃ S', xM jc (.ref 0 :: as) (pS h a S) = some (some (.int r), pS h a S') ∧ CSc A.1 S') (hm : ∀ (h : xH) (S : mS) (f : Nat → Int32), RFc S A → MSc A.1 f → ∃ S', xM jm (.ref 104 :: as) (pM h 104 (m0 S f)) = some (some (.int r), pM h 104 (m0 S' f)) ∧ KM S S') : QR jc jm as A := by
  refine ⟨r, A, hA, fun X M h hh hC => ?_, fun h M hR => ?_⟩
  · have p5 := hC.1.1 5 (by decide)
    obtain ⟨S', e1, e2⟩ := hc h (X.1 5) (X.2.2.1 (X.1 5)) (HS_GO hh hC.1) hC.2.2.1
    rw [X_S hh p5] at e1
    exact ⟨_, _, e1, HS_scene hh p5 S', CL_now hA hC e2⟩
  · obtain ⟨S', e1, e2⟩ := hm h M (M.1 0) hR.1 hR.2
    rw [m0_id] at e1
    refine ⟨_, e1, RFc_0m (RFc_KM hR.1 e2) _, ?_⟩
    rw [m0_0]; exact hR.2
theorem q_refk {A : aT} (hA : AW A) {jc jm : Nat} {as : List Value} {r : Int32} (hr : r = -2 ∨ r = -3 ∨ r = -4) (hc : ∀ X M h, HS X M h → CL X A → xM jc (.ref 0 :: as) h = xgu h 0 4 (xcI (xM 97 [.ref 0, .int r] h) fun v5 h4 => some (some (.int v5), h4))) (hm : ∀ (h : xH) (S : mS) (f : Nat → Int32), RFc S A → MSc A.1 f → xM jm (.ref 104 :: as) (pM h 104 (m0 S f)) = xgu (pM h 104 (m0 S f)) 104 5 (xcI (xM 104 [.ref 104, .int r] (pM h 104 (m0 S f))) fun v5 h4 => some (some (.int v5), h4))) : QR jc jm as A := by
  obtain ⟨k, k3, kk, -, kr⟩ := r_k hr A A.1
  refine ⟨r, bmp A k, AW_bmp hA k, fun X M h hh hC => ?_, fun h M hR => ?_⟩
  · obtain ⟨h', e1, e2⟩ := c_counted hh kk
    refine ⟨_, h', ?_, e2, hC.1, CLc_bmp hC.2.1 k3, hC.2.2⟩
    rw [hc X M h hh hC, X_g hh, e1, xcI_some]
  · have e := hm h M (M.1 0) hR.1 hR.2
    rw [ml_gu, m_refuses M k3 kr, xcI_some, m0_id] at e
    refine ⟨_, e, RFc_0m ?_ _, by rw [m0_0]; exact hR.2⟩
    obtain ⟨g1, g2, g3, g4, g5⟩ := hR.1
    refine ⟨g1, g2, fun j hj => ?_, fun i hi => ?_, fun j hj => ?_⟩
    · rw [sA_s]
      show _ = upd A.2.2.2.2.2 k (A.2.2.2.2.2 k + 1) j
      by_cases e : j = k
      · subst e; rw [pk_us, pk_us, g3 j hj]
      · rw [pk_un e, pk_un e, g3 j hj]
    · rw [sA_n _ _ (by decide)]; exact g4 i hi
    · rw [sA_n _ _ (by decide)]; exact g5 j hj
/-- refused for a bad argument -/
theorem q_ref {A : aT} (hA : AW A) {jc jm : Nat} {as : List Value} (hc : ∀ h a S, GO h a → CSc A.1 S → xM jc (.ref 0 :: as) (pS h a S) = xgu (pS h a S) 0 4 (xcI (xM 97 [.ref 0, .int (-2)] (pS h a S)) fun v5 h4 => some (some (.int v5), h4))) (hm : ∀ (h : xH) (S : mS) (f : Nat → Int32), MSc A.1 f → xM jm (.ref 104 :: as) (pM h 104 (m0 S f)) = xgu (pM h 104 (m0 S f)) 104 5 (xcI (xM 104 [.ref 104, .int (-2)] (pM h 104 (m0 S f))) fun v5 h4 => some (some (.int v5), h4))) : QR jc jm as A :=
  q_refk hA (Or.inl rfl) (fun X M h hh hC => by
    have e := hc h (X.1 5) (X.2.2.1 (X.1 5)) (HS_GO hh hC.1) hC.2.2.1
    rw [X_S hh (hC.1.1 5 (by decide))] at e
    exact e) (fun h S f _ hM => hm h S f hM)
theorem in_dec (x : Int32) {n : Nat} (h1 : 1 ≤ n) (hn : n < 2 ^ 31) {u v : Int32} (hu : u = nI n) (hv : v = nI (n - 1)) : (∃ j, j < n ∧ x = nI j ∧ (∀ h, xM 95 [.int x, .int u] h = some (some (.int 1), h)) ∧ ∀ h, xM 103 [.int x, .int 0, .int v] h = some (some (.int 1), h)) ∨ ((∀ h, xM 95 [.int x, .int u] h = some (some (.int 0), h)) ∧ ∀ h, xM 103 [.int x, .int 0, .int v] h = some (some (.int 0), h)) := by
  subst hu hv
  rcases pk_ix x hn with q | q | ⟨j, hj, rfl⟩
  · refine Or.inr ⟨fun h => ?_, fun h => m_in_n (fun z => Int32.not_lt.mpr z.1 q) h⟩
    rw [xb95, if_pos q]
  · refine Or.inr ⟨fun h => ?_, fun h => m_in_n (fun z => ?_) h⟩
    · rw [xb95, if_neg (Int32.not_lt.mpr q)]
      split <;> rfl
    · have := z.2
      rw [Int32.le_iff_toInt_le, nI_toInt (by omega)] at this q
      omega
  · refine Or.inl ⟨j, hj, rfl, fun h => ?_, fun h => m_in_y ?_ ?_ h⟩
    · rw [xb95, if_neg (nI_pos (by omega)), if_pos (nI_lt hj hn)]
    · exact Int32.not_lt.mp (nI_pos (by omega))
    · rw [Int32.le_iff_toInt_le, nI_toInt (by omega), nI_toInt (by omega)]; omega
section ASK
variable {A : aT}
theorem s_of (hA : AW A) (x w : Int32) : QR 80 166 [.int x, .int w] A := by
  obtain ⟨hW1, hW2, hW3, hW4, hW5, hW6, hW7, hW8⟩ := id hA.1
  rcases sh_dec A.1.2.1 A.1.2.2.1 A.1.2.2.2.1 x with ⟨s, hs, rfl⟩ | ⟨n1, n2⟩
  · rcases in_dec w (n := 7) (by decide) (by decide) (u := 7) (v := 6) rfl rfl with ⟨j, hj, rfl, i1, i2⟩ | ⟨i1, i2⟩
    · refine q_ans hA (r := vsh A.1.2.1 A.1.2.2.1 A.1.2.2.2.1 s j) (fun h a S hg hS => ⟨S, ?_, hS⟩) (fun h S f _ hM => ⟨S, ?_, KM_rf S⟩)
      · rw [xb80, (hg S).1, Option.bind_some, sl_gu, c_hasY hS.2.1 hs, xcI_some, if_neg one_ne, i1, xcI_some, if_neg one_ne, (hg S).1, Option.bind_some, sl_gu, c_shapeValue hS.2.1 hW6 hs hj, xcI_some]
      · rw [xb166, ml_gu, m_isY hM.2.1 hs, xcI_some, if_neg one_ne, i2, xcI_some, if_neg one_ne, ml_gu, m_told0 hM.2.1 hW4 hW6 hs hj, xcI_some]
    · refine q_ref hA (fun h a S hg hS => ?_) (fun h S f hM => ?_)
      · rw [xb80, (hg S).1, Option.bind_some, sl_gu, c_hasY hS.2.1 hs, xcI_some, if_neg one_ne, i1, xcI_some, if_pos rfl]
      · rw [xb166, ml_gu, m_isY hM.2.1 hs, xcI_some, if_neg one_ne, i2, xcI_some, if_pos rfl]
  · refine q_ref hA (fun h a S hg hS => ?_) (fun h S f hM => ?_)
    · rw [xb80, (hg S).1, Option.bind_some, sl_gu, n1 h a S hS.2.1, xcI_some, if_pos rfl]
    · rw [xb166, ml_gu, n2 h 104 S f hM.2.1, xcI_some, if_pos rfl]
theorem s_view (hA : AW A) (x w : Int32) : QR 81 167 [.int x, .int w] A := by
  obtain ⟨hW1, hW2, hW3, hW4, hW5, hW6, hW7, hW8⟩ := id hA.1
  rcases sh_dec A.1.2.1 A.1.2.2.1 A.1.2.2.2.1 x with ⟨s, hs, rfl⟩ | ⟨n1, n2⟩
  · rcases in_dec w (n := 4) (by decide) (by decide) (u := 4) (v := 3) rfl rfl with ⟨j, hj, rfl, i1, i2⟩ | ⟨i1, i2⟩
    · refine q_ans hA (r := vvw (vw A.1.2.1 A.1.2.2.2.2.1 s) j) (fun h a S hg hS => ⟨S, ?_, hS⟩) (fun h S f _ hM => ⟨S, ?_, KM_rf S⟩)
      · rw [xb81, (hg S).1, Option.bind_some, sl_gu, c_hasY hS.2.1 hs, xcI_some, if_neg one_ne, i1, xcI_some, if_neg one_ne, (hg S).1, Option.bind_some, sl_gu, c_viewValue hS.2.1 hW6 hs j, xcI_some]
      · rw [xb167, ml_gu, m_isY hM.2.1 hs, xcI_some, if_neg one_ne, i2, xcI_some, if_neg one_ne, ml_gu, m_viewOf hM.2.1 hW4 hW6 hs, xcI_some, m_partv (vw_ok hW4 hW6 hs) hj, xcI_some]
    · refine q_ref hA (fun h a S hg hS => ?_) (fun h S f hM => ?_)
      · rw [xb81, (hg S).1, Option.bind_some, sl_gu, c_hasY hS.2.1 hs, xcI_some, if_neg one_ne, i1, xcI_some, if_pos rfl]
      · rw [xb167, ml_gu, m_isY hM.2.1 hs, xcI_some, if_neg one_ne, i2, xcI_some, if_pos rfl]
  · refine q_ref hA (fun h a S hg hS => ?_) (fun h S f hM => ?_)
    · rw [xb81, (hg S).1, Option.bind_some, sl_gu, n1 h a S hS.2.1, xcI_some, if_pos rfl]
    · rw [xb167, ml_gu, n2 h 104 S f hM.2.1, xcI_some, if_pos rfl]
theorem m_inScreen {x y : Int32} (h1 : ∀ h, xM 103 [.int x, .int 0, .int 63] h = some (some (.int 1), h)) (h2 : ∀ h, xM 103 [.int y, .int 0, .int 63] h = some (some (.int 1), h)) (h : xH) : xM 168 [.int x, .int y] h = some (some (.int 1), h) := by
  rw [xb168, h1, xcI_some, if_neg one_ne, h2, xcI_some, if_neg one_ne]
theorem s_hit (hA : AW A) (x y i : Int32) : QR 82 171 [.int x, .int y, .int i] A := by
  obtain ⟨hW1, hW2, hW3, hW4, hW5, hW6, hW7, hW8⟩ := id hA.1
  rcases in_dec x (n := 64) (by decide) (by decide) (u := 64) (v := 63) rfl rfl with ⟨px, hx, -, i1, i2⟩ | ⟨i1, i2⟩
  · rcases in_dec y (n := 64) (by decide) (by decide) (u := 64) (v := 63) rfl rfl with ⟨py, hy, -, j1, j2⟩ | ⟨j1, j2⟩
    · by_cases c : i < 0
      · refine q_ref hA (fun h a S hg hS => ?_) (fun h S f hM => ?_)
        · rw [xb82, i1, xcI_some, if_neg one_ne, j1, xcI_some, if_neg one_ne, if_pos c]
        · rw [xb171, m_inScreen i2 j2, xcI_some, if_neg one_ne, if_pos c]
      · obtain ⟨k, hk, rfl⟩ := nI_of c
        have key : ∃ r : Int32, HIT A.1.2.2.1 (hitp A.1.2.1 A.1.2.2.2.2.1 x y) k r := by
          by_cases q : ∃ u, u < 16 ∧ hitp A.1.2.1 A.1.2.2.2.2.1 x y u = true ∧ rnk A.1.2.2.1 (hitp A.1.2.1 A.1.2.2.2.2.1 x y) u = k
          · obtain ⟨u, u1, u2, u3⟩ := q
            exact ⟨nI u, Or.inl ⟨u, u1, u2, u3, rfl⟩⟩
          · exact ⟨-1, Or.inr ⟨fun u u1 u2 u3 => q ⟨u, u1, u2, u3⟩, rfl⟩⟩
        obtain ⟨r, hr⟩ := key
        refine q_ans hA (r := r) (fun h a S hg hS => ⟨S, ?_, hS⟩) (fun h S f _ hM => ⟨S, ?_, KM_rf S⟩)
        · obtain ⟨r', e1, e2⟩ := c_hit (h := h) (a := a) hS.2.1 hW6 hW5 x y hk
          rw [xb82, i1, xcI_some, if_neg one_ne, j1, xcI_some, if_neg one_ne, if_neg c, (hg S).1, Option.bind_some, sl_gu, e1, xcI_some, HIT_uniq hr e2]
        · obtain ⟨r', e1, e2⟩ := m_hit (h := h) (a := 104) (S := S) hM.2.1 hW4 hW6 hW5 x y hk
          rw [xb171, m_inScreen i2 j2, xcI_some, if_neg one_ne, if_neg c, e1, HIT_uniq hr e2]
    · refine q_ref hA (fun h a S hg hS => ?_) (fun h S f hM => ?_)
      · rw [xb82, i1, xcI_some, if_neg one_ne, j1, xcI_some, if_pos rfl]
      · rw [xb171, xb168, i2, xcI_some, if_neg one_ne, j2, xcI_some, if_pos rfl, xcI_some, if_pos rfl]
  · refine q_ref hA (fun h a S hg hS => ?_) (fun h S f hM => ?_)
    · rw [xb82, i1, xcI_some, if_pos rfl]
    · rw [xb171, xb168, i2, xcI_some, if_pos rfl, xcI_some, if_pos rfl]
theorem s_within (hA : AW A) (x y w v : Int32) : QR 83 172 [.int x, .int y, .int w, .int v] A := by
  obtain ⟨hW1, hW2, hW3, hW4, hW5, hW6, hW7, hW8⟩ := id hA.1
  rcases bx_make x y w v with ⟨b, hb, e0, e109, e110⟩ | ⟨e0, e109⟩
  · refine q_ans hA (r := nI (cnt (fun t => decide (A.1.2.1 t ≠ 0 ∧ cme (A.1.2.1 t) b ≠ 0)) 16)) (fun h a S hg hS => ⟨S, ?_, hS⟩) (fun h S f _ hM => ⟨S, ?_, KM_rf S⟩)
    · rw [xb83, e0, xcI_some, if_neg (bok_ne0 hb), (hg S).1, Option.bind_some, sl_gu, c_within hS.2.1 b, xcI_some]
    · rw [xb172, e109, xcI_some, if_neg one_ne, m_within hM.2.1 hW4 hb e110]
  · refine q_ref hA (fun h a S hg hS => ?_) (fun h S f hM => ?_)
    · rw [xb83, e0, xcI_some, if_pos rfl]
    · rw [xb172, e109, xcI_some, if_pos rfl]
theorem s_nearest (hA : AW A) (x y : Int32) : QR 84 175 [.int x, .int y] A := by
  obtain ⟨hW1, hW2, hW3, hW4, hW5, hW6, hW7, hW8⟩ := id hA.1
  rcases in_dec x (n := 64) (by decide) (by decide) (u := 64) (v := 63) rfl rfl with ⟨px, hx, rfl, i1, i2⟩ | ⟨i1, i2⟩
  · rcases in_dec y (n := 64) (by decide) (by decide) (u := 64) (v := 63) rfl rfl with ⟨py, hy, rfl, j1, j2⟩ | ⟨j1, j2⟩
    · by_cases q : ∃ r, NRr A.1.2.1 A.1.2.2.1 px py r
      · obtain ⟨r, hr⟩ := q
        refine q_ans hA (r := r) (fun h a S hg hS => ⟨S, ?_, hS⟩) (fun h S f _ hM => ⟨S, ?_, KM_rf S⟩)
        · obtain ⟨r', e1, e2⟩ := c_nearest (h := h) (a := a) hS.2.1 hW4 hW5 hx hy
          rw [xb84, i1, xcI_some, if_neg one_ne, j1, xcI_some, if_neg one_ne, (hg S).1, Option.bind_some, sl_gu, e1, xcI_some, NRr_uniq hr e2]
        · obtain ⟨r', e1, e2⟩ := m_nearest (h := h) (a := 104) (S := S) hM.2.1 hW4 hW5 hx hy
          rw [xb175, m_inScreen i2 j2, xcI_some, if_neg one_ne, e1, NRr_uniq hr e2]
      · refine q_ans hA (r := 0) (fun h a S hg hS => ?_) (fun h S f _ hM => ?_)
        · obtain ⟨r', e1, e2⟩ := c_nearest (h := h) (a := a) hS.2.1 hW4 hW5 hx hy
          exact absurd ⟨r', e2⟩ q
        · obtain ⟨r', e1, e2⟩ := m_nearest (h := h) (a := 104) (S := S) hM.2.1 hW4 hW5 hx hy
          exact absurd ⟨r', e2⟩ q
    · refine q_ref hA (fun h a S hg hS => ?_) (fun h S f hM => ?_)
      · rw [xb84, i1, xcI_some, if_neg one_ne, j1, xcI_some, if_pos rfl]
      · rw [xb175, xb168, i2, xcI_some, if_neg one_ne, j2, xcI_some, if_pos rfl, xcI_some, if_pos rfl]
  · refine q_ref hA (fun h a S hg hS => ?_) (fun h S f hM => ?_)
    · rw [xb84, i1, xcI_some, if_pos rfl]
    · rw [xb175, xb168, i2, xcI_some, if_pos rfl, xcI_some, if_pos rfl]
theorem s_damage (hA : AW A) (i w : Int32) : QR 85 176 [.int i, .int w] A := by
  obtain ⟨hW1, hW2, hW3, hW4, hW5, hW6, hW7, hW8⟩ := id hA.1
  by_cases c : i < 0
  · refine q_ref hA (fun h a S hg hS => ?_) (fun h S f hM => ?_)
    · rw [xb85, if_pos c]
    · rw [xb176, if_pos c]
  · obtain ⟨k, hk, rfl⟩ := nI_of c
    rcases in_dec w (n := 4) (by decide) (by decide) (u := 4) (v := 3) rfl rfl with ⟨j, hj, rfl, i1, i2⟩ | ⟨i1, i2⟩
    · refine q_ans hA (r := vdm A.1.2.2.2.2.2 k j) (fun h a S hg hS => ⟨S, ?_, hS⟩) (fun h S f _ hM => ⟨S, ?_, KM_rf S⟩)
      · rw [xb85, if_neg c, i1, xcI_some, if_neg one_ne, (hg S).1, Option.bind_some, sl_s1, Option.bind_some, sl_gd, c_dvalue hS.2.2 hW8 hk j, xcI_some]
      · rw [xb176, if_neg c, i2, xcI_some, if_neg one_ne, ml_f0, Option.bind_some, m_r305, Option.bind_some, hM.2.2.1]
        by_cases q : k < A.1.2.2.2.2.2.length
        · rw [if_pos (nI_lt q (by omega)), ml_gu, m_dvalue hM.2.2 hW7 hW8 q hj]
        · rw [if_neg (nI_nlt (by omega) (by omega))]
          unfold vdm
          rw [if_neg q]
    · refine q_ref hA (fun h a S hg hS => ?_) (fun h S f hM => ?_)
      · rw [xb85, if_neg c, i1, xcI_some, if_pos rfl]
      · rw [xb176, if_neg c, i2, xcI_some, if_pos rfl]
theorem s_tree (hA : AW A) (w : Int32) : QR 86 178 [.int w] A := by
  obtain ⟨hW1, hW2, hW3, hW4, hW5, hW6, hW7, hW8⟩ := id hA.1
  rcases in_dec w (n := 4) (by decide) (by decide) (u := 4) (v := 3) rfl rfl with ⟨j, hj, rfl, i1, i2⟩ | ⟨i1, i2⟩
  · refine q_ans hA (r := tval A.1.1 A.1.2.1 j) (fun h a S hg hS => ⟨S, ?_, hS⟩) (fun h S f _ hM => ?_)
    · rw [xb86, i1, xcI_some, if_neg one_ne, (hg S).1, Option.bind_some, sl_s0, Option.bind_some, sl_gt, c_summary hW1 hW4 (CTr_B hW1 hS.1) hj, xcI_some]
    · obtain ⟨S', e1, e2⟩ := m_treeOf (h := h) (a := 104) (S := S) hW1 hW2 hW4 (MTr_B hW1 hM.1) hj
      refine ⟨S', ?_, KH_KM (SV_KH e2)⟩
      rw [xb178, i2, xcI_some, if_neg one_ne, ml_gu, e1, xcI_some]
  · refine q_ref hA (fun h a S hg hS => ?_) (fun h S f hM => ?_)
    · rw [xb86, i1, xcI_some, if_pos rfl]
    · rw [xb178, i2, xcI_some, if_pos rfl]
theorem m_walksR {T : tS} {I : Nat → Prop} {sb f : Nat → Int32} (hI : INVt T I) (hR : RM T sb (bB0 T sb) f) (h : xH) (S : mS) : ∃ S', xM 143 [.ref 104, .int (f 304)] (pM h 104 (m0 S f)) = some (none, pM h 104 (m0 S' f)) ∧ SV S S' ∧ HL (S'.1 10) (wN T) ∧ HL (S'.1 11) ((wN T).map (dep T (rkv T T.1))) ∧ S'.2.1 12 = nI (wN T).length ∧ HL (S'.1 13) (wS T) ∧ S'.2.1 14 = nI (wS T).length := by
  obtain ⟨⟨r, hr, -⟩, -⟩ := id hI
  have := m_walks (h := h) (a := 104) (S := S) hI hR hr
  rw [hR.1]
  unfold wN wS
  rw [rkv_eq hr]
  exact this
theorem s_node (hA : AW A) (i w : Int32) : QR 87 180 [.int i, .int w] A := by
  obtain ⟨hW1, hW2, hW3, hW4, hW5, hW6, hW7, hW8⟩ := id hA.1
  have wl := (wN_len hW1).1
  by_cases c : i < 0
  · refine q_ref hA (fun h a S hg hS => ?_) (fun h S f hM => ?_)
    · rw [xb87, if_pos c]
    · rw [xb180, if_pos c]
  · obtain ⟨k, hk, rfl⟩ := nI_of c
    rcases in_dec w (n := 6) (by decide) (by decide) (u := 6) (v := 5) rfl rfl with ⟨j, hj, rfl, i1, i2⟩ | ⟨i1, i2⟩
    · refine q_ans hA (r := if k < (wN A.1.1).length then nval A.1.1 A.1.2.1 ((wN A.1.1).getD k 0) j else -5) (fun h a S hg hS => ?_) (fun h S f _ hM => ?_)
      · have hR := CTr_B hW1 hS.1
        obtain ⟨g', l1, l2⟩ := c_lineRoot (h := h) (a := a) hW1 hR
        have hS2 := CSc_KW hS (KW_6 S g')
        refine ⟨sB S 6 g', ?_, hS2⟩
        rw [xb87, if_neg c, i1, xcI_some, if_neg one_ne, (hg S).1, Option.bind_some, sl_s0, Option.bind_some, Option.bind_some, sl_s0, Option.bind_some, sl_t0, Option.bind_some, hR.1, sl_gt, l1, xcI_some]
        by_cases q : k < (wN A.1.1).length
        · rw [if_pos (nI_lt q (by omega)), if_pos q, (hg _).1, Option.bind_some, sl_s0, Option.bind_some, sl_gt, c_lineValue hW1 (CTr_B hW1 hS2.1) (by rw [sB_s]; exact l2) q hj, xcI_some]
        · rw [if_neg (nI_nlt (by omega) (by omega)), if_neg q]
      · have hR := MTr_B hW1 hM.1
        obtain ⟨S', e1, e2, e3, e4, e5, -⟩ := m_walksR hW1 hR h S
        refine ⟨S', ?_, KH_KM (SV_KH e2)⟩
        have hroot : xri (pM h 104 (m0 S f)) 0 (104 + 1) 304 = some (f 304) := m_r0 h 104 S f (i := 304) (by decide)
        rw [xb180, if_neg c, i2, xcI_some, if_neg one_ne, ml_f0, Option.bind_some, hroot, Option.bind_some, ml_gu, e1, xcV_some, a_i12, Option.bind_some, e5]
        by_cases q : k < (wN A.1.1).length
        · rw [if_pos (nI_lt q (by omega)), if_pos q, ml_gu, m_walkedOf hW1 hW4 hR e3 e4 q hj, xcI_some]
        · rw [if_neg (nI_nlt (by omega) (by omega)), if_neg q]
    · refine q_ref hA (fun h a S hg hS => ?_) (fun h S f hM => ?_)
      · rw [xb87, if_neg c, i1, xcI_some, if_pos rfl]
      · rw [xb180, if_neg c, i2, xcI_some, if_pos rfl]
theorem s_walk (hA : AW A) (i : Int32) : QR 88 181 [.int i] A := by
  obtain ⟨hW1, hW2, hW3, hW4, hW5, hW6, hW7, hW8⟩ := id hA.1
  have wl := (wS_len hW1).1
  by_cases c : i < 0
  · refine q_ref hA (fun h a S hg hS => ?_) (fun h S f hM => ?_)
    · rw [xb88, if_pos c]
    · rw [xb181, if_pos c]
  · obtain ⟨k, hk, rfl⟩ := nI_of c
    refine q_ans hA (r := if k < (wS A.1.1).length then nI ((wS A.1.1).getD k 0) else -1) (fun h a S hg hS => ?_) (fun h S f _ hM => ?_)
    · have hR := CTr_B hW1 hS.1
      obtain ⟨S', l1, l2, l3⟩ := c_noteAll (h := h) (a := a) hW1 hR
      refine ⟨S', ?_, CSc_KW hS l3⟩
      rw [xb88, if_neg c, (hg S).1, Option.bind_some, sl_s0, Option.bind_some, sl_gt, l1, xcI_some]
      by_cases q : k < (wS A.1.1).length
      · have hv : S'.1 7 k = nI ((wS A.1.1).getD k 0) := by
          rw [List.getD_eq_getElem?_getD, List.getElem?_eq_getElem q]
          exact l2 k _ (List.getElem?_eq_getElem q)
        rw [if_pos (nI_lt q (by omega)), if_pos q, (hg _).1, Option.bind_some, sl_s0, Option.bind_some, sl_t8, Option.bind_some, c_r7 h a S' (by omega), Option.bind_some, hv]
      · rw [if_neg (nI_nlt (by omega) (by omega)), if_neg q]
    · have hR := MTr_B hW1 hM.1
      obtain ⟨S', e1, e2, -, -, -, e6, e7⟩ := m_walksR hW1 hR h S
      refine ⟨S', ?_, KH_KM (SV_KH e2)⟩
      have hroot : xri (pM h 104 (m0 S f)) 0 (104 + 1) 304 = some (f 304) := m_r0 h 104 S f (i := 304) (by decide)
      rw [xb181, if_neg c, ml_f0, Option.bind_some, hroot, Option.bind_some, ml_gu, e1, xcV_some, a_i14, Option.bind_some, e7]
      by_cases q : k < (wS A.1.1).length
      · have hv : S'.1 13 k = nI ((wS A.1.1).getD k 0) := by
          rw [List.getD_eq_getElem?_getD, List.getElem?_eq_getElem q]
          exact e6 k _ (List.getElem?_eq_getElem q)
        rw [if_pos (nI_lt q (by omega)), if_pos q, ml_f13, Option.bind_some, a_r13 h 104 S' f (by omega), Option.bind_some, hv]
      · rw [if_neg (nI_nlt (by omega) (by omega)), if_neg q]
end ASK
