/-! Orders on a scene: what an order is; a shape is added -/
/-- what an order leaves of the reference -/
def KM (S S' : mS) : Prop := (∀ k, k = 1 ∨ k = 2 ∨ k = 4 ∨ k = 5 ∨ k = 19 ∨ k = 20 → S'.1 k = S.1 k) ∧ ∀ k, k = 3 ∨ k = 6 ∨ k = 21 ∨ k = 22 ∨ k = 23 → S'.2.1 k = S.2.1 k
theorem KM_rf (S : mS) : KM S S := ⟨fun _ _ => rfl, fun _ _ => rfl⟩
theorem KM_tr {S S' S'' : mS} (h1 : KM S S') (h2 : KM S' S'') : KM S S'' := ⟨fun k a => (h2.1 k a).trans (h1.1 k a), fun k a => (h2.2 k a).trans (h1.2 k a)⟩
theorem SC_KM {S S' : mS} (hk : SC S S') : KM S S' := ⟨fun k q => hk.1 k (by rcases q with rfl | rfl | rfl | rfl | rfl | rfl <;> rfl) (by omega), fun k q => hk.2.1 k (by rcases q with rfl | rfl | rfl | rfl | rfl <;> rfl)⟩
theorem LK_KM {S S' : mS} (hk : LK S S') : KM S S' := ⟨fun k q => hk.1 k (by omega) (by omega), fun k _ => by rw [hk.2]⟩
theorem KM_18 (S : mS) (g : Nat → Int32) : KM S (sA S 18 g) := ⟨fun k q => sA_n _ _ (by omega), fun _ _ => rfl⟩
def OPr (σ : gT) (r : Int32) (σ' : gT) : Prop := WF σ' ∧ (((r = -2 ∨ r = -3 ∨ r = -4) ∧ σ' = σ) ∨ ∃ n : Nat, n < 2 ^ 31 ∧ r = nI n)
def OPc (j : Nat) (as : List Value) (σ : gT) (r : Int32) (σ' : gT) : Prop := ∀ (h : xH) (a : Nat) (S : sS), CSc σ S → ∃ S', xM j (.ref a :: as) (pS h a S) = some (some (.int r), pS h a S') ∧ CSc σ' S'
def OPm (j : Nat) (as : List Value) (σ : gT) (r : Int32) (σ' : gT) : Prop := ∀ (h : xH) (a : Nat) (S : mS) (f : Nat → Int32), MSc σ f → ∃ S' f', xM j (.ref a :: as) (pM h a (m0 S f)) = some (some (.int r), pM h a (m0 S' f')) ∧ KM S S' ∧ MSc σ' f'
theorem op_ref {σ : gT} (hW : WF σ) {r : Int32} (hr : r = -2 ∨ r = -3 ∨ r = -4) {j j' : Nat} {as : List Value} (hc : ∀ (h : xH) (a : Nat) (S : sS), CSc σ S → xM j (.ref a :: as) (pS h a S) = some (some (.int r), pS h a S)) (hm : ∀ (h : xH) (a : Nat) (S : mS) (f : Nat → Int32), MSc σ f → xM j' (.ref a :: as) (pM h a (m0 S f)) = some (some (.int r), pM h a (m0 S f))) : ∃ r σ', OPr σ r σ' ∧ OPc j as σ r σ' ∧ OPm j' as σ r σ' :=
  ⟨r, σ, ⟨hW, Or.inl ⟨hr, rfl⟩⟩, fun h a S hS => ⟨S, hc h a S hS, hS⟩, fun h a S f hM => ⟨S, f, hm h a S f hM, KM_rf S, hM⟩⟩
section OPL
variable {sb : Nat → Int32} {ht cl : Nat → Nat} {ch : Nat → List Nat} {T : tS} {D : List Int32}
theorem RM_lo {bx f f' : Nat → Int32} (hR : RM T sb bx f) (h1 : ∀ i, 64 ≤ i → i < 305 → f' i = f i) (h2 : ∀ t, t < 16 → sb t ≠ 0 → f' (4 * t + 1) = sb t) : RM T sb bx f' := by
  obtain ⟨r1, r2, r3, r4⟩ := hR
  refine ⟨by rw [h1 304 (by omega) (by omega)]; exact r1, fun m hm => by rw [h1 _ (by omega) (by omega)]; exact r2 m hm, fun m j hm => ?_, h2⟩
  obtain ⟨q0, q1, q2, q3, q4, q5, q6⟩ := r3 m j hm
  refine ⟨q0, by rw [h1 _ (by omega) (by omega)]; exact q1, by rw [h1 _ (by omega) (by omega)]; exact q2, by rw [h1 _ (by omega) (by omega)]; exact q3, by rw [h1 _ (by omega) (by omega)]; exact q4, q5, fun i e he => ?_⟩
  have hi : i < (T.2.2.1 m).length := (List.getElem?_eq_some_iff.mp he).1
  rw [h1 _ (by omega) (by omega)]; exact q6 i e he
theorem RM_FD {bx f f' : Nat → Int32} (hR : RM T sb bx f) (hf : FD f f') : RM T sb bx f' := RM_lo hR (fun i _ h2 => hf i h2) (fun t ht hb => by rw [hf _ (by omega)]; exact hR.2.2.2 t ht hb)
theorem MTr_FD {f f' : Nat → Int32} (hR : MTr T sb f) (hf : FD f f') : MTr T sb f' := by
  obtain ⟨bx, h1, h2⟩ := hR
  exact ⟨bx, RM_FD h1 hf, h2⟩
theorem MSh_FR {f f' : Nat → Int32} (hM : MSh sb ht cl f) (hf : FR f f') : MSh sb ht cl f' := ⟨fun s hs => by rw [hf _ (by omega)]; exact hM.1 s hs, fun s hs => by
  have := hs.1
  rw [hf _ (by omega), hf _ (by omega), hf _ (by omega)]; exact hM.2 s hs⟩
theorem MD_FR {f f' : Nat → Int32} (hM : MD f D) (hf : FR f f') : MD f' D := ⟨by rw [hf 305 (by omega)]; exact hM.1, fun i b hb => by
  show f' (306 + i) = b
  rw [hf _ (by omega)]; exact hM.2 i b hb⟩
theorem MD_lo {f f' : Nat → Int32} (hM : MD f D) (hf : ∀ i, 305 ≤ i → f' i = f i) : MD f' D := ⟨by rw [hf 305 (by omega)]; exact hM.1, fun i b hb => by
  show f' (306 + i) = b
  rw [hf _ (by omega)]; exact hM.2 i b hb⟩
theorem CTr_KD {S S' : sS} (hR : CTr T sb S) (hk : KD S S') : CTr T sb S' := by
  obtain ⟨bx, h1, h2⟩ := hR
  exact ⟨bx, RC_rows h1 (fun j hj => hk.1 j (by omega)) (hk.2 0 (by decide)), h2⟩
theorem dvs_none {p : Nat → Bool} : ∀ n, (∀ t, t < n → p t = false) → dvs sb ch p D n = D
  | 0, _ => rfl
  | n + 1, hh => by
    unfold dvs
    rw [if_neg (by rw [hh n (by omega)]; decide)]
    exact dvs_none n fun t ht => hh t (by omega)
theorem dvs_one {p : Nat → Bool} {s : Nat} (hp : ∀ t, t < 16 → (p t = true ↔ t = s)) : ∀ n, n ≤ 16 → s < n → dvs sb ch p D n = dadd D (vw sb ch s)
  | 0, _, hs => absurd hs (Nat.not_lt_zero _)
  | n + 1, hn, hs => by
    unfold dvs
    by_cases e : n = s
    · subst e
      rw [if_pos ((hp n (by omega)).mpr rfl), dvs_none n fun t ht => by
        cases hq : p t with
        | false => rfl
        | true => have := (hp t (by omega)).mp hq; omega]
    · rw [if_neg (fun q => e ((hp n (by omega)).mp q))]
      exact dvs_one hp n (by omega) (by omega)
theorem dav_zero : ∀ n, dav (fun _ => 0) D n = D
  | 0 => rfl
  | n + 1 => by
    unfold dav
    rw [dadd_0]
    exact dav_zero n
theorem fsh (sb : Nat → Int32) : ∃ s, s ≤ 16 ∧ (∀ t, t < s → sb t ≠ 0) ∧ (s < 16 → sb s = 0) := by
  have key : ∀ n, n ≤ 16 → (∀ t, t < n → sb t ≠ 0) ∨ ∃ s, s < n ∧ (∀ t, t < s → sb t ≠ 0) ∧ sb s = 0 := by
    intro n
    induction n with
    | zero => exact fun _ => Or.inl fun t ht => absurd ht (Nat.not_lt_zero _)
    | succ n ih =>
      intro hn
      rcases ih (by omega) with q | ⟨s, s1, s2, s3⟩
      · by_cases c : sb n = 0
        · exact Or.inr ⟨n, by omega, q, c⟩
        · refine Or.inl fun t ht => ?_
          by_cases e : t = n
          · rw [e]; exact c
          · exact q t (by omega)
      · exact Or.inr ⟨s, by omega, s2, s3⟩
  rcases key 16 (Nat.le_refl _) with q | ⟨s, s1, s2, s3⟩
  · exact ⟨16, Nat.le_refl _, q, fun q => absurd q (Nat.lt_irrefl _)⟩
  · exact ⟨s, by omega, s2, fun _ => s3⟩
theorem m_wS0 (h : xH) (a : Nat) (S : mS) (f : Nat → Int32) {s : Nat} (hs : s < 16) (v : Int32) : xwi (pM h a (m0 S f)) 0 (a + 1) (4 * nI s + 0) v = some (pM h a (m0 S (upd f (4 * s + 0) v))) := by
  rw [show (4 : Int32) = nI 4 from rfl, show (0 : Int32) = nI 0 from rfl, pk_mul, nI_add, m_w0 h a S f (by omega)]
theorem m_wS1 (h : xH) (a : Nat) (S : mS) (f : Nat → Int32) {s : Nat} (hs : s < 16) (v : Int32) : xwi (pM h a (m0 S f)) 0 (a + 1) (4 * nI s + 1) v = some (pM h a (m0 S (upd f (4 * s + 1) v))) := by
  rw [show (4 : Int32) = nI 4 from rfl, show (1 : Int32) = nI 1 from rfl, pk_mul, nI_add, m_w0 h a S f (by omega)]
theorem m_wS2 (h : xH) (a : Nat) (S : mS) (f : Nat → Int32) {s : Nat} (hs : s < 16) (v : Int32) : xwi (pM h a (m0 S f)) 0 (a + 1) (4 * nI s + 2) v = some (pM h a (m0 S (upd f (4 * s + 2) v))) := by
  rw [show (4 : Int32) = nI 4 from rfl, show (2 : Int32) = nI 2 from rfl, pk_mul, nI_add, m_w0 h a S f (by omega)]
theorem m_wS3 (h : xH) (a : Nat) (S : mS) (f : Nat → Int32) {s : Nat} (hs : s < 16) (v : Int32) : xwi (pM h a (m0 S f)) 0 (a + 1) (4 * nI s + 3) v = some (pM h a (m0 S (upd f (4 * s + 3) v))) := by
  rw [show (4 : Int32) = nI 4 from rfl, show (3 : Int32) = nI 3 from rfl, pk_mul, nI_add, m_w0 h a S f (by omega)]
end OPL
theorem op_add {σ : gT} (hW : WF σ) (x y w v z : Int32) : ∃ r σ', OPr σ r σ' ∧ OPc 34 [.int x, .int y, .int w, .int v, .int z] σ r σ' ∧ OPm 153 [.int x, .int y, .int w, .int v, .int z] σ r σ' := by
  obtain ⟨T, sb, ht, cl, ch, D⟩ := σ
  have hW' := hW
  obtain ⟨hI, hL, hU, hbk, hht, hch, hDk, hDl⟩ := hW'
  dsimp only at hI hL hU hbk hht hch hDk hDl
  rcases bx_make x y w v with ⟨b, hb, e0, e109, e110⟩ | ⟨e0, e109⟩
  · by_cases cz : (0 : Int32) ≤ z ∧ z ≤ 99
    · obtain ⟨zz, hz, rfl⟩ := nI_of2 (n := 99) (M := 99) (by decide) (Int32.not_lt.mpr cz.1) cz.2
      obtain ⟨s, hs16, hsl, hs0⟩ := fsh sb
      have hc33 : ∀ (h : xH) (a : Nat) (S : sS), CSh sb ht cl S → ∀ (d t : Nat), t + d = s → xE 34 33 [some (.ref a), some (.int x), some (.int y), some (.int w), some (.int v), some (.int (nI zz)), some (.int b), some (.int (nI t))] [] (pS h a S) = xE 34 56 [some (.ref a), some (.int x), some (.int y), some (.int w), some (.int v), some (.int (nI zz)), some (.int b), some (.int (nI s))] [] (pS h a S) := by
        intro h a S hS d
        induction d with
        | zero =>
          intro t ht0
          have ht0 : t = s := by omega
          subst ht0
          rw [xb34_33]
          by_cases c : t < 16
          · rw [if_pos (show nI t < (16 : Int32) from nI_lt (b := 16) c (by decide)), sl_s2, Option.bind_some, c_r0 h a S (by omega), Option.bind_some, hS.1 t c, if_pos (hs0 c)]
          · rw [if_neg (show ¬ nI t < (16 : Int32) from nI_nlt (b := 16) (by omega) (by omega))]
        | succ d ih =>
          intro t ht0
          rw [xb34_33, if_pos (show nI t < (16 : Int32) from nI_lt (b := 16) (by omega) (by decide)), sl_s2, Option.bind_some, c_r0 h a S (by omega), Option.bind_some, hS.1 t (by omega), if_neg (hsl t (by omega)), nI_1]
          exact ih (t + 1) (by omega)
      have hm28 : ∀ (h : xH) (a : Nat) (S : mS) (f : Nat → Int32), MSh sb ht cl f → ∀ (d t : Nat), t + d = s → xE 153 28 [some (.ref a), some (.int x), some (.int y), some (.int w), some (.int v), some (.int (nI zz)), some (.int (nI t)), none] [] (pM h a (m0 S f)) = xE 153 52 [some (.ref a), some (.int x), some (.int y), some (.int w), some (.int v), some (.int (nI zz)), some (.int (nI s)), none] [] (pM h a (m0 S f)) := by
        intro h a S f hM d
        induction d with
        | zero =>
          intro t ht0
          have ht0 : t = s := by omega
          subst ht0
          rw [xb153_28]
          by_cases c : t < 16
          · rw [if_pos (show nI t < (16 : Int32) from nI_lt (b := 16) c (by decide)), ml_gu, m_s0 h a S f c, xcI_some, hM.1 t c, if_pos (hs0 c), if_neg (show ¬ (0 : Int32) = 1 by decide)]
          · rw [if_neg (show ¬ nI t < (16 : Int32) from nI_nlt (b := 16) (by omega) (by omega))]
        | succ d ih =>
          intro t ht0
          rw [xb153_28, if_pos (show nI t < (16 : Int32) from nI_lt (b := 16) (by omega) (by decide)), ml_gu, m_s0 h a S f (by omega), xcI_some, hM.1 t (by omega), if_neg (hsl t (by omega)), if_pos rfl, nI_1]
          exact ih (t + 1) (by omega)
      have hcst : ∀ (h : xH) (a : Nat) (S : sS), CSh sb ht cl S → xM 34 [.ref a, .int x, .int y, .int w, .int v, .int (nI zz)] (pS h a S) = xE 34 56 [some (.ref a), some (.int x), some (.int y), some (.int w), some (.int v), some (.int (nI zz)), some (.int b), some (.int (nI s))] [] (pS h a S) := fun h a S hS => by
        rw [xb34, e0, xcI_some, if_neg (bok_ne0 hb), if_neg (Int32.not_lt.mpr cz.1), if_neg (Int32.not_lt.mpr cz.2)]
        exact hc33 h a S hS s 0 (by omega)
      have hmst : ∀ (h : xH) (a : Nat) (S : mS) (f : Nat → Int32), MSh sb ht cl f → xM 153 [.ref a, .int x, .int y, .int w, .int v, .int (nI zz)] (pM h a (m0 S f)) = xE 153 52 [some (.ref a), some (.int x), some (.int y), some (.int w), some (.int v), some (.int (nI zz)), some (.int (nI s)), none] [] (pM h a (m0 S f)) := fun h a S f hM => by
        rw [xb153, e109, xcI_some, if_neg (show ¬ (1 : Int32) = 0 by decide), m_in_y cz.1 cz.2, xcI_some, if_neg (show ¬ (1 : Int32) = 0 by decide)]
        exact hm28 h a S f hM s 0 (by omega)
      by_cases c16 : s = 16
      · refine op_ref hW (r := -4) (Or.inr (Or.inr rfl)) (fun h a S hS => ?_) (fun h a S f hM => ?_)
        · rw [hcst h a S hS.2.1, xb34_56, if_pos (by rw [c16]; rfl)]
        · rw [hmst h a S f hM.2.1, xb153_52, if_pos (by rw [c16]; rfl)]
      · have s16 : s < 16 := by omega
        have hs0' := hs0 s16
        have hns : ¬ PR sb s := fun q => q.2 hs0'
        have hbn := bok_ne0 hb
        have hPR : ∀ t, PR (va_up sb s b) t ↔ PR sb t ∨ t = s := fun t => by
          unfold PR
          by_cases e : t = s
          · rw [e, up_s]; exact ⟨fun _ => Or.inr rfl, fun _ => ⟨s16, hbn⟩⟩
          · rw [up_n _ _ e]; exact ⟨fun q => Or.inl q, fun q => q.resolve_right e⟩
        obtain ⟨i1, i2, i3⟩ := insT_ok (va_up sb s b) hI hL hU s16 hns
        have hch' : CHI (va_up sb s b) (va_up cl s 16) (va_up ch s []) := fun t hp => by
          by_cases e : t = s
          · subst e; rw [up_s, up_s]; exact ⟨Nat.le_refl _, Or.inl ⟨rfl, rfl⟩⟩
          · rw [up_n _ _ e, up_n _ _ e]
            have hp' := ((hPR t).mp hp).resolve_right e
            obtain ⟨z1, z2⟩ := hch t hp'
            refine ⟨z1, z2.imp id fun q => ⟨(hPR _).mpr (Or.inl q.1), ?_⟩⟩
            rw [up_n _ _ (fun q2 : cl t = s => hns (q2 ▸ q.1))]
            exact q.2
        have hbk' : ∀ t, va_up sb s b t ≠ 0 → bok (va_up sb s b t) := fun t hb' => by
          by_cases e : t = s
          · subst e; rw [up_s]; exact hb
          · rw [up_n _ _ e] at hb' ⊢; exact hbk t hb'
        obtain ⟨d1, d2⟩ := dadd_ok hDl hDk (Or.inr hb)
        have hvw : vw (va_up sb s b) (va_up ch s []) s = b := by
          unfold vw
          rw [up_s, up_s]; rfl
        refine ⟨nI s, (insT (va_up sb s b) T s, va_up sb s b, va_up ht s zz, va_up cl s 16, va_up ch s [], dadd D b), ⟨⟨INVt_congr i1 fun t => (hPR t).symm, i2, i3, hbk', fun t hp => ?_, hch', d2, d1⟩, Or.inr ⟨s, by omega, rfl⟩⟩, fun h a S hS => ?_, fun h a S f hM => ?_⟩
        · show va_up ht s zz t < 100
          by_cases e : t = s
          · subst e; rw [up_s]; omega
          · rw [up_n _ _ e]; exact hht t (((hPR t).mp hp).resolve_right e)
        · obtain ⟨⟨bx, hR, hC⟩, hSh, hDm⟩ := hS
          dsimp only at hR hC hSh hDm
          generalize hS1 : sB (sB (sB S 0 (upd (S.1 0) s b)) 9 (upd (S.1 9) s (nI zz))) 10 (upd (S.1 10) s 16) = S1
          have R1 : RC T (va_up sb s b) bx S1 := RC_rows (RC_sb hR s16 b) (fun j hj => by rw [← hS1, sB_n _ _ (by omega), sB_n _ _ (by omega)]) (by rw [← hS1]; rfl)
          obtain ⟨S2, b2, c1, c2, c3, c4⟩ := c_put (h := h) (a := a) (sb := va_up sb s b) (s := s) (I := PR sb) (fun t hp => ((hPR t).mpr hp).2) hI hL hU R1 (fun n j hn => Con_sb hI hns b hn (hC n j hn)) s16 hns
          have hDm2 : CDm D S2 := ⟨by rw [c4.2.2.2.1, ← hS1]; exact hDm.1, by rw [c4.1 8 (by decide), ← hS1, sB_n _ _ (by decide), sB_n _ _ (by decide), sB_n _ _ (by decide)]; exact hDm.2⟩
          have hSh2 : CSh (va_up sb s b) (va_up ht s zz) (va_up cl s 16) S2 := by
            refine ⟨fun t ht' => by rw [c4.2.1 t ht']; exact R1.2.2.2 t ht', fun t hp => ?_⟩
            rw [c4.1 9 (by decide), c4.1 10 (by decide), ← hS1, sB_n _ _ (show (9 : Nat) ≠ 10 by decide), sB_s, sB_s]
            by_cases e : t = s
            · subst e; rw [pk_us, pk_us, up_s, up_s]; exact ⟨rfl, rfl⟩
            · rw [pk_un e, pk_un e, up_n _ _ e, up_n _ _ e]
              exact hSh.2 t (((hPR t).mp hp).resolve_right e)
          obtain ⟨S3, y1, y2, y3, y4⟩ := c_add (h := h) (a := a) hDm2.1 hDm2.2 hDl b
          refine ⟨S3, ?_, CTr_KD ⟨b2, c2, c3⟩ y2, CSh_KD hSh2 y2, ⟨y3, y4⟩⟩
          rw [hcst h a S hSh, xb34_56, if_neg (show ¬ nI s = (16 : Int32) from fun q => c16 (nI_inj (b := 16) (by omega) (by decide) q)), sl_s2, Option.bind_some, c_w0 h a S (by omega), Option.bind_some, sl_s3, Option.bind_some, c_w9 h a _ s16, Option.bind_some, sl_s4, Option.bind_some, c_w10 h a _ s16, Option.bind_some, sB_n _ _ (show (9 : Nat) ≠ 0 by decide), sB_n _ _ (show (10 : Nat) ≠ 9 by decide), sB_n _ _ (show (10 : Nat) ≠ 0 by decide), hS1, sl_s0, Option.bind_some, sl_gt, c1, xcV_some, sl_s1, Option.bind_some, sl_gd, y1, xcV_some]
        · obtain ⟨⟨bx, hR, hB, hC⟩, hSh, hDm⟩ := hM
          dsimp only at hR hB hC hSh hDm
          generalize hf1 : upd (upd (upd f (4 * s + 1) b) (4 * s + 2) (nI zz)) (4 * s + 3) 16 = f1
          have f1o : ∀ i, i ≠ 4 * s + 1 → i ≠ 4 * s + 2 → i ≠ 4 * s + 3 → f1 i = f i := fun i q1 q2 q3 => by
            rw [← hf1, pk_un q3, pk_un q2, pk_un q1]
          have hSh1 : MSh sb ht cl f1 := ⟨fun t ht' => by rw [f1o _ (by omega) (by omega) (by omega)]; exact hSh.1 t ht', fun t hp => by
            have hts : t ≠ s := fun q => hns (q ▸ hp)
            rw [f1o _ (by omega) (by omega) (by omega), f1o _ (by omega) (by omega) (by omega), f1o _ (by omega) (by omega) (by omega)]
            exact hSh.2 t hp⟩
          have hnaff : ∀ t, t < 16 → aff sb ch s t = false := fun t ht' => by
            unfold aff
            refine decide_eq_false fun q => ?_
            rcases q.2 with e | e
            · exact q.1 (by rw [e]; exact hs0')
            · exact hns ((ch_len hch ⟨ht', q.1⟩).2.2 s e)
          obtain ⟨S1, k1, k2, k3⟩ := m_looksAhead (h := h) (a := a) (S := S) hSh1 hbk hch s16
          generalize hf2 : upd f1 (4 * s + 0) 1 = f2
          have f2o : ∀ i, 64 ≤ i → f2 i = f i := fun i hi => by rw [← hf2, pk_un (by omega), f1o _ (by omega) (by omega) (by omega)]
          have hSh2 : MSh (va_up sb s b) (va_up ht s zz) (va_up cl s 16) f2 := by
            refine ⟨fun t ht' => ?_, fun t hp => ?_⟩
            · rw [← hf2]
              by_cases e : t = s
              · subst e; rw [pk_us, up_s, if_neg hbn]
              · rw [pk_un (by omega), up_n _ _ e]; exact hSh1.1 t ht'
            · rw [← hf2, pk_un (by omega), pk_un (by omega), pk_un (by omega)]
              by_cases e : t = s
              · subst e
                rw [up_s, up_s, up_s, ← hf1]
                refine ⟨?_, ?_, ?_⟩
                · rw [pk_un (by omega), pk_un (by omega), pk_us]
                · rw [pk_un (by omega), pk_us]
                · rw [pk_us]; rfl
              · rw [up_n _ _ e, up_n _ _ e, up_n _ _ e]
                exact hSh1.2 t (((hPR t).mp hp).resolve_right e)
          have R2 : RM T (va_up sb s b) bx f2 := RM_lo (RM_sb hR s16 b) (fun i h1 h2 => by rw [f2o i h1, pk_un (by omega)]) (fun t ht' hb' => (hSh2.2 t ⟨ht', hb'⟩).1)
          have hB2 : BK T.2.1 (va_up sb s b) bx := ⟨hbk', hB.2⟩
          obtain ⟨S3, f3, b3, g1, g2, g3, g4, g5, g6⟩ := m_shapeComes (h := h) (a := a) (S := sA S1 18 (upd (S1.1 18) s 1)) (I := PR sb) (fun t hp => ((hPR t).mpr hp).2) hI hL hU R2 hB2 (fun n j hn => Con_sb hI hns b hn (hC n j hn)) s16 hns
          have hDm3 : MD f3 D := MD_FR (MD_lo hDm (fun i hi => f2o i (by omega))) g6
          obtain ⟨f4, l1, l2, l3⟩ := m_looksBehind (h := h) (a := a) (S := S3) (vb := fun _ => 0) (q := fun t => decide (t = s)) (MSh_FR hSh2 g6) hbk' hch' hDm3 hDl hDk (fun _ _ => Or.inl rfl) (fun t ht' => by
              rw [g2.1 17 (by decide) (by decide), sA_n _ _ (by decide), (k3 t ht').2, if_neg (by rw [hnaff t ht']; decide)]) (fun t ht' => by
              rw [g2.1 18 (by decide) (by decide), sA_s]
              by_cases e : t = s
              · subst e; rw [pk_us, if_pos (decide_eq_true rfl)]
              · rw [pk_un e, (k3 t ht').1, if_neg (by rw [hnaff t ht']; decide), if_neg (fun q => e (of_decide_eq_true q))])
          rw [dav_zero, dvs_one (s := s) (fun t ht' => by
            rw [Bool.and_eq_true, decide_eq_true_iff, decide_eq_true_iff]
            exact ⟨fun q => q.1, fun q => ⟨q, by rw [q, up_s]; exact hbn⟩⟩) 16 (Nat.le_refl _) s16, hvw] at l3
          refine ⟨S3, f4, ?_, KM_tr (LK_KM k2) (KM_tr (KM_18 _ _) (SC_KM (SC7_SC g2))), MTr_FD ⟨b3, g3, g4, g5⟩ l2, MSh_FD (MSh_FR hSh2 g6) l2, l3⟩
          rw [hmst h a S f hSh, xb153_52, if_neg (show ¬ nI s = (16 : Int32) from fun q => c16 (nI_inj (b := 16) (by omega) (by decide) q)), ml_f0, Option.bind_some, e110, xcI_some, m_wS1 h a S f s16, Option.bind_some, ml_f0, Option.bind_some, m_wS2 h a S _ s16, Option.bind_some, ml_f0, Option.bind_some, m_wS3 h a S _ s16, Option.bind_some, hf1, ml_gu, k1, xcV_some, ml_f0, Option.bind_some, m_wS0 h a S1 _ s16, Option.bind_some, hf2, ml_f18, Option.bind_some, a_w18 h a S1 f2 s16, Option.bind_some, ml_gu, g1, xcV_some, ml_gu, l1, xcV_some]
    · refine op_ref hW (r := -2) (Or.inl rfl) (fun h a S hS => ?_) (fun h a S f hM => ?_)
      · rw [xb34, e0, xcI_some, if_neg (bok_ne0 hb)]
        by_cases d : z < 0
        · rw [if_pos d]
        · rw [if_neg d, if_pos (Classical.byContradiction fun q => cz ⟨Int32.not_lt.mp d, Int32.not_lt.mp q⟩)]
      · rw [xb153, e109, xcI_some, if_neg (show ¬ (1 : Int32) = 0 by decide), m_in_n cz, xcI_some, if_pos rfl]
  · refine op_ref hW (r := -2) (Or.inl rfl) (fun h a S hS => ?_) (fun h a S f hM => ?_)
    · rw [xb34, e0, xcI_some, if_pos rfl]
    · rw [xb153, e109, xcI_some, if_pos rfl]
