/-! What keeps a tree a tree: a shape more; a node split -/
theorem up_s {α : Type} (f : Nat → α) (k : Nat) (v : α) : va_up f k v k = v := if_pos rfl
theorem up_n {α : Type} (f : Nat → α) {k j : Nat} (v : α) (h : j ≠ k) : va_up f k v j = f j := if_neg h
section TI
variable {rt : Nat} {rk : Nat → Option Nat} {en : Nat → List Nat} {pa : Nat → Option Nat} {sp : Nat → Nat} {I : Nat → Prop}
theorem INV_add (h : INV rt rk en pa sp I) {x s : Nat} (hx : rk x = some 0) (hs : s < 16) (hn : ¬ I s) : INV rt rk (va_up en x (en x ++ [s])) pa (va_up sp s x) (fun t => I t ∨ t = s) := by
  obtain ⟨h1, hpr, h2, h3, h4, h6, h7⟩ := h
  have hse : ∀ n, rk n = some 0 → s ∉ en n := fun n hk hm => hn (h4 n s hk hm).2.1
  refine ⟨h1, hpr, fun n k hk => ?_, fun n k c hk hc => ?_, fun n t hk ht => ?_, fun n k hk hne => ?_, fun t ht => ?_⟩
  · refine ⟨(h2 n k hk).1, ?_⟩
    by_cases e : n = x
    · subst e
      rw [up_s, List.nodup_append]
      exact ⟨(h2 n k hk).2, by simp, fun a ha b hb => by
        rw [List.mem_singleton] at hb
        subst hb
        intro e
        subst e
        exact hse n hx ha⟩
    · rw [up_n _ _ e]; exact (h2 n k hk).2
  · have e : n ≠ x := fun q => by rw [q, hx] at hk; cases hk
    rw [up_n _ _ e] at hc
    exact h3 n k c hk hc
  · by_cases e : n = x
    · subst e
      rw [up_s] at ht
      rcases List.mem_append.mp ht with ht | ht
      · have := h4 n t hk ht
        have hts : t ≠ s := fun q => hse n hk (q ▸ ht)
        rw [up_n _ _ hts]
        exact ⟨this.1, Or.inl this.2.1, this.2.2⟩
      · rw [List.mem_singleton] at ht
        subst ht
        exact ⟨hs, Or.inr rfl, up_s _ _ _⟩
    · rw [up_n _ _ e] at ht
      have := h4 n t hk ht
      have hts : t ≠ s := fun q => hse n hk (q ▸ ht)
      rw [up_n _ _ hts]
      exact ⟨this.1, Or.inl this.2.1, this.2.2⟩
  · obtain ⟨a, a1, a2, a3⟩ := h6 n k hk hne
    refine ⟨a, a1, a2, ?_⟩
    have e : a ≠ x := fun q => by rw [q, hx] at a2; cases a2
    rw [up_n _ _ e]; exact a3
  · rcases ht with ht | rfl
    · have hts : t ≠ s := fun q => hn (q ▸ ht)
      rw [up_n _ _ hts]
      have := h7 t ht
      refine ⟨this.1, ?_⟩
      by_cases e : sp t = x
      · rw [e, up_s]; exact List.mem_append_left _ (e ▸ this.2)
      · rw [up_n _ _ e]; exact this.2
    · rw [up_s, up_s]
      exact ⟨hx, List.mem_append_right _ (List.mem_singleton.mpr rfl)⟩
/-- w comes directly behind x -/
def insA (x w : Nat) : List Nat → List Nat
  | [] => []
  | e :: r => if e = x then e :: w :: r else e :: insA x w r
theorem insA_mem {x w c : Nat} : ∀ {l : List Nat}, x ∈ l → (c ∈ insA x w l ↔ c ∈ l ∨ c = w)
  | e :: r, hx => by
    unfold insA
    by_cases h : e = x
    · rw [if_pos h]
      simp only [List.mem_cons]
      constructor
      · rintro (q | q | q)
        · exact Or.inl (Or.inl q)
        · exact Or.inr q
        · exact Or.inl (Or.inr q)
      · rintro ((q | q) | q)
        · exact Or.inl q
        · exact Or.inr (Or.inr q)
        · exact Or.inr (Or.inl q)
    · rw [if_neg h]
      have hxr : x ∈ r := (List.mem_cons.mp hx).resolve_left (fun q => h q.symm)
      rw [List.mem_cons, insA_mem hxr, List.mem_cons]
      constructor
      · rintro (q | q | q)
        · exact Or.inl (Or.inl q)
        · exact Or.inl (Or.inr q)
        · exact Or.inr q
      · rintro ((q | q) | q)
        · exact Or.inl q
        · exact Or.inr (Or.inl q)
        · exact Or.inr (Or.inr q)
theorem insA_len {x w : Nat} : ∀ {l : List Nat}, x ∈ l → (insA x w l).length = l.length + 1
  | e :: r, hx => by
    unfold insA
    by_cases h : e = x
    · rw [if_pos h]; rfl
    · rw [if_neg h]
      have hxr : x ∈ r := (List.mem_cons.mp hx).resolve_left (fun q => h q.symm)
      rw [List.length_cons, insA_len hxr, List.length_cons]
theorem insA_nd {x w : Nat} : ∀ {l : List Nat}, x ∈ l → l.Nodup → w ∉ l → (insA x w l).Nodup
  | e :: r, hx, hn, hw => by
    have h1 := List.nodup_cons.mp hn
    unfold insA
    by_cases h : e = x
    · rw [if_pos h, List.nodup_cons, List.nodup_cons]
      refine ⟨fun q => ?_, fun q => hw (List.mem_cons_of_mem _ q), h1.2⟩
      rcases List.mem_cons.mp q with q | q
      · exact hw (q ▸ List.mem_cons_self)
      · exact h1.1 q
    · rw [if_neg h, List.nodup_cons]
      have hxr : x ∈ r := (List.mem_cons.mp hx).resolve_left (fun q => h q.symm)
      refine ⟨fun q => ?_, insA_nd hxr h1.2 (fun q => hw (List.mem_cons_of_mem _ q))⟩
      rcases (insA_mem hxr).mp q with q | q
      · exact h1.1 q
      · exact hw (q ▸ List.mem_cons_self)
/-- the two halves -/
def HALF (l l1 l2 : List Nat) : Prop := l1.Nodup ∧ l2.Nodup ∧ (∀ e, e ∈ l ↔ e ∈ l1 ∨ e ∈ l2) ∧ ∀ e, e ∈ l1 → e ∉ l2
def paS (pa : Nat → Option Nat) (k w : Nat) (l2 : List Nat) : Nat → Option Nat := fun n => if k ≠ 0 ∧ n ∈ l2 then some w else pa n
def spS (sp : Nat → Nat) (k w : Nat) (l2 : List Nat) : Nat → Nat := fun s => if k = 0 ∧ s ∈ l2 then w else sp s
theorem INV_split (h : INV rt rk en pa sp I) {x w a k : Nat} {l1 l2 : List Nat} (hx : rk x = some k) (hw : rk w = none) (hw16 : w < 16) (hpx : pa x = some a) (hH : HALF (en x) l1 l2) :
    INV rt (va_up rk w (some k)) (va_up (va_up (va_up en a (insA x w (en a))) x l1) w l2) (va_up (paS pa k w l2) w (some a)) (spS sp k w l2) I := by
  obtain ⟨⟨r, hr, hr16, hrk⟩, hpr, h2, h3, h4, h6, h7⟩ := h
  obtain ⟨n1, n2, hm, hd⟩ := hH
  have hxr : x ≠ rt := fun q => by rw [q, hpr] at hpx; cases hpx
  obtain ⟨a', pa1, rka, hxa⟩ := h6 x k hx hxr
  rw [hpx] at pa1
  cases pa1
  have ne1 : ∀ n j, rk n = some j → n ≠ w := fun n j hn q => by rw [q, hw] at hn; cases hn
  have hxw := ne1 x k hx
  have haw := ne1 a _ rka
  have hax : a ≠ x := fun q => by rw [q, hx] at rka; cases rka
  have hrw := ne1 rt r hr
  have en_w : (va_up (va_up (va_up en a (insA x w (en a))) x l1) w l2) w = l2 := up_s _ _ _
  have en_x : (va_up (va_up (va_up en a (insA x w (en a))) x l1) w l2) x = l1 := by rw [up_n _ _ hxw, up_s]
  have en_a : (va_up (va_up (va_up en a (insA x w (en a))) x l1) w l2) a = insA x w (en a) := by rw [up_n _ _ haw, up_n _ _ hax, up_s]
  have en_o : ∀ n, n ≠ w → n ≠ x → n ≠ a → (va_up (va_up (va_up en a (insA x w (en a))) x l1) w l2) n = en n := fun n q1 q2 q3 => by rw [up_n _ _ q1, up_n _ _ q2, up_n _ _ q3]
  generalize va_up (va_up (va_up en a (insA x w (en a))) x l1) w l2 = en' at en_w en_x en_a en_o ⊢
  have rk_w : va_up rk w (some k) w = some k := up_s _ _ _
  have rk_o : ∀ n, n ≠ w → va_up rk w (some k) n = rk n := fun n q => up_n _ _ q
  generalize va_up rk w (some k) = rk' at rk_w rk_o ⊢
  have hwe : ∀ n j, rk n = some j → j ≠ 0 → w ∉ en n := fun n j hn hj q => by
    cases j with
    | zero => exact hj rfl
    | succ j => exact ne1 w j (h3 n j w hn q).1 rfl
  have kr : k < r := by
    have := (hrk a (k + 1) rka).1
    omega
  refine ⟨⟨r, by rw [rk_o _ hrw]; exact hr, hr16, fun n j hn => ?_⟩, ?_, fun n j hn => ?_, fun n j c hn hc => ?_, fun n s hn hs => ?_, fun n j hn hne => ?_, fun s hs => ?_⟩
  · by_cases e : n = w
    · subst e
      rw [rk_w] at hn
      cases hn
      exact ⟨by omega, fun q => by omega⟩
    · rw [rk_o _ e] at hn; exact hrk n j hn
  · rw [up_n _ _ hrw]
    unfold paS
    rw [if_neg]
    · exact hpr
    · rintro ⟨q1, q2⟩
      have hre : rt ∈ en x := (hm rt).mpr (Or.inr q2)
      cases k with
      | zero => exact q1 rfl
      | succ k =>
        have := (h3 x k rt hx hre).2
        rw [hpr] at this; cases this
  · by_cases e : n = w
    · subst e; rw [en_w]; exact ⟨hw16, n2⟩
    · rw [rk_o _ e] at hn
      refine ⟨(h2 n j hn).1, ?_⟩
      by_cases e1 : n = x
      · subst e1; rw [en_x]; exact n1
      · by_cases e2 : n = a
        · subst e2
          rw [en_a]
          exact insA_nd hxa (h2 n j hn).2 (hwe n _ rka (by omega))
        · rw [en_o n e e1 e2]; exact (h2 n j hn).2
  · by_cases e : n = w
    · subst e
      rw [rk_w] at hn
      rw [en_w] at hc
      have hk : k = j + 1 := Option.some.inj hn
      subst hk
      have hcx : c ∈ en x := (hm c).mpr (Or.inr hc)
      have c1 := h3 x j c hx hcx
      have hcw := ne1 c j c1.1
      refine ⟨by rw [rk_o _ hcw]; exact c1.1, ?_⟩
      rw [up_n _ _ hcw]
      unfold paS
      rw [if_pos ⟨by omega, hc⟩]
    · rw [rk_o _ e] at hn
      by_cases e1 : n = x
      · subst e1
        rw [en_x] at hc
        rw [hx] at hn
        have hk : k = j + 1 := Option.some.inj hn
        subst hk
        have c1 := h3 n j c hx ((hm c).mpr (Or.inl hc))
        have hcw := ne1 c j c1.1
        refine ⟨by rw [rk_o _ hcw]; exact c1.1, ?_⟩
        rw [up_n _ _ hcw]
        unfold paS
        rw [if_neg (fun q => hd c hc q.2)]
        exact c1.2
      · have other : c ∈ en n → rk' c = some j ∧ va_up (paS pa k w l2) w (some a) c = some n := fun hc => by
          have c1 := h3 n j c hn hc
          have hcw := ne1 c j c1.1
          refine ⟨by rw [rk_o _ hcw]; exact c1.1, ?_⟩
          rw [up_n _ _ hcw]
          unfold paS
          rw [if_neg]
          · exact c1.2
          · rintro ⟨q1, q2⟩
            have hcx : c ∈ en x := (hm c).mpr (Or.inr q2)
            cases k with
            | zero => exact q1 rfl
            | succ k =>
              have c2 := h3 x k c hx hcx
              rw [c1.2] at c2
              exact e1 (Option.some.inj c2.2)
        by_cases e2 : n = a
        · subst e2
          rw [en_a] at hc
          rcases (insA_mem hxa).mp hc with hc | hc
          · exact other hc
          · subst hc
            rw [rka] at hn
            have hk : k = j := by have := Option.some.inj hn; omega
            subst hk
            exact ⟨rk_w, up_s _ _ _⟩
        · rw [en_o n e e1 e2] at hc
          exact other hc
  · by_cases e : n = w
    · subst e
      rw [rk_w] at hn
      have hk : k = 0 := Option.some.inj hn
      subst hk
      rw [en_w] at hs
      have s1 := h4 x s hx ((hm s).mpr (Or.inr hs))
      refine ⟨s1.1, s1.2.1, ?_⟩
      unfold spS
      rw [if_pos ⟨rfl, hs⟩]
    · rw [rk_o _ e] at hn
      by_cases e1 : n = x
      · subst e1
        rw [en_x] at hs
        have s1 := h4 n s hn ((hm s).mpr (Or.inl hs))
        refine ⟨s1.1, s1.2.1, ?_⟩
        unfold spS
        rw [if_neg (fun q => hd s hs q.2)]
        exact s1.2.2
      · have e2 : n ≠ a := fun q => by rw [q, rka] at hn; cases hn
        rw [en_o n e e1 e2] at hs
        have s1 := h4 n s hn hs
        refine ⟨s1.1, s1.2.1, ?_⟩
        unfold spS
        rw [if_neg]
        · exact s1.2.2
        · rintro ⟨q1, q2⟩
          subst q1
          have s2 := h4 x s hx ((hm s).mpr (Or.inr q2))
          exact e1 (s1.2.2.symm.trans s2.2.2)
  · by_cases e : n = w
    · subst e
      rw [rk_w] at hn
      have hk : k = j := Option.some.inj hn
      subst hk
      refine ⟨a, up_s _ _ _, by rw [rk_o _ haw]; exact rka, ?_⟩
      rw [en_a]
      exact (insA_mem hxa).mpr (Or.inr rfl)
    · rw [rk_o _ e] at hn
      obtain ⟨b, b1, b2, b3⟩ := h6 n j hn hne
      have hbw := ne1 b _ b2
      by_cases e1 : k ≠ 0 ∧ n ∈ l2
      · have hnx : n ∈ en x := (hm n).mpr (Or.inr e1.2)
        cases k with
        | zero => exact absurd rfl e1.1
        | succ k =>
          have c1 := h3 x k n hx hnx
          rw [hn] at c1
          have hj : j = k := Option.some.inj c1.1
          subst hj
          refine ⟨w, ?_, rk_w, by rw [en_w]; exact e1.2⟩
          rw [up_n _ _ e]
          unfold paS
          rw [if_pos e1]
      · refine ⟨b, ?_, by rw [rk_o _ hbw]; exact b2, ?_⟩
        · rw [up_n _ _ e]
          unfold paS
          rw [if_neg e1]
          exact b1
        · by_cases e2 : b = x
          · subst e2
            rw [en_x]
            rw [hx] at b2
            have hk : k = j + 1 := Option.some.inj b2
            exact ((hm n).mp b3).resolve_right (fun q => e1 ⟨by omega, q⟩)
          · by_cases e3 : b = a
            · subst e3
              rw [en_a]
              exact (insA_mem hxa).mpr (Or.inl b3)
            · rw [en_o b hbw e2 e3]; exact b3
  · have s1 := h7 s hs
    have hsw := ne1 _ _ s1.1
    unfold spS
    by_cases e1 : k = 0 ∧ s ∈ l2
    · rw [if_pos e1, en_w]
      exact ⟨by rw [rk_w, e1.1], e1.2⟩
    · rw [if_neg e1]
      refine ⟨by rw [rk_o _ hsw]; exact s1.1, ?_⟩
      by_cases e2 : sp s = x
      · rw [e2, en_x]
        have hk : k = 0 := by
          have := s1.1
          rw [e2, hx] at this
          exact Option.some.inj this
        exact ((hm s).mp (e2 ▸ s1.2)).resolve_right (fun q => e1 ⟨hk, q⟩)
      · have e3 : sp s ≠ a := fun q => by
          have := s1.1
          rw [q, rka] at this
          cases this
        rw [en_o _ hsw e2 e3]; exact s1.2
theorem INV_root (h : INV rt rk en pa sp I) {w z k : Nat} {l1 l2 : List Nat} (hx : rk rt = some k) (hk16 : k + 1 < 16) (hw : rk w = none) (hw16 : w < 16) (hz : rk z = none) (hz16 : z < 16) (hzw : z ≠ w) (hH : HALF (en rt) l1 l2) :
    INV z (va_up (va_up rk w (some k)) z (some (k + 1))) (va_up (va_up (va_up en rt l1) w l2) z [rt, w]) (va_up (va_up (va_up (paS pa k w l2) rt (some z)) w (some z)) z none) (spS sp k w l2) I := by
  obtain ⟨⟨r, hr, hr16, hrk⟩, hpr, h2, h3, h4, h6, h7⟩ := h
  rw [hx] at hr
  cases hr
  obtain ⟨n1, n2, hm, hd⟩ := hH
  have ne1 : ∀ n j, rk n = some j → n ≠ w ∧ n ≠ z := fun n j hn => ⟨fun q => (by rw [q, hw] at hn; cases hn), fun q => (by rw [q, hz] at hn; cases hn)⟩
  have hrw := ne1 rt k hx
  have en_z : va_up (va_up (va_up en rt l1) w l2) z [rt, w] z = [rt, w] := up_s _ _ _
  have en_w : va_up (va_up (va_up en rt l1) w l2) z [rt, w] w = l2 := by rw [up_n _ _ (Ne.symm hzw), up_s]
  have en_x : va_up (va_up (va_up en rt l1) w l2) z [rt, w] rt = l1 := by rw [up_n _ _ hrw.2, up_n _ _ hrw.1, up_s]
  have en_o : ∀ n, n ≠ w → n ≠ z → n ≠ rt → va_up (va_up (va_up en rt l1) w l2) z [rt, w] n = en n := fun n q1 q2 q3 => by rw [up_n _ _ q2, up_n _ _ q1, up_n _ _ q3]
  generalize va_up (va_up (va_up en rt l1) w l2) z [rt, w] = en' at en_z en_w en_x en_o ⊢
  have rk_z : va_up (va_up rk w (some k)) z (some (k + 1)) z = some (k + 1) := up_s _ _ _
  have rk_w : va_up (va_up rk w (some k)) z (some (k + 1)) w = some k := by rw [up_n _ _ (Ne.symm hzw), up_s]
  have rk_o : ∀ n, n ≠ w → n ≠ z → va_up (va_up rk w (some k)) z (some (k + 1)) n = rk n := fun n q1 q2 => by rw [up_n _ _ q2, up_n _ _ q1]
  generalize va_up (va_up rk w (some k)) z (some (k + 1)) = rk' at rk_z rk_w rk_o ⊢
  have pa_z : va_up (va_up (va_up (paS pa k w l2) rt (some z)) w (some z)) z none z = none := up_s _ _ _
  have pa_w : va_up (va_up (va_up (paS pa k w l2) rt (some z)) w (some z)) z none w = some z := by rw [up_n _ _ (Ne.symm hzw), up_s]
  have pa_x : va_up (va_up (va_up (paS pa k w l2) rt (some z)) w (some z)) z none rt = some z := by rw [up_n _ _ hrw.2, up_n _ _ hrw.1, up_s]
  have pa_o : ∀ n, n ≠ w → n ≠ z → n ≠ rt → va_up (va_up (va_up (paS pa k w l2) rt (some z)) w (some z)) z none n = paS pa k w l2 n := fun n q1 q2 q3 => by rw [up_n _ _ q2, up_n _ _ q1, up_n _ _ q3]
  generalize va_up (va_up (va_up (paS pa k w l2) rt (some z)) w (some z)) z none = pa' at pa_z pa_w pa_x pa_o ⊢
  have child : ∀ n j c, rk n = some (j + 1) → c ∈ en n → rk c = some j ∧ c ≠ w ∧ c ≠ z ∧ c ≠ rt := fun n j c hn hc => by
    have c1 := h3 n j c hn hc
    exact ⟨c1.1, (ne1 c j c1.1).1, (ne1 c j c1.1).2, fun q => by rw [q, hpr] at c1; cases c1.2⟩
  refine ⟨⟨k + 1, rk_z, hk16, fun n j hn => ?_⟩, pa_z, fun n j hn => ?_, fun n j c hn hc => ?_, fun n s hn hs => ?_, fun n j hn hne => ?_, fun s hs => ?_⟩
  · by_cases e : n = z
    · subst e; rw [rk_z] at hn; cases hn; exact ⟨Nat.le_refl _, fun _ => rfl⟩
    · by_cases e1 : n = w
      · subst e1; rw [rk_w] at hn; cases hn; exact ⟨by omega, fun q => by omega⟩
      · rw [rk_o n e1 e] at hn
        have := hrk n j hn
        exact ⟨by omega, fun q => by omega⟩
  · by_cases e : n = z
    · subst e
      rw [en_z]
      refine ⟨hz16, ?_⟩
      simp only [List.nodup_cons, List.mem_singleton, List.not_mem_nil, not_false_eq_true, List.nodup_nil, and_true]
      exact hrw.1
    · by_cases e1 : n = w
      · subst e1; rw [en_w]; exact ⟨hw16, n2⟩
      · rw [rk_o n e1 e] at hn
        refine ⟨(h2 n j hn).1, ?_⟩
        by_cases e2 : n = rt
        · subst e2; rw [en_x]; exact n1
        · rw [en_o n e1 e e2]; exact (h2 n j hn).2
  · by_cases e : n = z
    · subst e
      rw [rk_z] at hn
      have hk : k = j := by have := Option.some.inj hn; omega
      subst hk
      rw [en_z] at hc
      simp only [List.mem_cons, List.not_mem_nil, or_false] at hc
      rcases hc with rfl | rfl
      · exact ⟨by rw [rk_o _ hrw.1 hrw.2]; exact hx, pa_x⟩
      · exact ⟨rk_w, pa_w⟩
    · by_cases e1 : n = w
      · subst e1
        rw [rk_w] at hn
        have hk : k = j + 1 := Option.some.inj hn
        subst hk
        rw [en_w] at hc
        obtain ⟨c1, c2, c3, c4⟩ := child rt j c hx ((hm c).mpr (Or.inr hc))
        refine ⟨by rw [rk_o _ c2 c3]; exact c1, ?_⟩
        rw [pa_o _ c2 c3 c4]
        unfold paS
        rw [if_pos ⟨by omega, hc⟩]
      · rw [rk_o n e1 e] at hn
        by_cases e2 : n = rt
        · subst e2
          rw [hx] at hn
          have hk : k = j + 1 := Option.some.inj hn
          subst hk
          rw [en_x] at hc
          have hcx : c ∈ en n := (hm c).mpr (Or.inl hc)
          obtain ⟨c1, c2, c3, c4⟩ := child n j c hx hcx
          refine ⟨by rw [rk_o _ c2 c3]; exact c1, ?_⟩
          rw [pa_o _ c2 c3 c4]
          unfold paS
          rw [if_neg (fun q => hd c hc q.2)]
          exact (h3 n j c hx hcx).2
        · rw [en_o n e1 e e2] at hc
          obtain ⟨c1, c2, c3, c4⟩ := child n j c hn hc
          refine ⟨by rw [rk_o _ c2 c3]; exact c1, ?_⟩
          rw [pa_o _ c2 c3 c4]
          unfold paS
          rw [if_neg]
          · exact (h3 n j c hn hc).2
          · rintro ⟨q1, q2⟩
            have hcx : c ∈ en rt := (hm c).mpr (Or.inr q2)
            cases k with
            | zero => exact q1 rfl
            | succ k =>
              have d1 := (h3 rt k c hx hcx).2
              rw [(h3 n j c hn hc).2] at d1
              exact e2 (Option.some.inj d1)
  · by_cases e : n = z
    · subst e; rw [rk_z] at hn; cases hn
    · by_cases e1 : n = w
      · subst e1
        rw [rk_w] at hn
        have hk : k = 0 := Option.some.inj hn
        subst hk
        rw [en_w] at hs
        have s1 := h4 rt s hx ((hm s).mpr (Or.inr hs))
        refine ⟨s1.1, s1.2.1, ?_⟩
        unfold spS
        rw [if_pos ⟨rfl, hs⟩]
      · rw [rk_o n e1 e] at hn
        by_cases e2 : n = rt
        · subst e2
          rw [en_x] at hs
          have s1 := h4 n s hn ((hm s).mpr (Or.inl hs))
          refine ⟨s1.1, s1.2.1, ?_⟩
          unfold spS
          rw [if_neg (fun q => hd s hs q.2)]
          exact s1.2.2
        · rw [en_o n e1 e e2] at hs
          have s1 := h4 n s hn hs
          refine ⟨s1.1, s1.2.1, ?_⟩
          unfold spS
          rw [if_neg]
          · exact s1.2.2
          · rintro ⟨q1, q2⟩
            subst q1
            have s2 := h4 rt s hx ((hm s).mpr (Or.inr q2))
            exact e2 (s1.2.2.symm.trans s2.2.2)
  · by_cases e1 : n = w
    · subst e1
      rw [rk_w] at hn
      cases hn
      exact ⟨z, pa_w, rk_z, by rw [en_z]; simp⟩
    · rw [rk_o n e1 hne] at hn
      by_cases e2 : n = rt
      · subst e2
        rw [hx] at hn
        cases hn
        exact ⟨z, pa_x, rk_z, by rw [en_z]; simp⟩
      · obtain ⟨b, b1, b2, b3⟩ := h6 n j hn e2
        have hb := ne1 b _ b2
        by_cases e3 : k ≠ 0 ∧ n ∈ l2
        · have hnx : n ∈ en rt := (hm n).mpr (Or.inr e3.2)
          cases k with
          | zero => exact absurd rfl e3.1
          | succ k =>
            have c1 := h3 rt k n hx hnx
            rw [hn] at c1
            have hj : j = k := Option.some.inj c1.1
            subst hj
            refine ⟨w, ?_, rk_w, by rw [en_w]; exact e3.2⟩
            rw [pa_o n e1 hne e2]
            unfold paS
            rw [if_pos e3]
        · refine ⟨b, ?_, by rw [rk_o _ hb.1 hb.2]; exact b2, ?_⟩
          · rw [pa_o n e1 hne e2]
            unfold paS
            rw [if_neg e3]
            exact b1
          · by_cases e4 : b = rt
            · subst e4
              rw [en_x]
              rw [hx] at b2
              have hk : k = j + 1 := Option.some.inj b2
              exact ((hm n).mp b3).resolve_right (fun q => e3 ⟨by omega, q⟩)
            · rw [en_o b hb.1 hb.2 e4]; exact b3
  · have s1 := h7 s hs
    have hsw := ne1 _ _ s1.1
    unfold spS
    by_cases e1 : k = 0 ∧ s ∈ l2
    · rw [if_pos e1, en_w]
      exact ⟨by rw [rk_w, e1.1], e1.2⟩
    · rw [if_neg e1]
      refine ⟨by rw [rk_o _ hsw.1 hsw.2]; exact s1.1, ?_⟩
      by_cases e2 : sp s = rt
      · rw [e2, en_x]
        have hk : k = 0 := by
          have := s1.1
          rw [e2, hx] at this
          exact Option.some.inj this
        exact ((hm s).mp (e2 ▸ s1.2)).resolve_right (fun q => e1 ⟨hk, q⟩)
      · rw [en_o _ hsw.1 hsw.2 e2]; exact s1.2
/-- the rank of the root is less than the number of nodes -/
theorem rank_lt (h : INV rt rk en pa sp I) (hne : ∀ n k, rk n = some (k + 1) → en n ≠ []) {r : Nat} (hr : rk rt = some r) : r < (used rk).length := by
  obtain ⟨-, -, h2, h3, -, -, -⟩ := h
  have hb : ∀ n k, rk n = some k → n < 16 := fun n k h => (h2 n k h).1
  have key : ∀ j, j ≤ r → ∃ l : List Nat, l.length = j + 1 ∧ l.Nodup ∧ (∀ n, n ∈ l → ∃ k, rk n = some k ∧ r - j ≤ k) ∧ ∃ n, n ∈ l ∧ rk n = some (r - j) := by
    intro j
    induction j with
    | zero => exact fun _ => ⟨[rt], rfl, by simp, fun n hn => ⟨r, by rw [List.mem_singleton.mp hn]; exact hr, by omega⟩, rt, by simp, by simpa using hr⟩
    | succ j ih =>
      intro hj
      obtain ⟨l, l1, l2, l3, n, n1, n2⟩ := ih (by omega)
      obtain ⟨q, hq⟩ : ∃ q, r - j = q + 1 := ⟨r - j - 1, by omega⟩
      rw [hq] at n2
      have hnn := hne n q n2
      obtain ⟨c, rest, hcr⟩ : ∃ c rest, en n = c :: rest := by
        cases he : en n with
        | nil => exact absurd he hnn
        | cons c rest => exact ⟨c, rest, rfl⟩
      have hc : rk c = some q := (h3 n q c n2 (by rw [hcr]; exact List.mem_cons_self)).1
      refine ⟨c :: l, by rw [List.length_cons, l1], List.nodup_cons.mpr ⟨fun hm => ?_, l2⟩, fun m hm => ?_, c, List.mem_cons_self, by rw [hc]; congr 1; omega⟩
      · obtain ⟨k, k1, k2⟩ := l3 c hm
        rw [hc] at k1
        cases k1
        omega
      · rcases List.mem_cons.mp hm with rfl | hm
        · exact ⟨q, hc, by omega⟩
        · obtain ⟨k, k1, k2⟩ := l3 m hm
          exact ⟨k, k1, by omega⟩
  obtain ⟨l, l1, l2, l3, -⟩ := key r (Nat.le_refl _)
  have := nd_len l2 (l2 := used rk) (fun n hn => by
    obtain ⟨k, k1, -⟩ := l3 n hn
    exact (used_mem hb).mpr ⟨k, k1⟩)
  omega
end TI
