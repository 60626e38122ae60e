/-! The order of walking, and what keeps a tree a tree when something goes -/
def preR (en : Nat → List Nat) : Nat → Nat → List Nat
  | 0, n => [n]
  | k + 1, n => n :: (en n).flatMap (preR en k)
def shR (en : Nat → List Nat) : Nat → Nat → List Nat
  | 0, n => en n
  | k + 1, n => (en n).flatMap (shR en k)
def itO (pa : Nat → Option Nat) : Nat → Nat → Option Nat
  | 0, z => some z
  | i + 1, z => (pa z).bind (itO pa i)
theorem itO_end (pa : Nat → Option Nat) : ∀ (i z c : Nat), itO pa i z = some c → itO pa (i + 1) z = pa c
  | 0, z, c, h => by
    cases h
    show (pa z).bind (itO pa 0) = pa z
    cases pa z <;> rfl
  | i + 1, z, c, h => by
    show (pa z).bind (itO pa (i + 1)) = pa c
    have h' : (pa z).bind (itO pa i) = some c := h
    cases hp : pa z with
    | none => rw [hp] at h'; cases h'
    | some y =>
      rw [hp] at h'
      exact itO_end pa i y c h'
section TP
variable {rt : Nat} {rk : Nat → Option Nat} {en : Nat → List Nat} {pa : Nat → Option Nat} {sp : Nat → Nat} {I : Nat → Prop}
theorem pre_self (en : Nat → List Nat) (k n : Nat) : n ∈ preR en k n := by
  cases k
  · exact List.mem_singleton.mpr rfl
  · exact List.mem_cons_self
theorem pre_rk (h : INV rt rk en pa sp I) : ∀ {k n m : Nat}, rk n = some k → m ∈ preR en k n → ∃ j, rk m = some j ∧ j ≤ k ∧ (m ≠ n → j < k)
  | 0, n, m, hn, hm => by
    rw [List.mem_singleton.mp hm]
    exact ⟨0, hn, Nat.le_refl _, fun q => absurd rfl q⟩
  | k + 1, n, m, hn, hm => by
    rcases List.mem_cons.mp hm with rfl | hm
    · exact ⟨k + 1, hn, Nat.le_refl _, fun q => absurd rfl q⟩
    · obtain ⟨c, hc, hm⟩ := List.mem_flatMap.mp hm
      obtain ⟨j, j1, j2, -⟩ := pre_rk h (h.2.2.2.1 n k c hn hc).1 hm
      exact ⟨j, j1, by omega, fun _ => by omega⟩
theorem pre_down (h : INV rt rk en pa sp I) : ∀ {k n m j c : Nat}, rk n = some k → m ∈ preR en k n → rk m = some (j + 1) → c ∈ en m → c ∈ preR en k n
  | 0, n, m, j, c, hn, hm, hj, hc => by
    rw [List.mem_singleton.mp hm, hn] at hj
    cases hj
  | k + 1, n, m, j, c, hn, hm, hj, hc => by
    rcases List.mem_cons.mp hm with rfl | hm
    · exact List.mem_cons_of_mem _ (List.mem_flatMap.mpr ⟨c, hc, pre_self en k c⟩)
    · obtain ⟨d, hd, hm⟩ := List.mem_flatMap.mp hm
      exact List.mem_cons_of_mem _ (List.mem_flatMap.mpr ⟨d, hd, pre_down h (h.2.2.2.1 n k d hn hd).1 hm hj hc⟩)
theorem pre_up (h : INV rt rk en pa sp I) : ∀ {k n m : Nat}, rk n = some k → m ∈ preR en k n → m ≠ n → ∃ a j, a ∈ preR en k n ∧ pa m = some a ∧ m ∈ en a ∧ rk a = some (j + 1)
  | 0, n, m, hn, hm, hne => absurd (List.mem_singleton.mp hm) hne
  | k + 1, n, m, hn, hm, hne => by
    rcases List.mem_cons.mp hm with rfl | hm
    · exact absurd rfl hne
    · obtain ⟨d, hd, hm⟩ := List.mem_flatMap.mp hm
      have hd1 := h.2.2.2.1 n k d hn hd
      by_cases e : m = d
      · subst e
        exact ⟨n, k, List.mem_cons_self, hd1.2, hd, hn⟩
      · obtain ⟨a, j, a1, a2, a3, a4⟩ := pre_up h hd1.1 hm e
        exact ⟨a, j, List.mem_cons_of_mem _ (List.mem_flatMap.mpr ⟨d, hd, a1⟩), a2, a3, a4⟩
theorem pre_anc (h : INV rt rk en pa sp I) : ∀ {k n m j : Nat}, rk n = some k → m ∈ preR en k n → rk m = some j → itO pa (k - j) m = some n
  | 0, n, m, j, hn, hm, hj => by
    rw [List.mem_singleton.mp hm, Nat.zero_sub]
    rfl
  | k + 1, n, m, j, hn, hm, hj => by
    rcases List.mem_cons.mp hm with rfl | hm
    · rw [hn] at hj
      cases hj
      rw [Nat.sub_self]
      rfl
    · obtain ⟨d, hd, hm⟩ := List.mem_flatMap.mp hm
      have hd1 := h.2.2.2.1 n k d hn hd
      obtain ⟨j', j1, j2, -⟩ := pre_rk h hd1.1 hm
      rw [hj] at j1
      cases j1
      rw [show k + 1 - j = (k - j) + 1 by omega, itO_end pa _ _ _ (pre_anc h hd1.1 hm hj)]
      exact hd1.2
theorem pre_one (h : INV rt rk en pa sp I) {k n n' m : Nat} (hn : rk n = some k) (hn' : rk n' = some k) (hm : m ∈ preR en k n) (hm' : m ∈ preR en k n') : n = n' := by
  obtain ⟨j, j1, -⟩ := pre_rk h hn hm
  have a1 := pre_anc h hn hm j1
  have a2 := pre_anc h hn' hm' j1
  rw [a1] at a2
  exact Option.some.inj a2
theorem pre_nd (h : INV rt rk en pa sp I) : ∀ {k n : Nat}, rk n = some k → (preR en k n).Nodup
  | 0, n, hn => by unfold preR; simp
  | k + 1, n, hn => by
    unfold preR
    rw [List.nodup_cons]
    refine ⟨fun hm => ?_, nd_flatMap (h.2.2.1 n _ hn).2 (fun c hc => pre_nd h (h.2.2.2.1 n k c hn hc).1) (fun c d z hc hd hz hw => pre_one h (h.2.2.2.1 n k c hn hc).1 (h.2.2.2.1 n k d hn hd).1 hz hw)⟩
    obtain ⟨c, hc, hm⟩ := List.mem_flatMap.mp hm
    obtain ⟨j, j1, j2, -⟩ := pre_rk h (h.2.2.2.1 n k c hn hc).1 hm
    rw [hn] at j1
    cases j1
    omega
theorem sh_iff (h : INV rt rk en pa sp I) : ∀ {k n s : Nat}, rk n = some k → (s ∈ shR en k n ↔ ∃ m, m ∈ preR en k n ∧ rk m = some 0 ∧ s ∈ en m)
  | 0, n, s, hn => by
    constructor
    · exact fun hs => ⟨n, pre_self en 0 n, hn, hs⟩
    · rintro ⟨m, hm, -, hs⟩
      rw [List.mem_singleton.mp hm] at hs
      exact hs
  | k + 1, n, s, hn => by
    constructor
    · intro hs
      obtain ⟨c, hc, hs⟩ := List.mem_flatMap.mp hs
      obtain ⟨m, m1, m2, m3⟩ := (sh_iff h (h.2.2.2.1 n k c hn hc).1).mp hs
      exact ⟨m, List.mem_cons_of_mem _ (List.mem_flatMap.mpr ⟨c, hc, m1⟩), m2, m3⟩
    · rintro ⟨m, hm, m2, m3⟩
      rcases List.mem_cons.mp hm with rfl | hm
      · rw [hn] at m2; cases m2
      · obtain ⟨c, hc, hm⟩ := List.mem_flatMap.mp hm
        exact List.mem_flatMap.mpr ⟨c, hc, (sh_iff h (h.2.2.2.1 n k c hn hc).1).mpr ⟨m, hm, m2, m3⟩⟩
theorem sh_sp (h : INV rt rk en pa sp I) {k n s : Nat} (hn : rk n = some k) : s ∈ shR en k n ↔ I s ∧ sp s ∈ preR en k n := by
  rw [sh_iff h hn]
  constructor
  · rintro ⟨m, m1, m2, m3⟩
    have := h.2.2.2.2.1 m s m2 m3
    exact ⟨this.2.1, this.2.2 ▸ m1⟩
  · rintro ⟨h1, h2⟩
    have := h.2.2.2.2.2.2 s h1
    exact ⟨sp s, h2, this.1, this.2⟩
theorem sh_nd (h : INV rt rk en pa sp I) : ∀ {k n : Nat}, rk n = some k → (shR en k n).Nodup
  | 0, n, hn => (h.2.2.1 n _ hn).2
  | k + 1, n, hn => by
    unfold shR
    refine nd_flatMap (h.2.2.1 n _ hn).2 (fun c hc => sh_nd h (h.2.2.2.1 n k c hn hc).1) (fun c d z hc hd hz hw => ?_)
    have c1 := (h.2.2.2.1 n k c hn hc).1
    have d1 := (h.2.2.2.1 n k d hn hd).1
    exact pre_one h c1 d1 ((sh_sp h c1).mp hz).2 ((sh_sp h d1).mp hw).2
theorem pre_all (h : INV rt rk en pa sp I) {r : Nat} (hr : rk rt = some r) : ∀ (d : Nat) {m j : Nat}, rk m = some j → r - j ≤ d → m ∈ preR en r rt
  | 0, m, j, hm, hd => by
    obtain ⟨⟨r', hr', -, hrk⟩, -⟩ := h
    rw [hr] at hr'
    cases hr'
    have := hrk m j hm
    rw [this.2 (by omega)]
    exact pre_self en r rt
  | d + 1, m, j, hm, hd => by
    by_cases e : m = rt
    · rw [e]; exact pre_self en r rt
    · obtain ⟨a, a1, a2, a3⟩ := h.2.2.2.2.2.1 m j hm e
      exact pre_down h hr (pre_all h hr d a2 (by omega)) a2 a3
theorem pre_all' (h : INV rt rk en pa sp I) {r m j : Nat} (hr : rk rt = some r) (hm : rk m = some j) : m ∈ preR en r rt := pre_all h hr r hm (by omega)
theorem pre_len (h : INV rt rk en pa sp I) {k n : Nat} (hn : rk n = some k) : (preR en k n).length ≤ (used rk).length :=
  nd_len (pre_nd h hn) fun m hm => by
    obtain ⟨j, j1, -⟩ := pre_rk h hn hm
    exact (used_mem fun n k h' => (h.2.2.1 n k h').1).mpr ⟨j, j1⟩
theorem sh_len (h : INV rt rk en pa sp I) {k n : Nat} (hn : rk n = some k) : (shR en k n).length ≤ 16 := by
  have := nd_len (sh_nd h hn) (l2 := List.range 16) fun s hs => by
    obtain ⟨m, m1, m2, m3⟩ := (sh_iff h hn).mp hs
    exact List.mem_range.mpr (h.2.2.2.2.1 m s m2 m3).1
  rwa [List.length_range] at this
-- a shape goes
theorem INV_cut (h : INV rt rk en pa sp I) {s : Nat} (hs : I s) : INV rt rk (va_up en (sp s) ((en (sp s)).erase s)) pa sp (fun t => I t ∧ t ≠ s) := by
  obtain ⟨h1, hpr, h2, h3, h4, h6, h7⟩ := h
  have hx := (h7 s hs).1
  refine ⟨h1, hpr, fun n k hk => ?_, fun n k c hk hc => ?_, fun n t hk ht => ?_, fun n k hk hne => ?_, fun t ht => ?_⟩
  · refine ⟨(h2 n k hk).1, ?_⟩
    by_cases e : n = sp s
    · subst e; rw [up_s]; exact (h2 _ k hk).2.erase _
    · rw [up_n _ _ e]; exact (h2 n k hk).2
  · have e : n ≠ sp s := fun q => by rw [q, hx] at hk; cases hk
    rw [up_n _ _ e] at hc
    exact h3 n k c hk hc
  · by_cases e : n = sp s
    · subst e
      rw [up_s] at ht
      have hne := (h2 _ _ hk).2.mem_erase_iff.mp ht
      have := h4 _ t hk hne.2
      exact ⟨this.1, ⟨this.2.1, hne.1⟩, this.2.2⟩
    · rw [up_n _ _ e] at ht
      have := h4 n t hk ht
      exact ⟨this.1, ⟨this.2.1, fun q => e (by rw [← this.2.2, q])⟩, this.2.2⟩
  · obtain ⟨a, a1, a2, a3⟩ := h6 n k hk hne
    refine ⟨a, a1, a2, ?_⟩
    have e : a ≠ sp s := fun q => by rw [q, hx] at a2; cases a2
    rw [up_n _ _ e]; exact a3
  · have := h7 t ht.1
    refine ⟨this.1, ?_⟩
    by_cases e : sp t = sp s
    · rw [e, up_s]
      exact (List.mem_erase_of_ne ht.2).mpr (e ▸ this.2)
    · rw [up_n _ _ e]; exact this.2
/-- nodes are given up -/
def rkD (rk : Nat → Option Nat) (sub : List Nat) : Nat → Option Nat := fun n => if n ∈ sub then none else rk n
theorem INV_diss (h : INV rt rk en pa sp I) {x a k : Nat} (hx : rk x = some k) (hpx : pa x = some a) : INV rt (rkD rk (preR en k x)) (va_up en a ((en a).erase x)) pa sp (fun t => I t ∧ sp t ∉ preR en k x) := by
  have h' := h
  obtain ⟨⟨r, hr, hr16, hrk⟩, hpr, h2, h3, h4, h6, h7⟩ := h
  have hxr : x ≠ rt := fun q => by rw [q, hpr] at hpx; cases hpx
  obtain ⟨a', pa1, rka, hxa⟩ := h6 x k hx hxr
  rw [hpx] at pa1
  cases pa1
  have out : ∀ n j, rk n = some j → k < j → n ∉ preR en k x := fun n j hn hj q => by
    obtain ⟨j', j1, j2, -⟩ := pre_rk h' hx q
    rw [hn] at j1
    cases j1
    omega
  have ha := out a _ rka (by omega)
  have hrs : rt ∉ preR en k x := fun q => by
    obtain ⟨b, j, b1, b2, -⟩ := pre_up h' hx q (Ne.symm hxr)
    rw [hpr] at b2
    cases b2
  have rk_i : ∀ n j, rkD rk (preR en k x) n = some j → rk n = some j ∧ n ∉ preR en k x := fun n j hn => by
    unfold rkD at hn
    by_cases e : n ∈ preR en k x
    · rw [if_pos e] at hn; cases hn
    · rw [if_neg e] at hn; exact ⟨hn, e⟩
  have rk_o : ∀ n, n ∉ preR en k x → rkD rk (preR en k x) n = rk n := fun n e => if_neg e
  generalize rkD rk (preR en k x) = rk' at rk_i rk_o ⊢
  refine ⟨⟨r, by rw [rk_o _ hrs]; exact hr, hr16, fun n j hn => hrk n j (rk_i n j hn).1⟩, hpr, fun n j hn => ?_, fun n j c hn hc => ?_, fun n t hn ht => ?_, fun n j hn hne => ?_, fun t ht => ?_⟩
  · obtain ⟨hn, hns⟩ := rk_i n j hn
    refine ⟨(h2 n j hn).1, ?_⟩
    by_cases e : n = a
    · subst e; rw [up_s]; exact (h2 n j hn).2.erase _
    · rw [up_n _ _ e]; exact (h2 n j hn).2
  · obtain ⟨hn, hns⟩ := rk_i n _ hn
    have hce : c ∈ en n ∧ c ≠ x := by
      by_cases e : n = a
      · subst e
        rw [up_s] at hc
        have := (h2 n _ hn).2.mem_erase_iff.mp hc
        exact ⟨this.2, this.1⟩
      · rw [up_n _ _ e] at hc
        refine ⟨hc, fun q => e ?_⟩
        have := (h3 n j c hn hc).2
        rw [q, hpx] at this
        exact (Option.some.inj this).symm
    have c1 := h3 n j c hn hce.1
    have hcs : c ∉ preR en k x := fun q => by
      obtain ⟨b, i, b1, b2, -⟩ := pre_up h' hx q hce.2
      rw [c1.2] at b2
      cases b2
      exact hns b1
    exact ⟨by rw [rk_o _ hcs]; exact c1.1, c1.2⟩
  · obtain ⟨hn, hns⟩ := rk_i n _ hn
    have e : n ≠ a := fun q => by rw [q, rka] at hn; cases hn
    rw [up_n _ _ e] at ht
    have := h4 n t hn ht
    exact ⟨this.1, ⟨this.2.1, this.2.2 ▸ hns⟩, this.2.2⟩
  · obtain ⟨hn, hns⟩ := rk_i n _ hn
    obtain ⟨b, b1, b2, b3⟩ := h6 n j hn hne
    have hbs : b ∉ preR en k x := fun q => hns (pre_down h' hx q b2 b3)
    refine ⟨b, b1, by rw [rk_o _ hbs]; exact b2, ?_⟩
    have hnx : n ≠ x := fun q => hns (q ▸ pre_self en k x)
    by_cases e : b = a
    · subst e; rw [up_s]; exact (List.mem_erase_of_ne hnx).mpr b3
    · rw [up_n _ _ e]; exact b3
  · have := h7 t ht.1
    refine ⟨by rw [rk_o _ ht.2]; exact this.1, ?_⟩
    have e : sp t ≠ a := fun q => by
      have := this.1
      rw [q, rka] at this
      cases this
    rw [up_n _ _ e]; exact this.2
/-- the root's only entry becomes the root -/
theorem INV_low (h : INV rt rk en pa sp I) {c k : Nat} (hr : rk rt = some (k + 1)) (he : en rt = [c]) : INV c (va_up rk rt none) en (va_up pa c none) sp I := by
  obtain ⟨⟨r, hr', hr16, hrk⟩, hpr, h2, h3, h4, h6, h7⟩ := h
  rw [hr] at hr'
  cases hr'
  have c1 := h3 rt k c hr (by rw [he]; exact List.mem_singleton.mpr rfl)
  have hcr : c ≠ rt := fun q => by rw [q, hpr] at c1; cases c1.2
  have rk_i : ∀ n j, va_up rk rt none n = some j → rk n = some j ∧ n ≠ rt := fun n j hn => by
    by_cases e : n = rt
    · rw [e, up_s] at hn; cases hn
    · rw [up_n _ _ e] at hn; exact ⟨hn, e⟩
  refine ⟨⟨k, by rw [up_n _ _ hcr]; exact c1.1, by omega, fun n j hn => ?_⟩, up_s _ _ _, fun n j hn => h2 n j (rk_i n j hn).1, fun n j d hn hd => ?_, fun n s hn hs => h4 n s (rk_i n _ hn).1 hs, fun n j hn hne => ?_, fun s hs => ?_⟩
  · obtain ⟨hn, hne⟩ := rk_i n j hn
    have h5 := hrk n j hn
    have hj : j ≤ k := by
      rcases Nat.lt_or_ge j (k + 1) with q | q
      · omega
      · exact absurd (h5.2 (by omega)) hne
    refine ⟨hj, fun q => ?_⟩
    subst q
    obtain ⟨b, b1, b2, b3⟩ := h6 n j hn hne
    have hb := (hrk b _ b2).2 rfl
    rw [hb, he] at b3
    exact List.mem_singleton.mp b3
  · obtain ⟨hn, hne⟩ := rk_i n _ hn
    have d1 := h3 n j d hn hd
    have hdr : d ≠ rt := fun q => by rw [q, hpr] at d1; cases d1.2
    have hdc : d ≠ c := fun q => by
      rw [q, c1.2] at d1
      exact hne (Option.some.inj d1.2).symm
    exact ⟨by rw [up_n _ _ hdr]; exact d1.1, by rw [up_n _ _ hdc]; exact d1.2⟩
  · obtain ⟨hn, hnr⟩ := rk_i n _ hn
    obtain ⟨b, b1, b2, b3⟩ := h6 n j hn hnr
    have hbr : b ≠ rt := fun q => by
      rw [q, he] at b3
      exact hne (List.mem_singleton.mp b3)
    exact ⟨b, by rw [up_n _ _ hne]; exact b1, by rw [up_n _ _ hbr]; exact b2, b3⟩
  · have := h7 s hs
    have e : sp s ≠ rt := fun q => by
      have := this.1
      rw [q, hr] at this
      cases this
    exact ⟨by rw [up_n _ _ e]; exact this.1, this.2⟩
end TP
