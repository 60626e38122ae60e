/-! The law's own body over a relation Sim between the two objects' cells: the class's object at 0, the reference's at 104 -/
def lwStep (Sim : xH → Prop) (jx jm : Nat) (as : List Value) (h : xH) : Prop := ∃ (r : Int32) (h1 h2 : xH), xM jx (.ref 0 :: as) h = some (some (.int r), h1) ∧ (∃ fs, h1.2.2 104 = .inr (.inr (5, fs))) ∧ xM jm (.ref 104 :: as) h1 = some (some (.int r), h2) ∧ Sim h2
def lwStepL (Sim : xH → Prop) (jx jm : Nat) (as : List Value) (h : xH) : Prop := ∃ (r : Int64) (h1 h2 : xH), xM jx (.ref 0 :: as) h = some (some (.long r), h1) ∧ (∃ fs, h1.2.2 104 = .inr (.inr (5, fs))) ∧ xM jm (.ref 104 :: as) h1 = some (some (.long r), h2) ∧ Sim h2
def lwOK (Sim : xH → Prop) : Prop := ∀ h, Sim h → (h.1 ≤ 1000 ∧ h.2.1 ≤ 100000 ∧ xwf h ∧ ∃ fs, h.2.2 0 = .inr (.inr (4, fs))) ∧ ((∀ a1 a2 a3 a4 a5 : Int32, lwStep Sim 74 159 [.int a1, .int a2, .int a3, .int a4, .int a5] h) ∧ (∀ a1 a2 a3 a4 a5 : Int32, lwStep Sim 75 160 [.int a1, .int a2, .int a3, .int a4, .int a5] h) ∧ (∀ a1 a2 : Int32, lwStep Sim 76 161 [.int a1, .int a2] h) ∧ (∀ a1 a2 : Int32, lwStep Sim 77 162 [.int a1, .int a2] h) ∧ (∀ a1 : Int32, lwStep Sim 78 163 [.int a1] h) ∧ (lwStep Sim 79 164 [] h) ∧ (∀ a1 a2 : Int32, lwStep Sim 80 166 [.int a1, .int a2] h) ∧ (∀ a1 a2 : Int32, lwStep Sim 81 167 [.int a1, .int a2] h) ∧ (∀ a1 a2 a3 : Int32, lwStep Sim 82 171 [.int a1, .int a2, .int a3] h) ∧ (∀ a1 a2 a3 a4 : Int32, lwStep Sim 83 172 [.int a1, .int a2, .int a3, .int a4] h) ∧ (∀ a1 a2 : Int32, lwStep Sim 84 175 [.int a1, .int a2] h) ∧ (∀ a1 a2 : Int32, lwStep Sim 85 176 [.int a1, .int a2] h) ∧ (∀ a1 : Int32, lwStep Sim 86 178 [.int a1] h) ∧ (∀ a1 a2 : Int32, lwStep Sim 87 180 [.int a1, .int a2] h) ∧ (∀ a1 : Int32, lwStep Sim 88 181 [.int a1] h) ∧ (∀ a1 : Int32, lwStep Sim 89 182 [.int a1] h) ∧ (lwStep Sim 90 183 [] h) ∧ (lwStep Sim 91 192 [] h) ∧ (lwStep Sim 92 107 [] h) ∧ (∀ a1 : Int32, lwStep Sim 93 194 [.int a1] h) ∧ (lwStepL Sim 94 196 [] h))
theorem lw_cmp0 {r : Int64} : lg_cmp r r = 0 := by
  have h : ¬ r < r := by rw [Int64.lt_iff_toInt_lt]; omega
  simp [lg_cmp, h]
section LAW
variable {p : Program} {l : Launch} {e : Env} {s : State} {m : MethodId} {below : List Frame} {meth : Method} {c : Code} {b L : Nat} {xs : Nat → Int32} {D : va_G} {G : xG} {Q : State → Prop}
theorem lc_V {j idx ob ci pc : Nat} {q1 : xMI} {as rest st0 : List Value} {fs : List Value} {h h1 : xH} {r1 : Option Value} {H : Heap} {locs : List Loc} {ls : Array Slot} (C0 : lw_At p s m meth c b L xs) (hKv : va_K D vwCl (xtys G) s) (hNw : xNw s)
    (hq : xmis[j]? = some q1) (hki : q1.2.2.2.2.2.1 = 1) (hlk : Cond.methodLink R_law idx q1.2.1 ∈ xtb) (hfr : q1.2.2.2.2.2.2.2.1 + 1 ≤ 13) (hlo : 8 + (q1.2.2.2.1 + 11) + q1.2.2.2.2.2.2.2.2 ≤ 530) (hna : as.length + 1 = q1.2.2.2.2.2.2.1)
    (hm : xM j (.ref ob :: as) h = some (r1, h1)) (hwf : xwf h) (hob : h.2.2 ob = .inr (.inr (ci, fs))) (hci : ci + 1 = q1.1) (hc6 : ci < 6) (hsz : h1.1 ≤ 600000 ∧ h1.2.1 ≤ 7302250) (hcat : (rest.map fun v => v.category).sum ≤ 8)
    (hst : st0 = (as.map (xcv s.heap.size)).reverse ++ .ref (s.heap.size + ob) :: rest) (hdg : decode code pc = .ok (.invokevirtual idx, 3)) (hP : va_P D vwCl (xws G s.heap.size h) H) (hS : va_S (fun a => s.heap.size ≤ a) s.heap H locs) (hls : ls.size = 4)
    (kk : ∀ (H1 : Heap) (locs1 : List Loc), va_P D vwCl (xws G s.heap.size h1) H1 → va_S (fun a => s.heap.size ≤ a) s.heap H1 locs1 → W p l e room_1 s m #[Value.ref b] below meth c H1 locs1 h1.1 h1.2.1 Q (F0 m (pc + 3) ls ((r1.map (xcv s.heap.size)).toList ++ rest))) : W p l e room_1 s m #[Value.ref b] below meth c H locs h.1 h.2.1 Q (F0 m pc ls st0) := by
  subst hst
  obtain ⟨hx, hb, hr, hml, hown, hts0, hX, hbl, hlocks, hgv⟩ := C0
  have hts : ∀ w ∈ xtb, w.before #[Value.ref b] s = true := fun w hw => hts0 w (List.mem_filter.mp hw).1
  have ok1 := xmos q1 (List.mem_of_getElem? hq)
  obtain ⟨o1, o2, o3, o4, o5, o6, o7, o8, o9, o10, o11⟩ := id ok1
  have hgd : GoodIn xtb (wsV R_law idx q1.2.1.cls q1.2.1 (xwd q1)) := fun w hw => by
    unfold wsV at hw
    rcases List.mem_append.mp hw with hw | hw
    · simp only [List.mem_cons, List.not_mem_nil, or_false] at hw
      rcases hw with rfl | rfl | rfl | rfl
      · exact xgood hlk
      · exact xgood (o8 (by rw [hki]; decide))
      · exact xgood (o9 hki)
      · exact xgood o2
    · exact xwd_good ok1 w hw
  have hM := xM_con l D G s.heap.size hq hm hwf
  obtain ⟨hwf1, g1, g2⟩ := xM_go hm hwf
  have hlt := xlive_o hwf hob hc6
  refine x_size fun hz => ?_
  have hHz : H.size = s.heap.size + h.1 := x_hsize (h0 := (0, 0)) (by simpa using hz) (by simp) (Nat.zero_le _) hP hS
  have hcls : q1.2.1.cls = xRc ci := by rw [o3, ← hci]; exact xcnm_R hc6
  have hrc : ∃ cellB : Cell, H[s.heap.size + ob]? = some cellB ∧ cellB.vm.isStatics = false ∧ s.vm.findClass q1.2.1.cls = some cellB.cls := by
    rw [hcls]
    exact va_recv hKv hP (xcl_at hc6).1 (q0 := ob) (by rw [xws_get hlt, hob]; rfl)
  have hf : h.1 + (h1.1 - h.1) ≤ 600000 ∧ h.2.1 + (h1.2.1 - h.2.1) ≤ 7302250 := by omega
  have hrn := va_runV (e := e) (below := below) (meth := meth) (locs := locs) (cells := h.1) (slots := h.2.1) (R := room_1) (g := F0 m pc ls ((as.map (xcv s.heap.size)).reverse ++ .ref (s.heap.size + ob) :: rest)) (As := as.map (xcv s.heap.size)) (rest := rest) (C := q1.2.1.cls) (b := s.heap.size + ob) ⟨hx, hb, hml, hown, hts⟩ hM (cwV as.length hts hgd rfl rfl rfl ⟨rfl, o5.1, o5.2, by rw [o6, hki, ← hna]; rfl⟩ ⟨hfr, hlo⟩) ⟨xPc_blind (.ref ob :: as) h, hrc, xPc_at (as := .ref ob :: as) hHz hP hKv hNw⟩ rfl (by rw [List.length_map]) hls rfl (lv_room hcat) hdg hf
  refine x_call hrn hS (fun H1 locs1 hP1 hS1 => ?_)
  refine W.cs (cells' := h1.1) (slots' := h1.2.1) (by omega) (by omega) ?_
  exact kk H1 locs1 hP1 hS1
theorem lc_I {j idx ob pc : Nat} {q1 : xMI} {rest : List Value} {h h1 : xH} {H : Heap} {locs : List Loc} {ls : Array Slot} (C0 : lw_At p s m meth c b L xs) (hKv : va_K D vwCl (xtys G) s) (hNw : xNw s)
    (hq : xmis[j]? = some q1) (hki : q1.2.2.2.2.2.1 = 2) (hlk : Cond.methodLink R_law idx q1.2.1 ∈ xtb) (hfr : q1.2.2.2.2.2.2.2.1 + 1 ≤ 13) (hlo : 8 + (q1.2.2.2.1 + 11) + q1.2.2.2.2.2.2.2.2 ≤ 530) (hna : 1 = q1.2.2.2.2.2.2.1)
    (hm : xM j [.ref ob] h = some (none, h1)) (hwf : xwf h) (hsz : h1.1 ≤ 600000 ∧ h1.2.1 ≤ 7302250) (hcat : (rest.map fun v => v.category).sum ≤ 8)
    (hdg : decode code pc = .ok (.invokespecial idx, 3)) (hP : va_P D vwCl (xws G s.heap.size h) H) (hS : va_S (fun a => s.heap.size ≤ a) s.heap H locs) (hls : ls.size = 4)
    (kk : ∀ (H1 : Heap) (locs1 : List Loc), va_P D vwCl (xws G s.heap.size h1) H1 → va_S (fun a => s.heap.size ≤ a) s.heap H1 locs1 → W p l e room_1 s m #[Value.ref b] below meth c H1 locs1 h1.1 h1.2.1 Q (F0 m (pc + 3) ls rest)) : W p l e room_1 s m #[Value.ref b] below meth c H locs h.1 h.2.1 Q (F0 m pc ls (.ref (s.heap.size + ob) :: rest)) := by
  obtain ⟨hx, hb, hr, hml, hown, hts0, hX, hbl, hlocks, hgv⟩ := C0
  have hts : ∀ w ∈ xtb, w.before #[Value.ref b] s = true := fun w hw => hts0 w (List.mem_filter.mp hw).1
  have ok1 := xmos q1 (List.mem_of_getElem? hq)
  obtain ⟨o1, o2, o3, o4, o5, o6, o7, o8, o9, o10, o11⟩ := id ok1
  have hM := xM_con l D G s.heap.size hq hm hwf
  obtain ⟨hwf1, g1, g2⟩ := xM_go hm hwf
  have hret : q1.2.2.2.2.1 = none := by
    have z := List.all_eq_true.mp xin_ret q1 (List.mem_of_getElem? hq)
    rw [hki] at z
    simpa using z
  have hwd : xwd q1 = Cond.code q1.2.1 q1.2.2.1 q1.2.2.2.1 none :: xtb := by unfold xwd; rw [hret]
  refine x_size fun hz => ?_
  have hHz : H.size = s.heap.size + h.1 := x_hsize (h0 := (0, 0)) (by simpa using hz) (by simp) (Nat.zero_le _) hP hS
  have hf : h.1 + (h1.1 - h.1) ≤ 600000 ∧ h.2.1 + (h1.2.1 - h.2.1) ≤ 7302250 := by omega
  have hrn := va_runI (e := e) (below := below) (meth := meth) (locs := locs) (cells := h.1) (slots := h.2.1) (R := room_1) (g := F0 m pc ls (.ref (s.heap.size + ob) :: rest)) (As := []) (rest := rest) (b := s.heap.size + ob) ⟨hx, hb, hml, hown, hts⟩ hM (cwI 0 hts (xwd_good ok1) hwd rfl rfl (hts _ o2) (hts _ hlk) (hts _ (o8 (by rw [hki]; decide))) (o10 hki) ⟨o5.1, o5.2, by rw [o6, hki, ← hna]; rfl⟩ ⟨hfr, hlo⟩) ⟨xPc_blind [.ref ob] h, xPc_at (as := [.ref ob]) hHz hP hKv hNw⟩ rfl rfl hls rfl (lv_room hcat) hdg hf
  refine x_call hrn hS (fun H1 locs1 hP1 hS1 => ?_)
  refine W.cs (cells' := h1.1) (slots' := h1.2.1) (by omega) (by omega) ?_
  exact kk H1 locs1 hP1 hS1
set_option maxRecDepth 100000 in
theorem lk_13 : Cond.methodLink R_law 13 xmi_74.2.1 ∈ xtb := xtb_in (List.mem_of_getElem? (i := 244) rfl) rfl
set_option maxRecDepth 100000 in
theorem lk_17 : Cond.methodLink R_law 17 xmi_159.2.1 ∈ xtb := xtb_in (List.mem_of_getElem? (i := 738) rfl) rfl
set_option maxHeartbeats 4000000 in
set_option maxRecDepth 100000 in
theorem lw_c0 {Sim : xH → Prop} (hOK : lwOK Sim) (C0 : lw_At p s m meth c b L xs) (hKv : va_K D vwCl (xtys G) s) (hNw : xNw s) {i : Nat} (hi : i + 6 ≤ L) (hL : L ≤ 3072) {h : xH} (hs : Sim h) {H : Heap} {locs : List Loc} {ls : Array Slot} (hP : va_P D vwCl (xws G s.heap.size h) H) (hS : va_S (fun a => s.heap.size ≤ a) s.heap H locs) (hl : lv_has ls 4 [(0, .ref b), (1, .ref (s.heap.size + 0)), (2, .ref (s.heap.size + 104)), (3, .int (nI i))])
    (kk : ∀ (h2 : xH) (H2 : Heap) (locs2 : List Loc), Sim h2 → va_P D vwCl (xws G s.heap.size h2) H2 → va_S (fun a => s.heap.size ≤ a) s.heap H2 locs2 → W p l e room_1 s m #[Value.ref b] below meth c H2 locs2 h2.1 h2.2.1 Q (F0 m 766 ls [])) : W p l e room_1 s m #[Value.ref b] below meth c H locs h.1 h.2.1 Q (F0 m 132 ls []) := by
  obtain ⟨hz1, hz2, hwf, fs0, hob0⟩ := (hOK h hs).1
  obtain ⟨r, h1, h2, m1, ⟨fs1, hob1⟩, m2, hsim⟩ := (hOK h hs).2.1 (xs (nI i + 1).toNatClampNeg) (xs (nI i + 2).toNatClampNeg) (xs (nI i + 3).toNatClampNeg) (xs (nI i + 4).toNatClampNeg) (xs (nI i + 5).toNatClampNeg)
  obtain ⟨y1, y2, -, -⟩ := (hOK h2 hsim).1
  obtain ⟨hwf1, g1, g2⟩ := xM_go m1 hwf
  obtain ⟨hwf2, g3, g4⟩ := xM_go m2 hwf1
  obtain ⟨hx, hb, hr, hml, hown, hts0, hX, hbl, hlocks, hgv⟩ := id C0
  have hbA : ¬ (fun q : Nat => s.heap.size ≤ q) b := Nat.not_le.mpr hbl
  have hin : ∀ t : Nat, t < 6 → vp_in (nI i + nI t) L := fun t ht => by rw [nI_add]; exact vp_in_nI (by omega) (by omega)
  refine lv_aload_n hx hb dL_132 rfl (lv_at hl 1 rfl) ?_
  refine lv_aload_n hx hb dL_133 rfl (lv_at hl 0 rfl) ?_
  refine lv_iload_n hx hb dL_134 rfl (lv_at hl 3 rfl) ?_
  refine lv_iconst (v := 1) hx hb dL_135 (by decide) ?_
  refine lv_iadd hx hb dL_136 ?_
  refine va_sld hx hb hX hbl hbA hS (hin 1 (by decide)) dL_137 ?_
  refine lv_aload_n hx hb dL_138 rfl (lv_at hl 0 rfl) ?_
  refine lv_iload_n hx hb dL_139 rfl (lv_at hl 3 rfl) ?_
  refine lv_iconst (v := 2) hx hb dL_140 (by decide) ?_
  refine lv_iadd hx hb dL_141 ?_
  refine va_sld hx hb hX hbl hbA hS (hin 2 (by decide)) dL_142 ?_
  refine lv_aload_n hx hb dL_143 rfl (lv_at hl 0 rfl) ?_
  refine lv_iload_n hx hb dL_144 rfl (lv_at hl 3 rfl) ?_
  refine lv_iconst (v := 3) hx hb dL_145 (by decide) ?_
  refine lv_iadd hx hb dL_146 ?_
  refine va_sld hx hb hX hbl hbA hS (hin 3 (by decide)) dL_147 ?_
  refine lv_aload_n hx hb dL_148 rfl (lv_at hl 0 rfl) ?_
  refine lv_iload_n hx hb dL_149 rfl (lv_at hl 3 rfl) ?_
  refine lv_iconst (v := 4) hx hb dL_150 (by decide) ?_
  refine lv_iadd hx hb dL_151 ?_
  refine va_sld hx hb hX hbl hbA hS (hin 4 (by decide)) dL_152 ?_
  refine lv_aload_n hx hb dL_153 rfl (lv_at hl 0 rfl) ?_
  refine lv_iload_n hx hb dL_154 rfl (lv_at hl 3 rfl) ?_
  refine lv_iconst (v := 5) hx hb dL_155 (by decide) ?_
  refine lv_iadd hx hb dL_156 ?_
  refine va_sld hx hb hX hbl hbA hS (hin 5 (by decide)) dL_157 ?_
  refine lc_V (q1 := xmi_74) (as := [.int (xs (nI i + 1).toNatClampNeg), .int (xs (nI i + 2).toNatClampNeg), .int (xs (nI i + 3).toNatClampNeg), .int (xs (nI i + 4).toNatClampNeg), .int (xs (nI i + 5).toNatClampNeg)]) (rest := []) C0 hKv hNw rfl rfl lk_13 (by decide) (by decide) rfl m1 hwf hob0 rfl (by decide) (by omega) (by decide) rfl dL_158 hP hS hl.1 (fun H1 locs1 hP hS => ?_)
  show W p l e room_1 s m #[Value.ref b] below meth c H1 locs1 h1.1 h1.2.1 Q (F0 m 161 ls [.int r])
  refine lv_aload_n hx hb dL_161 rfl (lv_at hl 2 rfl) ?_
  refine lv_aload_n hx hb dL_162 rfl (lv_at hl 0 rfl) ?_
  refine lv_iload_n hx hb dL_163 rfl (lv_at hl 3 rfl) ?_
  refine lv_iconst (v := 1) hx hb dL_164 (by decide) ?_
  refine lv_iadd hx hb dL_165 ?_
  refine va_sld hx hb hX hbl hbA hS (hin 1 (by decide)) dL_166 ?_
  refine lv_aload_n hx hb dL_167 rfl (lv_at hl 0 rfl) ?_
  refine lv_iload_n hx hb dL_168 rfl (lv_at hl 3 rfl) ?_
  refine lv_iconst (v := 2) hx hb dL_169 (by decide) ?_
  refine lv_iadd hx hb dL_170 ?_
  refine va_sld hx hb hX hbl hbA hS (hin 2 (by decide)) dL_171 ?_
  refine lv_aload_n hx hb dL_172 rfl (lv_at hl 0 rfl) ?_
  refine lv_iload_n hx hb dL_173 rfl (lv_at hl 3 rfl) ?_
  refine lv_iconst (v := 3) hx hb dL_174 (by decide) ?_
  refine lv_iadd hx hb dL_175 ?_
  refine va_sld hx hb hX hbl hbA hS (hin 3 (by decide)) dL_176 ?_
  refine lv_aload_n hx hb dL_177 rfl (lv_at hl 0 rfl) ?_
  refine lv_iload_n hx hb dL_178 rfl (lv_at hl 3 rfl) ?_
  refine lv_iconst (v := 4) hx hb dL_179 (by decide) ?_
  refine lv_iadd hx hb dL_180 ?_
  refine va_sld hx hb hX hbl hbA hS (hin 4 (by decide)) dL_181 ?_
  refine lv_aload_n hx hb dL_182 rfl (lv_at hl 0 rfl) ?_
  refine lv_iload_n hx hb dL_183 rfl (lv_at hl 3 rfl) ?_
  refine lv_iconst (v := 5) hx hb dL_184 (by decide) ?_
  refine lv_iadd hx hb dL_185 ?_
  refine va_sld hx hb hX hbl hbA hS (hin 5 (by decide)) dL_186 ?_
  refine lc_V (q1 := xmi_159) (as := [.int (xs (nI i + 1).toNatClampNeg), .int (xs (nI i + 2).toNatClampNeg), .int (xs (nI i + 3).toNatClampNeg), .int (xs (nI i + 4).toNatClampNeg), .int (xs (nI i + 5).toNatClampNeg)]) (rest := [.int r]) C0 hKv hNw rfl rfl lk_17 (by decide) (by decide) rfl m2 hwf1 hob1 rfl (by decide) (by omega) (by show 1 ≤ 8; decide) rfl dL_187 hP hS hl.1 (fun H2 locs2 hP hS => ?_)
  show W p l e room_1 s m #[Value.ref b] below meth c H2 locs2 h2.1 h2.2.1 Q (F0 m 190 ls [.int r, .int r])
  refine lv_icmp_eq (tgt := 766) hx hb dL_190 (by decide) (fun _ => ?_) (fun hc => absurd rfl hc)
  exact kk h2 H2 locs2 hsim hP hS
set_option maxRecDepth 100000 in
theorem lk_18 : Cond.methodLink R_law 18 xmi_75.2.1 ∈ xtb := xtb_in (List.mem_of_getElem? (i := 376) rfl) rfl
set_option maxRecDepth 100000 in
theorem lk_21 : Cond.methodLink R_law 21 xmi_160.2.1 ∈ xtb := xtb_in (List.mem_of_getElem? (i := 886) rfl) rfl
set_option maxHeartbeats 4000000 in
set_option maxRecDepth 100000 in
theorem lw_c1 {Sim : xH → Prop} (hOK : lwOK Sim) (C0 : lw_At p s m meth c b L xs) (hKv : va_K D vwCl (xtys G) s) (hNw : xNw s) {i : Nat} (hi : i + 6 ≤ L) (hL : L ≤ 3072) {h : xH} (hs : Sim h) {H : Heap} {locs : List Loc} {ls : Array Slot} (hP : va_P D vwCl (xws G s.heap.size h) H) (hS : va_S (fun a => s.heap.size ≤ a) s.heap H locs) (hl : lv_has ls 4 [(0, .ref b), (1, .ref (s.heap.size + 0)), (2, .ref (s.heap.size + 104)), (3, .int (nI i))])
    (kk : ∀ (h2 : xH) (H2 : Heap) (locs2 : List Loc), Sim h2 → va_P D vwCl (xws G s.heap.size h2) H2 → va_S (fun a => s.heap.size ≤ a) s.heap H2 locs2 → W p l e room_1 s m #[Value.ref b] below meth c H2 locs2 h2.1 h2.2.1 Q (F0 m 766 ls [])) : W p l e room_1 s m #[Value.ref b] below meth c H locs h.1 h.2.1 Q (F0 m 195 ls []) := by
  obtain ⟨hz1, hz2, hwf, fs0, hob0⟩ := (hOK h hs).1
  obtain ⟨r, h1, h2, m1, ⟨fs1, hob1⟩, m2, hsim⟩ := (hOK h hs).2.2.1 (xs (nI i + 1).toNatClampNeg) (xs (nI i + 2).toNatClampNeg) (xs (nI i + 3).toNatClampNeg) (xs (nI i + 4).toNatClampNeg) (xs (nI i + 5).toNatClampNeg)
  obtain ⟨y1, y2, -, -⟩ := (hOK h2 hsim).1
  obtain ⟨hwf1, g1, g2⟩ := xM_go m1 hwf
  obtain ⟨hwf2, g3, g4⟩ := xM_go m2 hwf1
  obtain ⟨hx, hb, hr, hml, hown, hts0, hX, hbl, hlocks, hgv⟩ := id C0
  have hbA : ¬ (fun q : Nat => s.heap.size ≤ q) b := Nat.not_le.mpr hbl
  have hin : ∀ t : Nat, t < 6 → vp_in (nI i + nI t) L := fun t ht => by rw [nI_add]; exact vp_in_nI (by omega) (by omega)
  refine lv_aload_n hx hb dL_195 rfl (lv_at hl 1 rfl) ?_
  refine lv_aload_n hx hb dL_196 rfl (lv_at hl 0 rfl) ?_
  refine lv_iload_n hx hb dL_197 rfl (lv_at hl 3 rfl) ?_
  refine lv_iconst (v := 1) hx hb dL_198 (by decide) ?_
  refine lv_iadd hx hb dL_199 ?_
  refine va_sld hx hb hX hbl hbA hS (hin 1 (by decide)) dL_200 ?_
  refine lv_aload_n hx hb dL_201 rfl (lv_at hl 0 rfl) ?_
  refine lv_iload_n hx hb dL_202 rfl (lv_at hl 3 rfl) ?_
  refine lv_iconst (v := 2) hx hb dL_203 (by decide) ?_
  refine lv_iadd hx hb dL_204 ?_
  refine va_sld hx hb hX hbl hbA hS (hin 2 (by decide)) dL_205 ?_
  refine lv_aload_n hx hb dL_206 rfl (lv_at hl 0 rfl) ?_
  refine lv_iload_n hx hb dL_207 rfl (lv_at hl 3 rfl) ?_
  refine lv_iconst (v := 3) hx hb dL_208 (by decide) ?_
  refine lv_iadd hx hb dL_209 ?_
  refine va_sld hx hb hX hbl hbA hS (hin 3 (by decide)) dL_210 ?_
  refine lv_aload_n hx hb dL_211 rfl (lv_at hl 0 rfl) ?_
  refine lv_iload_n hx hb dL_212 rfl (lv_at hl 3 rfl) ?_
  refine lv_iconst (v := 4) hx hb dL_213 (by decide) ?_
  refine lv_iadd hx hb dL_214 ?_
  refine va_sld hx hb hX hbl hbA hS (hin 4 (by decide)) dL_215 ?_
  refine lv_aload_n hx hb dL_216 rfl (lv_at hl 0 rfl) ?_
  refine lv_iload_n hx hb dL_217 rfl (lv_at hl 3 rfl) ?_
  refine lv_iconst (v := 5) hx hb dL_218 (by decide) ?_
  refine lv_iadd hx hb dL_219 ?_
  refine va_sld hx hb hX hbl hbA hS (hin 5 (by decide)) dL_220 ?_
  refine lc_V (q1 := xmi_75) (as := [.int (xs (nI i + 1).toNatClampNeg), .int (xs (nI i + 2).toNatClampNeg), .int (xs (nI i + 3).toNatClampNeg), .int (xs (nI i + 4).toNatClampNeg), .int (xs (nI i + 5).toNatClampNeg)]) (rest := []) C0 hKv hNw rfl rfl lk_18 (by decide) (by decide) rfl m1 hwf hob0 rfl (by decide) (by omega) (by decide) rfl dL_221 hP hS hl.1 (fun H1 locs1 hP hS => ?_)
  show W p l e room_1 s m #[Value.ref b] below meth c H1 locs1 h1.1 h1.2.1 Q (F0 m 224 ls [.int r])
  refine lv_aload_n hx hb dL_224 rfl (lv_at hl 2 rfl) ?_
  refine lv_aload_n hx hb dL_225 rfl (lv_at hl 0 rfl) ?_
  refine lv_iload_n hx hb dL_226 rfl (lv_at hl 3 rfl) ?_
  refine lv_iconst (v := 1) hx hb dL_227 (by decide) ?_
  refine lv_iadd hx hb dL_228 ?_
  refine va_sld hx hb hX hbl hbA hS (hin 1 (by decide)) dL_229 ?_
  refine lv_aload_n hx hb dL_230 rfl (lv_at hl 0 rfl) ?_
  refine lv_iload_n hx hb dL_231 rfl (lv_at hl 3 rfl) ?_
  refine lv_iconst (v := 2) hx hb dL_232 (by decide) ?_
  refine lv_iadd hx hb dL_233 ?_
  refine va_sld hx hb hX hbl hbA hS (hin 2 (by decide)) dL_234 ?_
  refine lv_aload_n hx hb dL_235 rfl (lv_at hl 0 rfl) ?_
  refine lv_iload_n hx hb dL_236 rfl (lv_at hl 3 rfl) ?_
  refine lv_iconst (v := 3) hx hb dL_237 (by decide) ?_
  refine lv_iadd hx hb dL_238 ?_
  refine va_sld hx hb hX hbl hbA hS (hin 3 (by decide)) dL_239 ?_
  refine lv_aload_n hx hb dL_240 rfl (lv_at hl 0 rfl) ?_
  refine lv_iload_n hx hb dL_241 rfl (lv_at hl 3 rfl) ?_
  refine lv_iconst (v := 4) hx hb dL_242 (by decide) ?_
  refine lv_iadd hx hb dL_243 ?_
  refine va_sld hx hb hX hbl hbA hS (hin 4 (by decide)) dL_244 ?_
  refine lv_aload_n hx hb dL_245 rfl (lv_at hl 0 rfl) ?_
  refine lv_iload_n hx hb dL_246 rfl (lv_at hl 3 rfl) ?_
  refine lv_iconst (v := 5) hx hb dL_247 (by decide) ?_
  refine lv_iadd hx hb dL_248 ?_
  refine va_sld hx hb hX hbl hbA hS (hin 5 (by decide)) dL_249 ?_
  refine lc_V (q1 := xmi_160) (as := [.int (xs (nI i + 1).toNatClampNeg), .int (xs (nI i + 2).toNatClampNeg), .int (xs (nI i + 3).toNatClampNeg), .int (xs (nI i + 4).toNatClampNeg), .int (xs (nI i + 5).toNatClampNeg)]) (rest := [.int r]) C0 hKv hNw rfl rfl lk_21 (by decide) (by decide) rfl m2 hwf1 hob1 rfl (by decide) (by omega) (by show 1 ≤ 8; decide) rfl dL_250 hP hS hl.1 (fun H2 locs2 hP hS => ?_)
  show W p l e room_1 s m #[Value.ref b] below meth c H2 locs2 h2.1 h2.2.1 Q (F0 m 253 ls [.int r, .int r])
  refine lv_icmp_eq (tgt := 766) hx hb dL_253 (by decide) (fun _ => ?_) (fun hc => absurd rfl hc)
  exact kk h2 H2 locs2 hsim hP hS
set_option maxRecDepth 100000 in
theorem lk_22 : Cond.methodLink R_law 22 xmi_76.2.1 ∈ xtb := xtb_in (List.mem_of_getElem? (i := 431) rfl) rfl
set_option maxRecDepth 100000 in
theorem lk_26 : Cond.methodLink R_law 26 xmi_161.2.1 ∈ xtb := xtb_in (List.mem_of_getElem? (i := 918) rfl) rfl
set_option maxHeartbeats 4000000 in
set_option maxRecDepth 100000 in
theorem lw_c2 {Sim : xH → Prop} (hOK : lwOK Sim) (C0 : lw_At p s m meth c b L xs) (hKv : va_K D vwCl (xtys G) s) (hNw : xNw s) {i : Nat} (hi : i + 6 ≤ L) (hL : L ≤ 3072) {h : xH} (hs : Sim h) {H : Heap} {locs : List Loc} {ls : Array Slot} (hP : va_P D vwCl (xws G s.heap.size h) H) (hS : va_S (fun a => s.heap.size ≤ a) s.heap H locs) (hl : lv_has ls 4 [(0, .ref b), (1, .ref (s.heap.size + 0)), (2, .ref (s.heap.size + 104)), (3, .int (nI i))])
    (kk : ∀ (h2 : xH) (H2 : Heap) (locs2 : List Loc), Sim h2 → va_P D vwCl (xws G s.heap.size h2) H2 → va_S (fun a => s.heap.size ≤ a) s.heap H2 locs2 → W p l e room_1 s m #[Value.ref b] below meth c H2 locs2 h2.1 h2.2.1 Q (F0 m 766 ls [])) : W p l e room_1 s m #[Value.ref b] below meth c H locs h.1 h.2.1 Q (F0 m 258 ls []) := by
  obtain ⟨hz1, hz2, hwf, fs0, hob0⟩ := (hOK h hs).1
  obtain ⟨r, h1, h2, m1, ⟨fs1, hob1⟩, m2, hsim⟩ := (hOK h hs).2.2.2.1 (xs (nI i + 1).toNatClampNeg) (xs (nI i + 2).toNatClampNeg)
  obtain ⟨y1, y2, -, -⟩ := (hOK h2 hsim).1
  obtain ⟨hwf1, g1, g2⟩ := xM_go m1 hwf
  obtain ⟨hwf2, g3, g4⟩ := xM_go m2 hwf1
  obtain ⟨hx, hb, hr, hml, hown, hts0, hX, hbl, hlocks, hgv⟩ := id C0
  have hbA : ¬ (fun q : Nat => s.heap.size ≤ q) b := Nat.not_le.mpr hbl
  have hin : ∀ t : Nat, t < 6 → vp_in (nI i + nI t) L := fun t ht => by rw [nI_add]; exact vp_in_nI (by omega) (by omega)
  refine lv_aload_n hx hb dL_258 rfl (lv_at hl 1 rfl) ?_
  refine lv_aload_n hx hb dL_259 rfl (lv_at hl 0 rfl) ?_
  refine lv_iload_n hx hb dL_260 rfl (lv_at hl 3 rfl) ?_
  refine lv_iconst (v := 1) hx hb dL_261 (by decide) ?_
  refine lv_iadd hx hb dL_262 ?_
  refine va_sld hx hb hX hbl hbA hS (hin 1 (by decide)) dL_263 ?_
  refine lv_aload_n hx hb dL_264 rfl (lv_at hl 0 rfl) ?_
  refine lv_iload_n hx hb dL_265 rfl (lv_at hl 3 rfl) ?_
  refine lv_iconst (v := 2) hx hb dL_266 (by decide) ?_
  refine lv_iadd hx hb dL_267 ?_
  refine va_sld hx hb hX hbl hbA hS (hin 2 (by decide)) dL_268 ?_
  refine lc_V (q1 := xmi_76) (as := [.int (xs (nI i + 1).toNatClampNeg), .int (xs (nI i + 2).toNatClampNeg)]) (rest := []) C0 hKv hNw rfl rfl lk_22 (by decide) (by decide) rfl m1 hwf hob0 rfl (by decide) (by omega) (by decide) rfl dL_269 hP hS hl.1 (fun H1 locs1 hP hS => ?_)
  show W p l e room_1 s m #[Value.ref b] below meth c H1 locs1 h1.1 h1.2.1 Q (F0 m 272 ls [.int r])
  refine lv_aload_n hx hb dL_272 rfl (lv_at hl 2 rfl) ?_
  refine lv_aload_n hx hb dL_273 rfl (lv_at hl 0 rfl) ?_
  refine lv_iload_n hx hb dL_274 rfl (lv_at hl 3 rfl) ?_
  refine lv_iconst (v := 1) hx hb dL_275 (by decide) ?_
  refine lv_iadd hx hb dL_276 ?_
  refine va_sld hx hb hX hbl hbA hS (hin 1 (by decide)) dL_277 ?_
  refine lv_aload_n hx hb dL_278 rfl (lv_at hl 0 rfl) ?_
  refine lv_iload_n hx hb dL_279 rfl (lv_at hl 3 rfl) ?_
  refine lv_iconst (v := 2) hx hb dL_280 (by decide) ?_
  refine lv_iadd hx hb dL_281 ?_
  refine va_sld hx hb hX hbl hbA hS (hin 2 (by decide)) dL_282 ?_
  refine lc_V (q1 := xmi_161) (as := [.int (xs (nI i + 1).toNatClampNeg), .int (xs (nI i + 2).toNatClampNeg)]) (rest := [.int r]) C0 hKv hNw rfl rfl lk_26 (by decide) (by decide) rfl m2 hwf1 hob1 rfl (by decide) (by omega) (by show 1 ≤ 8; decide) rfl dL_283 hP hS hl.1 (fun H2 locs2 hP hS => ?_)
  show W p l e room_1 s m #[Value.ref b] below meth c H2 locs2 h2.1 h2.2.1 Q (F0 m 286 ls [.int r, .int r])
  refine lv_icmp_eq (tgt := 766) hx hb dL_286 (by decide) (fun _ => ?_) (fun hc => absurd rfl hc)
  exact kk h2 H2 locs2 hsim hP hS
set_option maxRecDepth 100000 in
theorem lk_27 : Cond.methodLink R_law 27 xmi_77.2.1 ∈ xtb := xtb_in (List.mem_of_getElem? (i := 439) rfl) rfl
set_option maxRecDepth 100000 in
theorem lk_30 : Cond.methodLink R_law 30 xmi_162.2.1 ∈ xtb := xtb_in (List.mem_of_getElem? (i := 926) rfl) rfl
set_option maxHeartbeats 4000000 in
set_option maxRecDepth 100000 in
theorem lw_c3 {Sim : xH → Prop} (hOK : lwOK Sim) (C0 : lw_At p s m meth c b L xs) (hKv : va_K D vwCl (xtys G) s) (hNw : xNw s) {i : Nat} (hi : i + 6 ≤ L) (hL : L ≤ 3072) {h : xH} (hs : Sim h) {H : Heap} {locs : List Loc} {ls : Array Slot} (hP : va_P D vwCl (xws G s.heap.size h) H) (hS : va_S (fun a => s.heap.size ≤ a) s.heap H locs) (hl : lv_has ls 4 [(0, .ref b), (1, .ref (s.heap.size + 0)), (2, .ref (s.heap.size + 104)), (3, .int (nI i))])
    (kk : ∀ (h2 : xH) (H2 : Heap) (locs2 : List Loc), Sim h2 → va_P D vwCl (xws G s.heap.size h2) H2 → va_S (fun a => s.heap.size ≤ a) s.heap H2 locs2 → W p l e room_1 s m #[Value.ref b] below meth c H2 locs2 h2.1 h2.2.1 Q (F0 m 766 ls [])) : W p l e room_1 s m #[Value.ref b] below meth c H locs h.1 h.2.1 Q (F0 m 291 ls []) := by
  obtain ⟨hz1, hz2, hwf, fs0, hob0⟩ := (hOK h hs).1
  obtain ⟨r, h1, h2, m1, ⟨fs1, hob1⟩, m2, hsim⟩ := (hOK h hs).2.2.2.2.1 (xs (nI i + 1).toNatClampNeg) (xs (nI i + 2).toNatClampNeg)
  obtain ⟨y1, y2, -, -⟩ := (hOK h2 hsim).1
  obtain ⟨hwf1, g1, g2⟩ := xM_go m1 hwf
  obtain ⟨hwf2, g3, g4⟩ := xM_go m2 hwf1
  obtain ⟨hx, hb, hr, hml, hown, hts0, hX, hbl, hlocks, hgv⟩ := id C0
  have hbA : ¬ (fun q : Nat => s.heap.size ≤ q) b := Nat.not_le.mpr hbl
  have hin : ∀ t : Nat, t < 6 → vp_in (nI i + nI t) L := fun t ht => by rw [nI_add]; exact vp_in_nI (by omega) (by omega)
  refine lv_aload_n hx hb dL_291 rfl (lv_at hl 1 rfl) ?_
  refine lv_aload_n hx hb dL_292 rfl (lv_at hl 0 rfl) ?_
  refine lv_iload_n hx hb dL_293 rfl (lv_at hl 3 rfl) ?_
  refine lv_iconst (v := 1) hx hb dL_294 (by decide) ?_
  refine lv_iadd hx hb dL_295 ?_
  refine va_sld hx hb hX hbl hbA hS (hin 1 (by decide)) dL_296 ?_
  refine lv_aload_n hx hb dL_297 rfl (lv_at hl 0 rfl) ?_
  refine lv_iload_n hx hb dL_298 rfl (lv_at hl 3 rfl) ?_
  refine lv_iconst (v := 2) hx hb dL_299 (by decide) ?_
  refine lv_iadd hx hb dL_300 ?_
  refine va_sld hx hb hX hbl hbA hS (hin 2 (by decide)) dL_301 ?_
  refine lc_V (q1 := xmi_77) (as := [.int (xs (nI i + 1).toNatClampNeg), .int (xs (nI i + 2).toNatClampNeg)]) (rest := []) C0 hKv hNw rfl rfl lk_27 (by decide) (by decide) rfl m1 hwf hob0 rfl (by decide) (by omega) (by decide) rfl dL_302 hP hS hl.1 (fun H1 locs1 hP hS => ?_)
  show W p l e room_1 s m #[Value.ref b] below meth c H1 locs1 h1.1 h1.2.1 Q (F0 m 305 ls [.int r])
  refine lv_aload_n hx hb dL_305 rfl (lv_at hl 2 rfl) ?_
  refine lv_aload_n hx hb dL_306 rfl (lv_at hl 0 rfl) ?_
  refine lv_iload_n hx hb dL_307 rfl (lv_at hl 3 rfl) ?_
  refine lv_iconst (v := 1) hx hb dL_308 (by decide) ?_
  refine lv_iadd hx hb dL_309 ?_
  refine va_sld hx hb hX hbl hbA hS (hin 1 (by decide)) dL_310 ?_
  refine lv_aload_n hx hb dL_311 rfl (lv_at hl 0 rfl) ?_
  refine lv_iload_n hx hb dL_312 rfl (lv_at hl 3 rfl) ?_
  refine lv_iconst (v := 2) hx hb dL_313 (by decide) ?_
  refine lv_iadd hx hb dL_314 ?_
  refine va_sld hx hb hX hbl hbA hS (hin 2 (by decide)) dL_315 ?_
  refine lc_V (q1 := xmi_162) (as := [.int (xs (nI i + 1).toNatClampNeg), .int (xs (nI i + 2).toNatClampNeg)]) (rest := [.int r]) C0 hKv hNw rfl rfl lk_30 (by decide) (by decide) rfl m2 hwf1 hob1 rfl (by decide) (by omega) (by show 1 ≤ 8; decide) rfl dL_316 hP hS hl.1 (fun H2 locs2 hP hS => ?_)
  show W p l e room_1 s m #[Value.ref b] below meth c H2 locs2 h2.1 h2.2.1 Q (F0 m 319 ls [.int r, .int r])
  refine lv_icmp_eq (tgt := 766) hx hb dL_319 (by decide) (fun _ => ?_) (fun hc => absurd rfl hc)
  exact kk h2 H2 locs2 hsim hP hS
set_option maxRecDepth 100000 in
theorem lk_31 : Cond.methodLink R_law 31 xmi_78.2.1 ∈ xtb := xtb_in (List.mem_of_getElem? (i := 447) rfl) rfl
set_option maxRecDepth 100000 in
theorem lk_35 : Cond.methodLink R_law 35 xmi_163.2.1 ∈ xtb := xtb_in (List.mem_of_getElem? (i := 934) rfl) rfl
set_option maxHeartbeats 4000000 in
set_option maxRecDepth 100000 in
theorem lw_c4 {Sim : xH → Prop} (hOK : lwOK Sim) (C0 : lw_At p s m meth c b L xs) (hKv : va_K D vwCl (xtys G) s) (hNw : xNw s) {i : Nat} (hi : i + 6 ≤ L) (hL : L ≤ 3072) {h : xH} (hs : Sim h) {H : Heap} {locs : List Loc} {ls : Array Slot} (hP : va_P D vwCl (xws G s.heap.size h) H) (hS : va_S (fun a => s.heap.size ≤ a) s.heap H locs) (hl : lv_has ls 4 [(0, .ref b), (1, .ref (s.heap.size + 0)), (2, .ref (s.heap.size + 104)), (3, .int (nI i))])
    (kk : ∀ (h2 : xH) (H2 : Heap) (locs2 : List Loc), Sim h2 → va_P D vwCl (xws G s.heap.size h2) H2 → va_S (fun a => s.heap.size ≤ a) s.heap H2 locs2 → W p l e room_1 s m #[Value.ref b] below meth c H2 locs2 h2.1 h2.2.1 Q (F0 m 766 ls [])) : W p l e room_1 s m #[Value.ref b] below meth c H locs h.1 h.2.1 Q (F0 m 324 ls []) := by
  obtain ⟨hz1, hz2, hwf, fs0, hob0⟩ := (hOK h hs).1
  obtain ⟨r, h1, h2, m1, ⟨fs1, hob1⟩, m2, hsim⟩ := (hOK h hs).2.2.2.2.2.1 (xs (nI i + 1).toNatClampNeg)
  obtain ⟨y1, y2, -, -⟩ := (hOK h2 hsim).1
  obtain ⟨hwf1, g1, g2⟩ := xM_go m1 hwf
  obtain ⟨hwf2, g3, g4⟩ := xM_go m2 hwf1
  obtain ⟨hx, hb, hr, hml, hown, hts0, hX, hbl, hlocks, hgv⟩ := id C0
  have hbA : ¬ (fun q : Nat => s.heap.size ≤ q) b := Nat.not_le.mpr hbl
  have hin : ∀ t : Nat, t < 6 → vp_in (nI i + nI t) L := fun t ht => by rw [nI_add]; exact vp_in_nI (by omega) (by omega)
  refine lv_aload_n hx hb dL_324 rfl (lv_at hl 1 rfl) ?_
  refine lv_aload_n hx hb dL_325 rfl (lv_at hl 0 rfl) ?_
  refine lv_iload_n hx hb dL_326 rfl (lv_at hl 3 rfl) ?_
  refine lv_iconst (v := 1) hx hb dL_327 (by decide) ?_
  refine lv_iadd hx hb dL_328 ?_
  refine va_sld hx hb hX hbl hbA hS (hin 1 (by decide)) dL_329 ?_
  refine lc_V (q1 := xmi_78) (as := [.int (xs (nI i + 1).toNatClampNeg)]) (rest := []) C0 hKv hNw rfl rfl lk_31 (by decide) (by decide) rfl m1 hwf hob0 rfl (by decide) (by omega) (by decide) rfl dL_330 hP hS hl.1 (fun H1 locs1 hP hS => ?_)
  show W p l e room_1 s m #[Value.ref b] below meth c H1 locs1 h1.1 h1.2.1 Q (F0 m 333 ls [.int r])
  refine lv_aload_n hx hb dL_333 rfl (lv_at hl 2 rfl) ?_
  refine lv_aload_n hx hb dL_334 rfl (lv_at hl 0 rfl) ?_
  refine lv_iload_n hx hb dL_335 rfl (lv_at hl 3 rfl) ?_
  refine lv_iconst (v := 1) hx hb dL_336 (by decide) ?_
  refine lv_iadd hx hb dL_337 ?_
  refine va_sld hx hb hX hbl hbA hS (hin 1 (by decide)) dL_338 ?_
  refine lc_V (q1 := xmi_163) (as := [.int (xs (nI i + 1).toNatClampNeg)]) (rest := [.int r]) C0 hKv hNw rfl rfl lk_35 (by decide) (by decide) rfl m2 hwf1 hob1 rfl (by decide) (by omega) (by show 1 ≤ 8; decide) rfl dL_339 hP hS hl.1 (fun H2 locs2 hP hS => ?_)
  show W p l e room_1 s m #[Value.ref b] below meth c H2 locs2 h2.1 h2.2.1 Q (F0 m 342 ls [.int r, .int r])
  refine lv_icmp_eq (tgt := 766) hx hb dL_342 (by decide) (fun _ => ?_) (fun hc => absurd rfl hc)
  exact kk h2 H2 locs2 hsim hP hS
set_option maxRecDepth 100000 in
theorem lk_36 : Cond.methodLink R_law 36 xmi_79.2.1 ∈ xtb := xtb_in (List.mem_of_getElem? (i := 463) rfl) rfl
set_option maxRecDepth 100000 in
theorem lk_40 : Cond.methodLink R_law 40 xmi_164.2.1 ∈ xtb := xtb_in (List.mem_of_getElem? (i := 950) rfl) rfl
set_option maxHeartbeats 4000000 in
set_option maxRecDepth 100000 in
theorem lw_c5 {Sim : xH → Prop} (hOK : lwOK Sim) (C0 : lw_At p s m meth c b L xs) (hKv : va_K D vwCl (xtys G) s) (hNw : xNw s) {i : Nat} (hi : i + 6 ≤ L) (hL : L ≤ 3072) {h : xH} (hs : Sim h) {H : Heap} {locs : List Loc} {ls : Array Slot} (hP : va_P D vwCl (xws G s.heap.size h) H) (hS : va_S (fun a => s.heap.size ≤ a) s.heap H locs) (hl : lv_has ls 4 [(0, .ref b), (1, .ref (s.heap.size + 0)), (2, .ref (s.heap.size + 104)), (3, .int (nI i))])
    (kk : ∀ (h2 : xH) (H2 : Heap) (locs2 : List Loc), Sim h2 → va_P D vwCl (xws G s.heap.size h2) H2 → va_S (fun a => s.heap.size ≤ a) s.heap H2 locs2 → W p l e room_1 s m #[Value.ref b] below meth c H2 locs2 h2.1 h2.2.1 Q (F0 m 766 ls [])) : W p l e room_1 s m #[Value.ref b] below meth c H locs h.1 h.2.1 Q (F0 m 347 ls []) := by
  obtain ⟨hz1, hz2, hwf, fs0, hob0⟩ := (hOK h hs).1
  obtain ⟨r, h1, h2, m1, ⟨fs1, hob1⟩, m2, hsim⟩ := (hOK h hs).2.2.2.2.2.2.1
  obtain ⟨y1, y2, -, -⟩ := (hOK h2 hsim).1
  obtain ⟨hwf1, g1, g2⟩ := xM_go m1 hwf
  obtain ⟨hwf2, g3, g4⟩ := xM_go m2 hwf1
  obtain ⟨hx, hb, hr, hml, hown, hts0, hX, hbl, hlocks, hgv⟩ := id C0
  have hbA : ¬ (fun q : Nat => s.heap.size ≤ q) b := Nat.not_le.mpr hbl
  refine lv_aload_n hx hb dL_347 rfl (lv_at hl 1 rfl) ?_
  refine lc_V (q1 := xmi_79) (as := []) (rest := []) C0 hKv hNw rfl rfl lk_36 (by decide) (by decide) rfl m1 hwf hob0 rfl (by decide) (by omega) (by decide) rfl dL_348 hP hS hl.1 (fun H1 locs1 hP hS => ?_)
  show W p l e room_1 s m #[Value.ref b] below meth c H1 locs1 h1.1 h1.2.1 Q (F0 m 351 ls [.int r])
  refine lv_aload_n hx hb dL_351 rfl (lv_at hl 2 rfl) ?_
  refine lc_V (q1 := xmi_164) (as := []) (rest := [.int r]) C0 hKv hNw rfl rfl lk_40 (by decide) (by decide) rfl m2 hwf1 hob1 rfl (by decide) (by omega) (by show 1 ≤ 8; decide) rfl dL_352 hP hS hl.1 (fun H2 locs2 hP hS => ?_)
  show W p l e room_1 s m #[Value.ref b] below meth c H2 locs2 h2.1 h2.2.1 Q (F0 m 355 ls [.int r, .int r])
  refine lv_icmp_eq (tgt := 766) hx hb dL_355 (by decide) (fun _ => ?_) (fun hc => absurd rfl hc)
  exact kk h2 H2 locs2 hsim hP hS
set_option maxRecDepth 100000 in
theorem lk_41 : Cond.methodLink R_law 41 xmi_80.2.1 ∈ xtb := xtb_in (List.mem_of_getElem? (i := 471) rfl) rfl
set_option maxRecDepth 100000 in
theorem lk_44 : Cond.methodLink R_law 44 xmi_166.2.1 ∈ xtb := xtb_in (List.mem_of_getElem? (i := 958) rfl) rfl
set_option maxHeartbeats 4000000 in
set_option maxRecDepth 100000 in
theorem lw_c6 {Sim : xH → Prop} (hOK : lwOK Sim) (C0 : lw_At p s m meth c b L xs) (hKv : va_K D vwCl (xtys G) s) (hNw : xNw s) {i : Nat} (hi : i + 6 ≤ L) (hL : L ≤ 3072) {h : xH} (hs : Sim h) {H : Heap} {locs : List Loc} {ls : Array Slot} (hP : va_P D vwCl (xws G s.heap.size h) H) (hS : va_S (fun a => s.heap.size ≤ a) s.heap H locs) (hl : lv_has ls 4 [(0, .ref b), (1, .ref (s.heap.size + 0)), (2, .ref (s.heap.size + 104)), (3, .int (nI i))])
    (kk : ∀ (h2 : xH) (H2 : Heap) (locs2 : List Loc), Sim h2 → va_P D vwCl (xws G s.heap.size h2) H2 → va_S (fun a => s.heap.size ≤ a) s.heap H2 locs2 → W p l e room_1 s m #[Value.ref b] below meth c H2 locs2 h2.1 h2.2.1 Q (F0 m 766 ls [])) : W p l e room_1 s m #[Value.ref b] below meth c H locs h.1 h.2.1 Q (F0 m 360 ls []) := by
  obtain ⟨hz1, hz2, hwf, fs0, hob0⟩ := (hOK h hs).1
  obtain ⟨r, h1, h2, m1, ⟨fs1, hob1⟩, m2, hsim⟩ := (hOK h hs).2.2.2.2.2.2.2.1 (xs (nI i + 1).toNatClampNeg) (xs (nI i + 2).toNatClampNeg)
  obtain ⟨y1, y2, -, -⟩ := (hOK h2 hsim).1
  obtain ⟨hwf1, g1, g2⟩ := xM_go m1 hwf
  obtain ⟨hwf2, g3, g4⟩ := xM_go m2 hwf1
  obtain ⟨hx, hb, hr, hml, hown, hts0, hX, hbl, hlocks, hgv⟩ := id C0
  have hbA : ¬ (fun q : Nat => s.heap.size ≤ q) b := Nat.not_le.mpr hbl
  have hin : ∀ t : Nat, t < 6 → vp_in (nI i + nI t) L := fun t ht => by rw [nI_add]; exact vp_in_nI (by omega) (by omega)
  refine lv_aload_n hx hb dL_360 rfl (lv_at hl 1 rfl) ?_
  refine lv_aload_n hx hb dL_361 rfl (lv_at hl 0 rfl) ?_
  refine lv_iload_n hx hb dL_362 rfl (lv_at hl 3 rfl) ?_
  refine lv_iconst (v := 1) hx hb dL_363 (by decide) ?_
  refine lv_iadd hx hb dL_364 ?_
  refine va_sld hx hb hX hbl hbA hS (hin 1 (by decide)) dL_365 ?_
  refine lv_aload_n hx hb dL_366 rfl (lv_at hl 0 rfl) ?_
  refine lv_iload_n hx hb dL_367 rfl (lv_at hl 3 rfl) ?_
  refine lv_iconst (v := 2) hx hb dL_368 (by decide) ?_
  refine lv_iadd hx hb dL_369 ?_
  refine va_sld hx hb hX hbl hbA hS (hin 2 (by decide)) dL_370 ?_
  refine lc_V (q1 := xmi_80) (as := [.int (xs (nI i + 1).toNatClampNeg), .int (xs (nI i + 2).toNatClampNeg)]) (rest := []) C0 hKv hNw rfl rfl lk_41 (by decide) (by decide) rfl m1 hwf hob0 rfl (by decide) (by omega) (by decide) rfl dL_371 hP hS hl.1 (fun H1 locs1 hP hS => ?_)
  show W p l e room_1 s m #[Value.ref b] below meth c H1 locs1 h1.1 h1.2.1 Q (F0 m 374 ls [.int r])
  refine lv_aload_n hx hb dL_374 rfl (lv_at hl 2 rfl) ?_
  refine lv_aload_n hx hb dL_375 rfl (lv_at hl 0 rfl) ?_
  refine lv_iload_n hx hb dL_376 rfl (lv_at hl 3 rfl) ?_
  refine lv_iconst (v := 1) hx hb dL_377 (by decide) ?_
  refine lv_iadd hx hb dL_378 ?_
  refine va_sld hx hb hX hbl hbA hS (hin 1 (by decide)) dL_379 ?_
  refine lv_aload_n hx hb dL_380 rfl (lv_at hl 0 rfl) ?_
  refine lv_iload_n hx hb dL_381 rfl (lv_at hl 3 rfl) ?_
  refine lv_iconst (v := 2) hx hb dL_382 (by decide) ?_
  refine lv_iadd hx hb dL_383 ?_
  refine va_sld hx hb hX hbl hbA hS (hin 2 (by decide)) dL_384 ?_
  refine lc_V (q1 := xmi_166) (as := [.int (xs (nI i + 1).toNatClampNeg), .int (xs (nI i + 2).toNatClampNeg)]) (rest := [.int r]) C0 hKv hNw rfl rfl lk_44 (by decide) (by decide) rfl m2 hwf1 hob1 rfl (by decide) (by omega) (by show 1 ≤ 8; decide) rfl dL_385 hP hS hl.1 (fun H2 locs2 hP hS => ?_)
  show W p l e room_1 s m #[Value.ref b] below meth c H2 locs2 h2.1 h2.2.1 Q (F0 m 388 ls [.int r, .int r])
  refine lv_icmp_eq (tgt := 766) hx hb dL_388 (by decide) (fun _ => ?_) (fun hc => absurd rfl hc)
  exact kk h2 H2 locs2 hsim hP hS
set_option maxRecDepth 100000 in
theorem lk_45 : Cond.methodLink R_law 45 xmi_81.2.1 ∈ xtb := xtb_in (List.mem_of_getElem? (i := 486) rfl) rfl
set_option maxRecDepth 100000 in
theorem lk_48 : Cond.methodLink R_law 48 xmi_167.2.1 ∈ xtb := xtb_in (List.mem_of_getElem? (i := 969) rfl) rfl
set_option maxHeartbeats 4000000 in
set_option maxRecDepth 100000 in
theorem lw_c7 {Sim : xH → Prop} (hOK : lwOK Sim) (C0 : lw_At p s m meth c b L xs) (hKv : va_K D vwCl (xtys G) s) (hNw : xNw s) {i : Nat} (hi : i + 6 ≤ L) (hL : L ≤ 3072) {h : xH} (hs : Sim h) {H : Heap} {locs : List Loc} {ls : Array Slot} (hP : va_P D vwCl (xws G s.heap.size h) H) (hS : va_S (fun a => s.heap.size ≤ a) s.heap H locs) (hl : lv_has ls 4 [(0, .ref b), (1, .ref (s.heap.size + 0)), (2, .ref (s.heap.size + 104)), (3, .int (nI i))])
    (kk : ∀ (h2 : xH) (H2 : Heap) (locs2 : List Loc), Sim h2 → va_P D vwCl (xws G s.heap.size h2) H2 → va_S (fun a => s.heap.size ≤ a) s.heap H2 locs2 → W p l e room_1 s m #[Value.ref b] below meth c H2 locs2 h2.1 h2.2.1 Q (F0 m 766 ls [])) : W p l e room_1 s m #[Value.ref b] below meth c H locs h.1 h.2.1 Q (F0 m 393 ls []) := by
  obtain ⟨hz1, hz2, hwf, fs0, hob0⟩ := (hOK h hs).1
  obtain ⟨r, h1, h2, m1, ⟨fs1, hob1⟩, m2, hsim⟩ := (hOK h hs).2.2.2.2.2.2.2.2.1 (xs (nI i + 1).toNatClampNeg) (xs (nI i + 2).toNatClampNeg)
  obtain ⟨y1, y2, -, -⟩ := (hOK h2 hsim).1
  obtain ⟨hwf1, g1, g2⟩ := xM_go m1 hwf
  obtain ⟨hwf2, g3, g4⟩ := xM_go m2 hwf1
  obtain ⟨hx, hb, hr, hml, hown, hts0, hX, hbl, hlocks, hgv⟩ := id C0
  have hbA : ¬ (fun q : Nat => s.heap.size ≤ q) b := Nat.not_le.mpr hbl
  have hin : ∀ t : Nat, t < 6 → vp_in (nI i + nI t) L := fun t ht => by rw [nI_add]; exact vp_in_nI (by omega) (by omega)
  refine lv_aload_n hx hb dL_393 rfl (lv_at hl 1 rfl) ?_
  refine lv_aload_n hx hb dL_394 rfl (lv_at hl 0 rfl) ?_
  refine lv_iload_n hx hb dL_395 rfl (lv_at hl 3 rfl) ?_
  refine lv_iconst (v := 1) hx hb dL_396 (by decide) ?_
  refine lv_iadd hx hb dL_397 ?_
  refine va_sld hx hb hX hbl hbA hS (hin 1 (by decide)) dL_398 ?_
  refine lv_aload_n hx hb dL_399 rfl (lv_at hl 0 rfl) ?_
  refine lv_iload_n hx hb dL_400 rfl (lv_at hl 3 rfl) ?_
  refine lv_iconst (v := 2) hx hb dL_401 (by decide) ?_
  refine lv_iadd hx hb dL_402 ?_
  refine va_sld hx hb hX hbl hbA hS (hin 2 (by decide)) dL_403 ?_
  refine lc_V (q1 := xmi_81) (as := [.int (xs (nI i + 1).toNatClampNeg), .int (xs (nI i + 2).toNatClampNeg)]) (rest := []) C0 hKv hNw rfl rfl lk_45 (by decide) (by decide) rfl m1 hwf hob0 rfl (by decide) (by omega) (by decide) rfl dL_404 hP hS hl.1 (fun H1 locs1 hP hS => ?_)
  show W p l e room_1 s m #[Value.ref b] below meth c H1 locs1 h1.1 h1.2.1 Q (F0 m 407 ls [.int r])
  refine lv_aload_n hx hb dL_407 rfl (lv_at hl 2 rfl) ?_
  refine lv_aload_n hx hb dL_408 rfl (lv_at hl 0 rfl) ?_
  refine lv_iload_n hx hb dL_409 rfl (lv_at hl 3 rfl) ?_
  refine lv_iconst (v := 1) hx hb dL_410 (by decide) ?_
  refine lv_iadd hx hb dL_411 ?_
  refine va_sld hx hb hX hbl hbA hS (hin 1 (by decide)) dL_412 ?_
  refine lv_aload_n hx hb dL_413 rfl (lv_at hl 0 rfl) ?_
  refine lv_iload_n hx hb dL_414 rfl (lv_at hl 3 rfl) ?_
  refine lv_iconst (v := 2) hx hb dL_415 (by decide) ?_
  refine lv_iadd hx hb dL_416 ?_
  refine va_sld hx hb hX hbl hbA hS (hin 2 (by decide)) dL_417 ?_
  refine lc_V (q1 := xmi_167) (as := [.int (xs (nI i + 1).toNatClampNeg), .int (xs (nI i + 2).toNatClampNeg)]) (rest := [.int r]) C0 hKv hNw rfl rfl lk_48 (by decide) (by decide) rfl m2 hwf1 hob1 rfl (by decide) (by omega) (by show 1 ≤ 8; decide) rfl dL_418 hP hS hl.1 (fun H2 locs2 hP hS => ?_)
  show W p l e room_1 s m #[Value.ref b] below meth c H2 locs2 h2.1 h2.2.1 Q (F0 m 421 ls [.int r, .int r])
  refine lv_icmp_eq (tgt := 766) hx hb dL_421 (by decide) (fun _ => ?_) (fun hc => absurd rfl hc)
  exact kk h2 H2 locs2 hsim hP hS
set_option maxRecDepth 100000 in
theorem lk_49 : Cond.methodLink R_law 49 xmi_82.2.1 ∈ xtb := xtb_in (List.mem_of_getElem? (i := 494) rfl) rfl
set_option maxRecDepth 100000 in
theorem lk_53 : Cond.methodLink R_law 53 xmi_171.2.1 ∈ xtb := xtb_in (List.mem_of_getElem? (i := 973) rfl) rfl
set_option maxHeartbeats 4000000 in
set_option maxRecDepth 100000 in
theorem lw_c8 {Sim : xH → Prop} (hOK : lwOK Sim) (C0 : lw_At p s m meth c b L xs) (hKv : va_K D vwCl (xtys G) s) (hNw : xNw s) {i : Nat} (hi : i + 6 ≤ L) (hL : L ≤ 3072) {h : xH} (hs : Sim h) {H : Heap} {locs : List Loc} {ls : Array Slot} (hP : va_P D vwCl (xws G s.heap.size h) H) (hS : va_S (fun a => s.heap.size ≤ a) s.heap H locs) (hl : lv_has ls 4 [(0, .ref b), (1, .ref (s.heap.size + 0)), (2, .ref (s.heap.size + 104)), (3, .int (nI i))])
    (kk : ∀ (h2 : xH) (H2 : Heap) (locs2 : List Loc), Sim h2 → va_P D vwCl (xws G s.heap.size h2) H2 → va_S (fun a => s.heap.size ≤ a) s.heap H2 locs2 → W p l e room_1 s m #[Value.ref b] below meth c H2 locs2 h2.1 h2.2.1 Q (F0 m 766 ls [])) : W p l e room_1 s m #[Value.ref b] below meth c H locs h.1 h.2.1 Q (F0 m 426 ls []) := by
  obtain ⟨hz1, hz2, hwf, fs0, hob0⟩ := (hOK h hs).1
  obtain ⟨r, h1, h2, m1, ⟨fs1, hob1⟩, m2, hsim⟩ := (hOK h hs).2.2.2.2.2.2.2.2.2.1 (xs (nI i + 1).toNatClampNeg) (xs (nI i + 2).toNatClampNeg) (xs (nI i + 3).toNatClampNeg)
  obtain ⟨y1, y2, -, -⟩ := (hOK h2 hsim).1
  obtain ⟨hwf1, g1, g2⟩ := xM_go m1 hwf
  obtain ⟨hwf2, g3, g4⟩ := xM_go m2 hwf1
  obtain ⟨hx, hb, hr, hml, hown, hts0, hX, hbl, hlocks, hgv⟩ := id C0
  have hbA : ¬ (fun q : Nat => s.heap.size ≤ q) b := Nat.not_le.mpr hbl
  have hin : ∀ t : Nat, t < 6 → vp_in (nI i + nI t) L := fun t ht => by rw [nI_add]; exact vp_in_nI (by omega) (by omega)
  refine lv_aload_n hx hb dL_426 rfl (lv_at hl 1 rfl) ?_
  refine lv_aload_n hx hb dL_427 rfl (lv_at hl 0 rfl) ?_
  refine lv_iload_n hx hb dL_428 rfl (lv_at hl 3 rfl) ?_
  refine lv_iconst (v := 1) hx hb dL_429 (by decide) ?_
  refine lv_iadd hx hb dL_430 ?_
  refine va_sld hx hb hX hbl hbA hS (hin 1 (by decide)) dL_431 ?_
  refine lv_aload_n hx hb dL_432 rfl (lv_at hl 0 rfl) ?_
  refine lv_iload_n hx hb dL_433 rfl (lv_at hl 3 rfl) ?_
  refine lv_iconst (v := 2) hx hb dL_434 (by decide) ?_
  refine lv_iadd hx hb dL_435 ?_
  refine va_sld hx hb hX hbl hbA hS (hin 2 (by decide)) dL_436 ?_
  refine lv_aload_n hx hb dL_437 rfl (lv_at hl 0 rfl) ?_
  refine lv_iload_n hx hb dL_438 rfl (lv_at hl 3 rfl) ?_
  refine lv_iconst (v := 3) hx hb dL_439 (by decide) ?_
  refine lv_iadd hx hb dL_440 ?_
  refine va_sld hx hb hX hbl hbA hS (hin 3 (by decide)) dL_441 ?_
  refine lc_V (q1 := xmi_82) (as := [.int (xs (nI i + 1).toNatClampNeg), .int (xs (nI i + 2).toNatClampNeg), .int (xs (nI i + 3).toNatClampNeg)]) (rest := []) C0 hKv hNw rfl rfl lk_49 (by decide) (by decide) rfl m1 hwf hob0 rfl (by decide) (by omega) (by decide) rfl dL_442 hP hS hl.1 (fun H1 locs1 hP hS => ?_)
  show W p l e room_1 s m #[Value.ref b] below meth c H1 locs1 h1.1 h1.2.1 Q (F0 m 445 ls [.int r])
  refine lv_aload_n hx hb dL_445 rfl (lv_at hl 2 rfl) ?_
  refine lv_aload_n hx hb dL_446 rfl (lv_at hl 0 rfl) ?_
  refine lv_iload_n hx hb dL_447 rfl (lv_at hl 3 rfl) ?_
  refine lv_iconst (v := 1) hx hb dL_448 (by decide) ?_
  refine lv_iadd hx hb dL_449 ?_
  refine va_sld hx hb hX hbl hbA hS (hin 1 (by decide)) dL_450 ?_
  refine lv_aload_n hx hb dL_451 rfl (lv_at hl 0 rfl) ?_
  refine lv_iload_n hx hb dL_452 rfl (lv_at hl 3 rfl) ?_
  refine lv_iconst (v := 2) hx hb dL_453 (by decide) ?_
  refine lv_iadd hx hb dL_454 ?_
  refine va_sld hx hb hX hbl hbA hS (hin 2 (by decide)) dL_455 ?_
  refine lv_aload_n hx hb dL_456 rfl (lv_at hl 0 rfl) ?_
  refine lv_iload_n hx hb dL_457 rfl (lv_at hl 3 rfl) ?_
  refine lv_iconst (v := 3) hx hb dL_458 (by decide) ?_
  refine lv_iadd hx hb dL_459 ?_
  refine va_sld hx hb hX hbl hbA hS (hin 3 (by decide)) dL_460 ?_
  refine lc_V (q1 := xmi_171) (as := [.int (xs (nI i + 1).toNatClampNeg), .int (xs (nI i + 2).toNatClampNeg), .int (xs (nI i + 3).toNatClampNeg)]) (rest := [.int r]) C0 hKv hNw rfl rfl lk_53 (by decide) (by decide) rfl m2 hwf1 hob1 rfl (by decide) (by omega) (by show 1 ≤ 8; decide) rfl dL_461 hP hS hl.1 (fun H2 locs2 hP hS => ?_)
  show W p l e room_1 s m #[Value.ref b] below meth c H2 locs2 h2.1 h2.2.1 Q (F0 m 464 ls [.int r, .int r])
  refine lv_icmp_eq (tgt := 766) hx hb dL_464 (by decide) (fun _ => ?_) (fun hc => absurd rfl hc)
  exact kk h2 H2 locs2 hsim hP hS
set_option maxRecDepth 100000 in
theorem lk_54 : Cond.methodLink R_law 54 xmi_83.2.1 ∈ xtb := xtb_in (List.mem_of_getElem? (i := 509) rfl) rfl
set_option maxRecDepth 100000 in
theorem lk_58 : Cond.methodLink R_law 58 xmi_172.2.1 ∈ xtb := xtb_in (List.mem_of_getElem? (i := 991) rfl) rfl
set_option maxHeartbeats 4000000 in
set_option maxRecDepth 100000 in
theorem lw_c9 {Sim : xH → Prop} (hOK : lwOK Sim) (C0 : lw_At p s m meth c b L xs) (hKv : va_K D vwCl (xtys G) s) (hNw : xNw s) {i : Nat} (hi : i + 6 ≤ L) (hL : L ≤ 3072) {h : xH} (hs : Sim h) {H : Heap} {locs : List Loc} {ls : Array Slot} (hP : va_P D vwCl (xws G s.heap.size h) H) (hS : va_S (fun a => s.heap.size ≤ a) s.heap H locs) (hl : lv_has ls 4 [(0, .ref b), (1, .ref (s.heap.size + 0)), (2, .ref (s.heap.size + 104)), (3, .int (nI i))])
    (kk : ∀ (h2 : xH) (H2 : Heap) (locs2 : List Loc), Sim h2 → va_P D vwCl (xws G s.heap.size h2) H2 → va_S (fun a => s.heap.size ≤ a) s.heap H2 locs2 → W p l e room_1 s m #[Value.ref b] below meth c H2 locs2 h2.1 h2.2.1 Q (F0 m 766 ls [])) : W p l e room_1 s m #[Value.ref b] below meth c H locs h.1 h.2.1 Q (F0 m 469 ls []) := by
  obtain ⟨hz1, hz2, hwf, fs0, hob0⟩ := (hOK h hs).1
  obtain ⟨r, h1, h2, m1, ⟨fs1, hob1⟩, m2, hsim⟩ := (hOK h hs).2.2.2.2.2.2.2.2.2.2.1 (xs (nI i + 1).toNatClampNeg) (xs (nI i + 2).toNatClampNeg) (xs (nI i + 3).toNatClampNeg) (xs (nI i + 4).toNatClampNeg)
  obtain ⟨y1, y2, -, -⟩ := (hOK h2 hsim).1
  obtain ⟨hwf1, g1, g2⟩ := xM_go m1 hwf
  obtain ⟨hwf2, g3, g4⟩ := xM_go m2 hwf1
  obtain ⟨hx, hb, hr, hml, hown, hts0, hX, hbl, hlocks, hgv⟩ := id C0
  have hbA : ¬ (fun q : Nat => s.heap.size ≤ q) b := Nat.not_le.mpr hbl
  have hin : ∀ t : Nat, t < 6 → vp_in (nI i + nI t) L := fun t ht => by rw [nI_add]; exact vp_in_nI (by omega) (by omega)
  refine lv_aload_n hx hb dL_469 rfl (lv_at hl 1 rfl) ?_
  refine lv_aload_n hx hb dL_470 rfl (lv_at hl 0 rfl) ?_
  refine lv_iload_n hx hb dL_471 rfl (lv_at hl 3 rfl) ?_
  refine lv_iconst (v := 1) hx hb dL_472 (by decide) ?_
  refine lv_iadd hx hb dL_473 ?_
  refine va_sld hx hb hX hbl hbA hS (hin 1 (by decide)) dL_474 ?_
  refine lv_aload_n hx hb dL_475 rfl (lv_at hl 0 rfl) ?_
  refine lv_iload_n hx hb dL_476 rfl (lv_at hl 3 rfl) ?_
  refine lv_iconst (v := 2) hx hb dL_477 (by decide) ?_
  refine lv_iadd hx hb dL_478 ?_
  refine va_sld hx hb hX hbl hbA hS (hin 2 (by decide)) dL_479 ?_
  refine lv_aload_n hx hb dL_480 rfl (lv_at hl 0 rfl) ?_
  refine lv_iload_n hx hb dL_481 rfl (lv_at hl 3 rfl) ?_
  refine lv_iconst (v := 3) hx hb dL_482 (by decide) ?_
  refine lv_iadd hx hb dL_483 ?_
  refine va_sld hx hb hX hbl hbA hS (hin 3 (by decide)) dL_484 ?_
  refine lv_aload_n hx hb dL_485 rfl (lv_at hl 0 rfl) ?_
  refine lv_iload_n hx hb dL_486 rfl (lv_at hl 3 rfl) ?_
  refine lv_iconst (v := 4) hx hb dL_487 (by decide) ?_
  refine lv_iadd hx hb dL_488 ?_
  refine va_sld hx hb hX hbl hbA hS (hin 4 (by decide)) dL_489 ?_
  refine lc_V (q1 := xmi_83) (as := [.int (xs (nI i + 1).toNatClampNeg), .int (xs (nI i + 2).toNatClampNeg), .int (xs (nI i + 3).toNatClampNeg), .int (xs (nI i + 4).toNatClampNeg)]) (rest := []) C0 hKv hNw rfl rfl lk_54 (by decide) (by decide) rfl m1 hwf hob0 rfl (by decide) (by omega) (by decide) rfl dL_490 hP hS hl.1 (fun H1 locs1 hP hS => ?_)
  show W p l e room_1 s m #[Value.ref b] below meth c H1 locs1 h1.1 h1.2.1 Q (F0 m 493 ls [.int r])
  refine lv_aload_n hx hb dL_493 rfl (lv_at hl 2 rfl) ?_
  refine lv_aload_n hx hb dL_494 rfl (lv_at hl 0 rfl) ?_
  refine lv_iload_n hx hb dL_495 rfl (lv_at hl 3 rfl) ?_
  refine lv_iconst (v := 1) hx hb dL_496 (by decide) ?_
  refine lv_iadd hx hb dL_497 ?_
  refine va_sld hx hb hX hbl hbA hS (hin 1 (by decide)) dL_498 ?_
  refine lv_aload_n hx hb dL_499 rfl (lv_at hl 0 rfl) ?_
  refine lv_iload_n hx hb dL_500 rfl (lv_at hl 3 rfl) ?_
  refine lv_iconst (v := 2) hx hb dL_501 (by decide) ?_
  refine lv_iadd hx hb dL_502 ?_
  refine va_sld hx hb hX hbl hbA hS (hin 2 (by decide)) dL_503 ?_
  refine lv_aload_n hx hb dL_504 rfl (lv_at hl 0 rfl) ?_
  refine lv_iload_n hx hb dL_505 rfl (lv_at hl 3 rfl) ?_
  refine lv_iconst (v := 3) hx hb dL_506 (by decide) ?_
  refine lv_iadd hx hb dL_507 ?_
  refine va_sld hx hb hX hbl hbA hS (hin 3 (by decide)) dL_508 ?_
  refine lv_aload_n hx hb dL_509 rfl (lv_at hl 0 rfl) ?_
  refine lv_iload_n hx hb dL_510 rfl (lv_at hl 3 rfl) ?_
  refine lv_iconst (v := 4) hx hb dL_511 (by decide) ?_
  refine lv_iadd hx hb dL_512 ?_
  refine va_sld hx hb hX hbl hbA hS (hin 4 (by decide)) dL_513 ?_
  refine lc_V (q1 := xmi_172) (as := [.int (xs (nI i + 1).toNatClampNeg), .int (xs (nI i + 2).toNatClampNeg), .int (xs (nI i + 3).toNatClampNeg), .int (xs (nI i + 4).toNatClampNeg)]) (rest := [.int r]) C0 hKv hNw rfl rfl lk_58 (by decide) (by decide) rfl m2 hwf1 hob1 rfl (by decide) (by omega) (by show 1 ≤ 8; decide) rfl dL_514 hP hS hl.1 (fun H2 locs2 hP hS => ?_)
  show W p l e room_1 s m #[Value.ref b] below meth c H2 locs2 h2.1 h2.2.1 Q (F0 m 517 ls [.int r, .int r])
  refine lv_icmp_eq (tgt := 766) hx hb dL_517 (by decide) (fun _ => ?_) (fun hc => absurd rfl hc)
  exact kk h2 H2 locs2 hsim hP hS
set_option maxRecDepth 100000 in
theorem lk_59 : Cond.methodLink R_law 59 xmi_84.2.1 ∈ xtb := xtb_in (List.mem_of_getElem? (i := 518) rfl) rfl
set_option maxRecDepth 100000 in
theorem lk_62 : Cond.methodLink R_law 62 xmi_175.2.1 ∈ xtb := xtb_in (List.mem_of_getElem? (i := 995) rfl) rfl
set_option maxHeartbeats 4000000 in
set_option maxRecDepth 100000 in
theorem lw_c10 {Sim : xH → Prop} (hOK : lwOK Sim) (C0 : lw_At p s m meth c b L xs) (hKv : va_K D vwCl (xtys G) s) (hNw : xNw s) {i : Nat} (hi : i + 6 ≤ L) (hL : L ≤ 3072) {h : xH} (hs : Sim h) {H : Heap} {locs : List Loc} {ls : Array Slot} (hP : va_P D vwCl (xws G s.heap.size h) H) (hS : va_S (fun a => s.heap.size ≤ a) s.heap H locs) (hl : lv_has ls 4 [(0, .ref b), (1, .ref (s.heap.size + 0)), (2, .ref (s.heap.size + 104)), (3, .int (nI i))])
    (kk : ∀ (h2 : xH) (H2 : Heap) (locs2 : List Loc), Sim h2 → va_P D vwCl (xws G s.heap.size h2) H2 → va_S (fun a => s.heap.size ≤ a) s.heap H2 locs2 → W p l e room_1 s m #[Value.ref b] below meth c H2 locs2 h2.1 h2.2.1 Q (F0 m 766 ls [])) : W p l e room_1 s m #[Value.ref b] below meth c H locs h.1 h.2.1 Q (F0 m 522 ls []) := by
  obtain ⟨hz1, hz2, hwf, fs0, hob0⟩ := (hOK h hs).1
  obtain ⟨r, h1, h2, m1, ⟨fs1, hob1⟩, m2, hsim⟩ := (hOK h hs).2.2.2.2.2.2.2.2.2.2.2.1 (xs (nI i + 1).toNatClampNeg) (xs (nI i + 2).toNatClampNeg)
  obtain ⟨y1, y2, -, -⟩ := (hOK h2 hsim).1
  obtain ⟨hwf1, g1, g2⟩ := xM_go m1 hwf
  obtain ⟨hwf2, g3, g4⟩ := xM_go m2 hwf1
  obtain ⟨hx, hb, hr, hml, hown, hts0, hX, hbl, hlocks, hgv⟩ := id C0
  have hbA : ¬ (fun q : Nat => s.heap.size ≤ q) b := Nat.not_le.mpr hbl
  have hin : ∀ t : Nat, t < 6 → vp_in (nI i + nI t) L := fun t ht => by rw [nI_add]; exact vp_in_nI (by omega) (by omega)
  refine lv_aload_n hx hb dL_522 rfl (lv_at hl 1 rfl) ?_
  refine lv_aload_n hx hb dL_523 rfl (lv_at hl 0 rfl) ?_
  refine lv_iload_n hx hb dL_524 rfl (lv_at hl 3 rfl) ?_
  refine lv_iconst (v := 1) hx hb dL_525 (by decide) ?_
  refine lv_iadd hx hb dL_526 ?_
  refine va_sld hx hb hX hbl hbA hS (hin 1 (by decide)) dL_527 ?_
  refine lv_aload_n hx hb dL_528 rfl (lv_at hl 0 rfl) ?_
  refine lv_iload_n hx hb dL_529 rfl (lv_at hl 3 rfl) ?_
  refine lv_iconst (v := 2) hx hb dL_530 (by decide) ?_
  refine lv_iadd hx hb dL_531 ?_
  refine va_sld hx hb hX hbl hbA hS (hin 2 (by decide)) dL_532 ?_
  refine lc_V (q1 := xmi_84) (as := [.int (xs (nI i + 1).toNatClampNeg), .int (xs (nI i + 2).toNatClampNeg)]) (rest := []) C0 hKv hNw rfl rfl lk_59 (by decide) (by decide) rfl m1 hwf hob0 rfl (by decide) (by omega) (by decide) rfl dL_533 hP hS hl.1 (fun H1 locs1 hP hS => ?_)
  show W p l e room_1 s m #[Value.ref b] below meth c H1 locs1 h1.1 h1.2.1 Q (F0 m 536 ls [.int r])
  refine lv_aload_n hx hb dL_536 rfl (lv_at hl 2 rfl) ?_
  refine lv_aload_n hx hb dL_537 rfl (lv_at hl 0 rfl) ?_
  refine lv_iload_n hx hb dL_538 rfl (lv_at hl 3 rfl) ?_
  refine lv_iconst (v := 1) hx hb dL_539 (by decide) ?_
  refine lv_iadd hx hb dL_540 ?_
  refine va_sld hx hb hX hbl hbA hS (hin 1 (by decide)) dL_541 ?_
  refine lv_aload_n hx hb dL_542 rfl (lv_at hl 0 rfl) ?_
  refine lv_iload_n hx hb dL_543 rfl (lv_at hl 3 rfl) ?_
  refine lv_iconst (v := 2) hx hb dL_544 (by decide) ?_
  refine lv_iadd hx hb dL_545 ?_
  refine va_sld hx hb hX hbl hbA hS (hin 2 (by decide)) dL_546 ?_
  refine lc_V (q1 := xmi_175) (as := [.int (xs (nI i + 1).toNatClampNeg), .int (xs (nI i + 2).toNatClampNeg)]) (rest := [.int r]) C0 hKv hNw rfl rfl lk_62 (by decide) (by decide) rfl m2 hwf1 hob1 rfl (by decide) (by omega) (by show 1 ≤ 8; decide) rfl dL_547 hP hS hl.1 (fun H2 locs2 hP hS => ?_)
  show W p l e room_1 s m #[Value.ref b] below meth c H2 locs2 h2.1 h2.2.1 Q (F0 m 550 ls [.int r, .int r])
  refine lv_icmp_eq (tgt := 766) hx hb dL_550 (by decide) (fun _ => ?_) (fun hc => absurd rfl hc)
  exact kk h2 H2 locs2 hsim hP hS
set_option maxRecDepth 100000 in
theorem lk_63 : Cond.methodLink R_law 63 xmi_85.2.1 ∈ xtb := xtb_in (List.mem_of_getElem? (i := 529) rfl) rfl
set_option maxRecDepth 100000 in
theorem lk_66 : Cond.methodLink R_law 66 xmi_176.2.1 ∈ xtb := xtb_in (List.mem_of_getElem? (i := 1006) rfl) rfl
set_option maxHeartbeats 4000000 in
set_option maxRecDepth 100000 in
theorem lw_c11 {Sim : xH → Prop} (hOK : lwOK Sim) (C0 : lw_At p s m meth c b L xs) (hKv : va_K D vwCl (xtys G) s) (hNw : xNw s) {i : Nat} (hi : i + 6 ≤ L) (hL : L ≤ 3072) {h : xH} (hs : Sim h) {H : Heap} {locs : List Loc} {ls : Array Slot} (hP : va_P D vwCl (xws G s.heap.size h) H) (hS : va_S (fun a => s.heap.size ≤ a) s.heap H locs) (hl : lv_has ls 4 [(0, .ref b), (1, .ref (s.heap.size + 0)), (2, .ref (s.heap.size + 104)), (3, .int (nI i))])
    (kk : ∀ (h2 : xH) (H2 : Heap) (locs2 : List Loc), Sim h2 → va_P D vwCl (xws G s.heap.size h2) H2 → va_S (fun a => s.heap.size ≤ a) s.heap H2 locs2 → W p l e room_1 s m #[Value.ref b] below meth c H2 locs2 h2.1 h2.2.1 Q (F0 m 766 ls [])) : W p l e room_1 s m #[Value.ref b] below meth c H locs h.1 h.2.1 Q (F0 m 555 ls []) := by
  obtain ⟨hz1, hz2, hwf, fs0, hob0⟩ := (hOK h hs).1
  obtain ⟨r, h1, h2, m1, ⟨fs1, hob1⟩, m2, hsim⟩ := (hOK h hs).2.2.2.2.2.2.2.2.2.2.2.2.1 (xs (nI i + 1).toNatClampNeg) (xs (nI i + 2).toNatClampNeg)
  obtain ⟨y1, y2, -, -⟩ := (hOK h2 hsim).1
  obtain ⟨hwf1, g1, g2⟩ := xM_go m1 hwf
  obtain ⟨hwf2, g3, g4⟩ := xM_go m2 hwf1
  obtain ⟨hx, hb, hr, hml, hown, hts0, hX, hbl, hlocks, hgv⟩ := id C0
  have hbA : ¬ (fun q : Nat => s.heap.size ≤ q) b := Nat.not_le.mpr hbl
  have hin : ∀ t : Nat, t < 6 → vp_in (nI i + nI t) L := fun t ht => by rw [nI_add]; exact vp_in_nI (by omega) (by omega)
  refine lv_aload_n hx hb dL_555 rfl (lv_at hl 1 rfl) ?_
  refine lv_aload_n hx hb dL_556 rfl (lv_at hl 0 rfl) ?_
  refine lv_iload_n hx hb dL_557 rfl (lv_at hl 3 rfl) ?_
  refine lv_iconst (v := 1) hx hb dL_558 (by decide) ?_
  refine lv_iadd hx hb dL_559 ?_
  refine va_sld hx hb hX hbl hbA hS (hin 1 (by decide)) dL_560 ?_
  refine lv_aload_n hx hb dL_561 rfl (lv_at hl 0 rfl) ?_
  refine lv_iload_n hx hb dL_562 rfl (lv_at hl 3 rfl) ?_
  refine lv_iconst (v := 2) hx hb dL_563 (by decide) ?_
  refine lv_iadd hx hb dL_564 ?_
  refine va_sld hx hb hX hbl hbA hS (hin 2 (by decide)) dL_565 ?_
  refine lc_V (q1 := xmi_85) (as := [.int (xs (nI i + 1).toNatClampNeg), .int (xs (nI i + 2).toNatClampNeg)]) (rest := []) C0 hKv hNw rfl rfl lk_63 (by decide) (by decide) rfl m1 hwf hob0 rfl (by decide) (by omega) (by decide) rfl dL_566 hP hS hl.1 (fun H1 locs1 hP hS => ?_)
  show W p l e room_1 s m #[Value.ref b] below meth c H1 locs1 h1.1 h1.2.1 Q (F0 m 569 ls [.int r])
  refine lv_aload_n hx hb dL_569 rfl (lv_at hl 2 rfl) ?_
  refine lv_aload_n hx hb dL_570 rfl (lv_at hl 0 rfl) ?_
  refine lv_iload_n hx hb dL_571 rfl (lv_at hl 3 rfl) ?_
  refine lv_iconst (v := 1) hx hb dL_572 (by decide) ?_
  refine lv_iadd hx hb dL_573 ?_
  refine va_sld hx hb hX hbl hbA hS (hin 1 (by decide)) dL_574 ?_
  refine lv_aload_n hx hb dL_575 rfl (lv_at hl 0 rfl) ?_
  refine lv_iload_n hx hb dL_576 rfl (lv_at hl 3 rfl) ?_
  refine lv_iconst (v := 2) hx hb dL_577 (by decide) ?_
  refine lv_iadd hx hb dL_578 ?_
  refine va_sld hx hb hX hbl hbA hS (hin 2 (by decide)) dL_579 ?_
  refine lc_V (q1 := xmi_176) (as := [.int (xs (nI i + 1).toNatClampNeg), .int (xs (nI i + 2).toNatClampNeg)]) (rest := [.int r]) C0 hKv hNw rfl rfl lk_66 (by decide) (by decide) rfl m2 hwf1 hob1 rfl (by decide) (by omega) (by show 1 ≤ 8; decide) rfl dL_580 hP hS hl.1 (fun H2 locs2 hP hS => ?_)
  show W p l e room_1 s m #[Value.ref b] below meth c H2 locs2 h2.1 h2.2.1 Q (F0 m 583 ls [.int r, .int r])
  refine lv_icmp_eq (tgt := 766) hx hb dL_583 (by decide) (fun _ => ?_) (fun hc => absurd rfl hc)
  exact kk h2 H2 locs2 hsim hP hS
set_option maxRecDepth 100000 in
theorem lk_67 : Cond.methodLink R_law 67 xmi_86.2.1 ∈ xtb := xtb_in (List.mem_of_getElem? (i := 538) rfl) rfl
set_option maxRecDepth 100000 in
theorem lk_70 : Cond.methodLink R_law 70 xmi_178.2.1 ∈ xtb := xtb_in (List.mem_of_getElem? (i := 1010) rfl) rfl
set_option maxHeartbeats 4000000 in
set_option maxRecDepth 100000 in
theorem lw_c12 {Sim : xH → Prop} (hOK : lwOK Sim) (C0 : lw_At p s m meth c b L xs) (hKv : va_K D vwCl (xtys G) s) (hNw : xNw s) {i : Nat} (hi : i + 6 ≤ L) (hL : L ≤ 3072) {h : xH} (hs : Sim h) {H : Heap} {locs : List Loc} {ls : Array Slot} (hP : va_P D vwCl (xws G s.heap.size h) H) (hS : va_S (fun a => s.heap.size ≤ a) s.heap H locs) (hl : lv_has ls 4 [(0, .ref b), (1, .ref (s.heap.size + 0)), (2, .ref (s.heap.size + 104)), (3, .int (nI i))])
    (kk : ∀ (h2 : xH) (H2 : Heap) (locs2 : List Loc), Sim h2 → va_P D vwCl (xws G s.heap.size h2) H2 → va_S (fun a => s.heap.size ≤ a) s.heap H2 locs2 → W p l e room_1 s m #[Value.ref b] below meth c H2 locs2 h2.1 h2.2.1 Q (F0 m 766 ls [])) : W p l e room_1 s m #[Value.ref b] below meth c H locs h.1 h.2.1 Q (F0 m 588 ls []) := by
  obtain ⟨hz1, hz2, hwf, fs0, hob0⟩ := (hOK h hs).1
  obtain ⟨r, h1, h2, m1, ⟨fs1, hob1⟩, m2, hsim⟩ := (hOK h hs).2.2.2.2.2.2.2.2.2.2.2.2.2.1 (xs (nI i + 1).toNatClampNeg)
  obtain ⟨y1, y2, -, -⟩ := (hOK h2 hsim).1
  obtain ⟨hwf1, g1, g2⟩ := xM_go m1 hwf
  obtain ⟨hwf2, g3, g4⟩ := xM_go m2 hwf1
  obtain ⟨hx, hb, hr, hml, hown, hts0, hX, hbl, hlocks, hgv⟩ := id C0
  have hbA : ¬ (fun q : Nat => s.heap.size ≤ q) b := Nat.not_le.mpr hbl
  have hin : ∀ t : Nat, t < 6 → vp_in (nI i + nI t) L := fun t ht => by rw [nI_add]; exact vp_in_nI (by omega) (by omega)
  refine lv_aload_n hx hb dL_588 rfl (lv_at hl 1 rfl) ?_
  refine lv_aload_n hx hb dL_589 rfl (lv_at hl 0 rfl) ?_
  refine lv_iload_n hx hb dL_590 rfl (lv_at hl 3 rfl) ?_
  refine lv_iconst (v := 1) hx hb dL_591 (by decide) ?_
  refine lv_iadd hx hb dL_592 ?_
  refine va_sld hx hb hX hbl hbA hS (hin 1 (by decide)) dL_593 ?_
  refine lc_V (q1 := xmi_86) (as := [.int (xs (nI i + 1).toNatClampNeg)]) (rest := []) C0 hKv hNw rfl rfl lk_67 (by decide) (by decide) rfl m1 hwf hob0 rfl (by decide) (by omega) (by decide) rfl dL_594 hP hS hl.1 (fun H1 locs1 hP hS => ?_)
  show W p l e room_1 s m #[Value.ref b] below meth c H1 locs1 h1.1 h1.2.1 Q (F0 m 597 ls [.int r])
  refine lv_aload_n hx hb dL_597 rfl (lv_at hl 2 rfl) ?_
  refine lv_aload_n hx hb dL_598 rfl (lv_at hl 0 rfl) ?_
  refine lv_iload_n hx hb dL_599 rfl (lv_at hl 3 rfl) ?_
  refine lv_iconst (v := 1) hx hb dL_600 (by decide) ?_
  refine lv_iadd hx hb dL_601 ?_
  refine va_sld hx hb hX hbl hbA hS (hin 1 (by decide)) dL_602 ?_
  refine lc_V (q1 := xmi_178) (as := [.int (xs (nI i + 1).toNatClampNeg)]) (rest := [.int r]) C0 hKv hNw rfl rfl lk_70 (by decide) (by decide) rfl m2 hwf1 hob1 rfl (by decide) (by omega) (by show 1 ≤ 8; decide) rfl dL_603 hP hS hl.1 (fun H2 locs2 hP hS => ?_)
  show W p l e room_1 s m #[Value.ref b] below meth c H2 locs2 h2.1 h2.2.1 Q (F0 m 606 ls [.int r, .int r])
  refine lv_icmp_eq (tgt := 766) hx hb dL_606 (by decide) (fun _ => ?_) (fun hc => absurd rfl hc)
  exact kk h2 H2 locs2 hsim hP hS
set_option maxRecDepth 100000 in
theorem lk_71 : Cond.methodLink R_law 71 xmi_87.2.1 ∈ xtb := xtb_in (List.mem_of_getElem? (i := 543) rfl) rfl
set_option maxRecDepth 100000 in
theorem lk_74 : Cond.methodLink R_law 74 xmi_180.2.1 ∈ xtb := xtb_in (List.mem_of_getElem? (i := 1018) rfl) rfl
set_option maxHeartbeats 4000000 in
set_option maxRecDepth 100000 in
theorem lw_c13 {Sim : xH → Prop} (hOK : lwOK Sim) (C0 : lw_At p s m meth c b L xs) (hKv : va_K D vwCl (xtys G) s) (hNw : xNw s) {i : Nat} (hi : i + 6 ≤ L) (hL : L ≤ 3072) {h : xH} (hs : Sim h) {H : Heap} {locs : List Loc} {ls : Array Slot} (hP : va_P D vwCl (xws G s.heap.size h) H) (hS : va_S (fun a => s.heap.size ≤ a) s.heap H locs) (hl : lv_has ls 4 [(0, .ref b), (1, .ref (s.heap.size + 0)), (2, .ref (s.heap.size + 104)), (3, .int (nI i))])
    (kk : ∀ (h2 : xH) (H2 : Heap) (locs2 : List Loc), Sim h2 → va_P D vwCl (xws G s.heap.size h2) H2 → va_S (fun a => s.heap.size ≤ a) s.heap H2 locs2 → W p l e room_1 s m #[Value.ref b] below meth c H2 locs2 h2.1 h2.2.1 Q (F0 m 766 ls [])) : W p l e room_1 s m #[Value.ref b] below meth c H locs h.1 h.2.1 Q (F0 m 611 ls []) := by
  obtain ⟨hz1, hz2, hwf, fs0, hob0⟩ := (hOK h hs).1
  obtain ⟨r, h1, h2, m1, ⟨fs1, hob1⟩, m2, hsim⟩ := (hOK h hs).2.2.2.2.2.2.2.2.2.2.2.2.2.2.1 (xs (nI i + 1).toNatClampNeg) (xs (nI i + 2).toNatClampNeg)
  obtain ⟨y1, y2, -, -⟩ := (hOK h2 hsim).1
  obtain ⟨hwf1, g1, g2⟩ := xM_go m1 hwf
  obtain ⟨hwf2, g3, g4⟩ := xM_go m2 hwf1
  obtain ⟨hx, hb, hr, hml, hown, hts0, hX, hbl, hlocks, hgv⟩ := id C0
  have hbA : ¬ (fun q : Nat => s.heap.size ≤ q) b := Nat.not_le.mpr hbl
  have hin : ∀ t : Nat, t < 6 → vp_in (nI i + nI t) L := fun t ht => by rw [nI_add]; exact vp_in_nI (by omega) (by omega)
  refine lv_aload_n hx hb dL_611 rfl (lv_at hl 1 rfl) ?_
  refine lv_aload_n hx hb dL_612 rfl (lv_at hl 0 rfl) ?_
  refine lv_iload_n hx hb dL_613 rfl (lv_at hl 3 rfl) ?_
  refine lv_iconst (v := 1) hx hb dL_614 (by decide) ?_
  refine lv_iadd hx hb dL_615 ?_
  refine va_sld hx hb hX hbl hbA hS (hin 1 (by decide)) dL_616 ?_
  refine lv_aload_n hx hb dL_617 rfl (lv_at hl 0 rfl) ?_
  refine lv_iload_n hx hb dL_618 rfl (lv_at hl 3 rfl) ?_
  refine lv_iconst (v := 2) hx hb dL_619 (by decide) ?_
  refine lv_iadd hx hb dL_620 ?_
  refine va_sld hx hb hX hbl hbA hS (hin 2 (by decide)) dL_621 ?_
  refine lc_V (q1 := xmi_87) (as := [.int (xs (nI i + 1).toNatClampNeg), .int (xs (nI i + 2).toNatClampNeg)]) (rest := []) C0 hKv hNw rfl rfl lk_71 (by decide) (by decide) rfl m1 hwf hob0 rfl (by decide) (by omega) (by decide) rfl dL_622 hP hS hl.1 (fun H1 locs1 hP hS => ?_)
  show W p l e room_1 s m #[Value.ref b] below meth c H1 locs1 h1.1 h1.2.1 Q (F0 m 625 ls [.int r])
  refine lv_aload_n hx hb dL_625 rfl (lv_at hl 2 rfl) ?_
  refine lv_aload_n hx hb dL_626 rfl (lv_at hl 0 rfl) ?_
  refine lv_iload_n hx hb dL_627 rfl (lv_at hl 3 rfl) ?_
  refine lv_iconst (v := 1) hx hb dL_628 (by decide) ?_
  refine lv_iadd hx hb dL_629 ?_
  refine va_sld hx hb hX hbl hbA hS (hin 1 (by decide)) dL_630 ?_
  refine lv_aload_n hx hb dL_631 rfl (lv_at hl 0 rfl) ?_
  refine lv_iload_n hx hb dL_632 rfl (lv_at hl 3 rfl) ?_
  refine lv_iconst (v := 2) hx hb dL_633 (by decide) ?_
  refine lv_iadd hx hb dL_634 ?_
  refine va_sld hx hb hX hbl hbA hS (hin 2 (by decide)) dL_635 ?_
  refine lc_V (q1 := xmi_180) (as := [.int (xs (nI i + 1).toNatClampNeg), .int (xs (nI i + 2).toNatClampNeg)]) (rest := [.int r]) C0 hKv hNw rfl rfl lk_74 (by decide) (by decide) rfl m2 hwf1 hob1 rfl (by decide) (by omega) (by show 1 ≤ 8; decide) rfl dL_636 hP hS hl.1 (fun H2 locs2 hP hS => ?_)
  show W p l e room_1 s m #[Value.ref b] below meth c H2 locs2 h2.1 h2.2.1 Q (F0 m 639 ls [.int r, .int r])
  refine lv_icmp_eq (tgt := 766) hx hb dL_639 (by decide) (fun _ => ?_) (fun hc => absurd rfl hc)
  exact kk h2 H2 locs2 hsim hP hS
set_option maxRecDepth 100000 in
theorem lk_75 : Cond.methodLink R_law 75 xmi_88.2.1 ∈ xtb := xtb_in (List.mem_of_getElem? (i := 553) rfl) rfl
set_option maxRecDepth 100000 in
theorem lk_78 : Cond.methodLink R_law 78 xmi_181.2.1 ∈ xtb := xtb_in (List.mem_of_getElem? (i := 1026) rfl) rfl
set_option maxHeartbeats 4000000 in
set_option maxRecDepth 100000 in
theorem lw_c14 {Sim : xH → Prop} (hOK : lwOK Sim) (C0 : lw_At p s m meth c b L xs) (hKv : va_K D vwCl (xtys G) s) (hNw : xNw s) {i : Nat} (hi : i + 6 ≤ L) (hL : L ≤ 3072) {h : xH} (hs : Sim h) {H : Heap} {locs : List Loc} {ls : Array Slot} (hP : va_P D vwCl (xws G s.heap.size h) H) (hS : va_S (fun a => s.heap.size ≤ a) s.heap H locs) (hl : lv_has ls 4 [(0, .ref b), (1, .ref (s.heap.size + 0)), (2, .ref (s.heap.size + 104)), (3, .int (nI i))])
    (kk : ∀ (h2 : xH) (H2 : Heap) (locs2 : List Loc), Sim h2 → va_P D vwCl (xws G s.heap.size h2) H2 → va_S (fun a => s.heap.size ≤ a) s.heap H2 locs2 → W p l e room_1 s m #[Value.ref b] below meth c H2 locs2 h2.1 h2.2.1 Q (F0 m 766 ls [])) : W p l e room_1 s m #[Value.ref b] below meth c H locs h.1 h.2.1 Q (F0 m 644 ls []) := by
  obtain ⟨hz1, hz2, hwf, fs0, hob0⟩ := (hOK h hs).1
  obtain ⟨r, h1, h2, m1, ⟨fs1, hob1⟩, m2, hsim⟩ := (hOK h hs).2.2.2.2.2.2.2.2.2.2.2.2.2.2.2.1 (xs (nI i + 1).toNatClampNeg)
  obtain ⟨y1, y2, -, -⟩ := (hOK h2 hsim).1
  obtain ⟨hwf1, g1, g2⟩ := xM_go m1 hwf
  obtain ⟨hwf2, g3, g4⟩ := xM_go m2 hwf1
  obtain ⟨hx, hb, hr, hml, hown, hts0, hX, hbl, hlocks, hgv⟩ := id C0
  have hbA : ¬ (fun q : Nat => s.heap.size ≤ q) b := Nat.not_le.mpr hbl
  have hin : ∀ t : Nat, t < 6 → vp_in (nI i + nI t) L := fun t ht => by rw [nI_add]; exact vp_in_nI (by omega) (by omega)
  refine lv_aload_n hx hb dL_644 rfl (lv_at hl 1 rfl) ?_
  refine lv_aload_n hx hb dL_645 rfl (lv_at hl 0 rfl) ?_
  refine lv_iload_n hx hb dL_646 rfl (lv_at hl 3 rfl) ?_
  refine lv_iconst (v := 1) hx hb dL_647 (by decide) ?_
  refine lv_iadd hx hb dL_648 ?_
  refine va_sld hx hb hX hbl hbA hS (hin 1 (by decide)) dL_649 ?_
  refine lc_V (q1 := xmi_88) (as := [.int (xs (nI i + 1).toNatClampNeg)]) (rest := []) C0 hKv hNw rfl rfl lk_75 (by decide) (by decide) rfl m1 hwf hob0 rfl (by decide) (by omega) (by decide) rfl dL_650 hP hS hl.1 (fun H1 locs1 hP hS => ?_)
  show W p l e room_1 s m #[Value.ref b] below meth c H1 locs1 h1.1 h1.2.1 Q (F0 m 653 ls [.int r])
  refine lv_aload_n hx hb dL_653 rfl (lv_at hl 2 rfl) ?_
  refine lv_aload_n hx hb dL_654 rfl (lv_at hl 0 rfl) ?_
  refine lv_iload_n hx hb dL_655 rfl (lv_at hl 3 rfl) ?_
  refine lv_iconst (v := 1) hx hb dL_656 (by decide) ?_
  refine lv_iadd hx hb dL_657 ?_
  refine va_sld hx hb hX hbl hbA hS (hin 1 (by decide)) dL_658 ?_
  refine lc_V (q1 := xmi_181) (as := [.int (xs (nI i + 1).toNatClampNeg)]) (rest := [.int r]) C0 hKv hNw rfl rfl lk_78 (by decide) (by decide) rfl m2 hwf1 hob1 rfl (by decide) (by omega) (by show 1 ≤ 8; decide) rfl dL_659 hP hS hl.1 (fun H2 locs2 hP hS => ?_)
  show W p l e room_1 s m #[Value.ref b] below meth c H2 locs2 h2.1 h2.2.1 Q (F0 m 662 ls [.int r, .int r])
  refine lv_icmp_eq (tgt := 766) hx hb dL_662 (by decide) (fun _ => ?_) (fun hc => absurd rfl hc)
  exact kk h2 H2 locs2 hsim hP hS
set_option maxRecDepth 100000 in
theorem lk_79 : Cond.methodLink R_law 79 xmi_89.2.1 ∈ xtb := xtb_in (List.mem_of_getElem? (i := 561) rfl) rfl
set_option maxRecDepth 100000 in
theorem lk_82 : Cond.methodLink R_law 82 xmi_182.2.1 ∈ xtb := xtb_in (List.mem_of_getElem? (i := 1030) rfl) rfl
set_option maxHeartbeats 4000000 in
set_option maxRecDepth 100000 in
theorem lw_c15 {Sim : xH → Prop} (hOK : lwOK Sim) (C0 : lw_At p s m meth c b L xs) (hKv : va_K D vwCl (xtys G) s) (hNw : xNw s) {i : Nat} (hi : i + 6 ≤ L) (hL : L ≤ 3072) {h : xH} (hs : Sim h) {H : Heap} {locs : List Loc} {ls : Array Slot} (hP : va_P D vwCl (xws G s.heap.size h) H) (hS : va_S (fun a => s.heap.size ≤ a) s.heap H locs) (hl : lv_has ls 4 [(0, .ref b), (1, .ref (s.heap.size + 0)), (2, .ref (s.heap.size + 104)), (3, .int (nI i))])
    (kk : ∀ (h2 : xH) (H2 : Heap) (locs2 : List Loc), Sim h2 → va_P D vwCl (xws G s.heap.size h2) H2 → va_S (fun a => s.heap.size ≤ a) s.heap H2 locs2 → W p l e room_1 s m #[Value.ref b] below meth c H2 locs2 h2.1 h2.2.1 Q (F0 m 766 ls [])) : W p l e room_1 s m #[Value.ref b] below meth c H locs h.1 h.2.1 Q (F0 m 667 ls []) := by
  obtain ⟨hz1, hz2, hwf, fs0, hob0⟩ := (hOK h hs).1
  obtain ⟨r, h1, h2, m1, ⟨fs1, hob1⟩, m2, hsim⟩ := (hOK h hs).2.2.2.2.2.2.2.2.2.2.2.2.2.2.2.2.1 (xs (nI i + 1).toNatClampNeg)
  obtain ⟨y1, y2, -, -⟩ := (hOK h2 hsim).1
  obtain ⟨hwf1, g1, g2⟩ := xM_go m1 hwf
  obtain ⟨hwf2, g3, g4⟩ := xM_go m2 hwf1
  obtain ⟨hx, hb, hr, hml, hown, hts0, hX, hbl, hlocks, hgv⟩ := id C0
  have hbA : ¬ (fun q : Nat => s.heap.size ≤ q) b := Nat.not_le.mpr hbl
  have hin : ∀ t : Nat, t < 6 → vp_in (nI i + nI t) L := fun t ht => by rw [nI_add]; exact vp_in_nI (by omega) (by omega)
  refine lv_aload_n hx hb dL_667 rfl (lv_at hl 1 rfl) ?_
  refine lv_aload_n hx hb dL_668 rfl (lv_at hl 0 rfl) ?_
  refine lv_iload_n hx hb dL_669 rfl (lv_at hl 3 rfl) ?_
  refine lv_iconst (v := 1) hx hb dL_670 (by decide) ?_
  refine lv_iadd hx hb dL_671 ?_
  refine va_sld hx hb hX hbl hbA hS (hin 1 (by decide)) dL_672 ?_
  refine lc_V (q1 := xmi_89) (as := [.int (xs (nI i + 1).toNatClampNeg)]) (rest := []) C0 hKv hNw rfl rfl lk_79 (by decide) (by decide) rfl m1 hwf hob0 rfl (by decide) (by omega) (by decide) rfl dL_673 hP hS hl.1 (fun H1 locs1 hP hS => ?_)
  show W p l e room_1 s m #[Value.ref b] below meth c H1 locs1 h1.1 h1.2.1 Q (F0 m 676 ls [.int r])
  refine lv_aload_n hx hb dL_676 rfl (lv_at hl 2 rfl) ?_
  refine lv_aload_n hx hb dL_677 rfl (lv_at hl 0 rfl) ?_
  refine lv_iload_n hx hb dL_678 rfl (lv_at hl 3 rfl) ?_
  refine lv_iconst (v := 1) hx hb dL_679 (by decide) ?_
  refine lv_iadd hx hb dL_680 ?_
  refine va_sld hx hb hX hbl hbA hS (hin 1 (by decide)) dL_681 ?_
  refine lc_V (q1 := xmi_182) (as := [.int (xs (nI i + 1).toNatClampNeg)]) (rest := [.int r]) C0 hKv hNw rfl rfl lk_82 (by decide) (by decide) rfl m2 hwf1 hob1 rfl (by decide) (by omega) (by show 1 ≤ 8; decide) rfl dL_682 hP hS hl.1 (fun H2 locs2 hP hS => ?_)
  show W p l e room_1 s m #[Value.ref b] below meth c H2 locs2 h2.1 h2.2.1 Q (F0 m 685 ls [.int r, .int r])
  refine lv_icmp_eq (tgt := 766) hx hb dL_685 (by decide) (fun _ => ?_) (fun hc => absurd rfl hc)
  exact kk h2 H2 locs2 hsim hP hS
set_option maxRecDepth 100000 in
theorem lk_83 : Cond.methodLink R_law 83 xmi_90.2.1 ∈ xtb := xtb_in (List.mem_of_getElem? (i := 565) rfl) rfl
set_option maxRecDepth 100000 in
theorem lk_86 : Cond.methodLink R_law 86 xmi_183.2.1 ∈ xtb := xtb_in (List.mem_of_getElem? (i := 1034) rfl) rfl
set_option maxHeartbeats 4000000 in
set_option maxRecDepth 100000 in
theorem lw_c16 {Sim : xH → Prop} (hOK : lwOK Sim) (C0 : lw_At p s m meth c b L xs) (hKv : va_K D vwCl (xtys G) s) (hNw : xNw s) {i : Nat} (hi : i + 6 ≤ L) (hL : L ≤ 3072) {h : xH} (hs : Sim h) {H : Heap} {locs : List Loc} {ls : Array Slot} (hP : va_P D vwCl (xws G s.heap.size h) H) (hS : va_S (fun a => s.heap.size ≤ a) s.heap H locs) (hl : lv_has ls 4 [(0, .ref b), (1, .ref (s.heap.size + 0)), (2, .ref (s.heap.size + 104)), (3, .int (nI i))])
    (kk : ∀ (h2 : xH) (H2 : Heap) (locs2 : List Loc), Sim h2 → va_P D vwCl (xws G s.heap.size h2) H2 → va_S (fun a => s.heap.size ≤ a) s.heap H2 locs2 → W p l e room_1 s m #[Value.ref b] below meth c H2 locs2 h2.1 h2.2.1 Q (F0 m 766 ls [])) : W p l e room_1 s m #[Value.ref b] below meth c H locs h.1 h.2.1 Q (F0 m 690 ls []) := by
  obtain ⟨hz1, hz2, hwf, fs0, hob0⟩ := (hOK h hs).1
  obtain ⟨r, h1, h2, m1, ⟨fs1, hob1⟩, m2, hsim⟩ := (hOK h hs).2.2.2.2.2.2.2.2.2.2.2.2.2.2.2.2.2.1
  obtain ⟨y1, y2, -, -⟩ := (hOK h2 hsim).1
  obtain ⟨hwf1, g1, g2⟩ := xM_go m1 hwf
  obtain ⟨hwf2, g3, g4⟩ := xM_go m2 hwf1
  obtain ⟨hx, hb, hr, hml, hown, hts0, hX, hbl, hlocks, hgv⟩ := id C0
  have hbA : ¬ (fun q : Nat => s.heap.size ≤ q) b := Nat.not_le.mpr hbl
  refine lv_aload_n hx hb dL_690 rfl (lv_at hl 1 rfl) ?_
  refine lc_V (q1 := xmi_90) (as := []) (rest := []) C0 hKv hNw rfl rfl lk_83 (by decide) (by decide) rfl m1 hwf hob0 rfl (by decide) (by omega) (by decide) rfl dL_691 hP hS hl.1 (fun H1 locs1 hP hS => ?_)
  show W p l e room_1 s m #[Value.ref b] below meth c H1 locs1 h1.1 h1.2.1 Q (F0 m 694 ls [.int r])
  refine lv_aload_n hx hb dL_694 rfl (lv_at hl 2 rfl) ?_
  refine lc_V (q1 := xmi_183) (as := []) (rest := [.int r]) C0 hKv hNw rfl rfl lk_86 (by decide) (by decide) rfl m2 hwf1 hob1 rfl (by decide) (by omega) (by show 1 ≤ 8; decide) rfl dL_695 hP hS hl.1 (fun H2 locs2 hP hS => ?_)
  show W p l e room_1 s m #[Value.ref b] below meth c H2 locs2 h2.1 h2.2.1 Q (F0 m 698 ls [.int r, .int r])
  refine lv_icmp_eq (tgt := 766) hx hb dL_698 (by decide) (fun _ => ?_) (fun hc => absurd rfl hc)
  exact kk h2 H2 locs2 hsim hP hS
set_option maxRecDepth 100000 in
theorem lk_87 : Cond.methodLink R_law 87 xmi_91.2.1 ∈ xtb := xtb_in (List.mem_of_getElem? (i := 569) rfl) rfl
set_option maxRecDepth 100000 in
theorem lk_90 : Cond.methodLink R_law 90 xmi_192.2.1 ∈ xtb := xtb_in (List.mem_of_getElem? (i := 1038) rfl) rfl
set_option maxHeartbeats 4000000 in
set_option maxRecDepth 100000 in
theorem lw_c17 {Sim : xH → Prop} (hOK : lwOK Sim) (C0 : lw_At p s m meth c b L xs) (hKv : va_K D vwCl (xtys G) s) (hNw : xNw s) {i : Nat} (hi : i + 6 ≤ L) (hL : L ≤ 3072) {h : xH} (hs : Sim h) {H : Heap} {locs : List Loc} {ls : Array Slot} (hP : va_P D vwCl (xws G s.heap.size h) H) (hS : va_S (fun a => s.heap.size ≤ a) s.heap H locs) (hl : lv_has ls 4 [(0, .ref b), (1, .ref (s.heap.size + 0)), (2, .ref (s.heap.size + 104)), (3, .int (nI i))])
    (kk : ∀ (h2 : xH) (H2 : Heap) (locs2 : List Loc), Sim h2 → va_P D vwCl (xws G s.heap.size h2) H2 → va_S (fun a => s.heap.size ≤ a) s.heap H2 locs2 → W p l e room_1 s m #[Value.ref b] below meth c H2 locs2 h2.1 h2.2.1 Q (F0 m 766 ls [])) : W p l e room_1 s m #[Value.ref b] below meth c H locs h.1 h.2.1 Q (F0 m 703 ls []) := by
  obtain ⟨hz1, hz2, hwf, fs0, hob0⟩ := (hOK h hs).1
  obtain ⟨r, h1, h2, m1, ⟨fs1, hob1⟩, m2, hsim⟩ := (hOK h hs).2.2.2.2.2.2.2.2.2.2.2.2.2.2.2.2.2.2.1
  obtain ⟨y1, y2, -, -⟩ := (hOK h2 hsim).1
  obtain ⟨hwf1, g1, g2⟩ := xM_go m1 hwf
  obtain ⟨hwf2, g3, g4⟩ := xM_go m2 hwf1
  obtain ⟨hx, hb, hr, hml, hown, hts0, hX, hbl, hlocks, hgv⟩ := id C0
  have hbA : ¬ (fun q : Nat => s.heap.size ≤ q) b := Nat.not_le.mpr hbl
  refine lv_aload_n hx hb dL_703 rfl (lv_at hl 1 rfl) ?_
  refine lc_V (q1 := xmi_91) (as := []) (rest := []) C0 hKv hNw rfl rfl lk_87 (by decide) (by decide) rfl m1 hwf hob0 rfl (by decide) (by omega) (by decide) rfl dL_704 hP hS hl.1 (fun H1 locs1 hP hS => ?_)
  show W p l e room_1 s m #[Value.ref b] below meth c H1 locs1 h1.1 h1.2.1 Q (F0 m 707 ls [.int r])
  refine lv_aload_n hx hb dL_707 rfl (lv_at hl 2 rfl) ?_
  refine lc_V (q1 := xmi_192) (as := []) (rest := [.int r]) C0 hKv hNw rfl rfl lk_90 (by decide) (by decide) rfl m2 hwf1 hob1 rfl (by decide) (by omega) (by show 1 ≤ 8; decide) rfl dL_708 hP hS hl.1 (fun H2 locs2 hP hS => ?_)
  show W p l e room_1 s m #[Value.ref b] below meth c H2 locs2 h2.1 h2.2.1 Q (F0 m 711 ls [.int r, .int r])
  refine lv_icmp_eq (tgt := 766) hx hb dL_711 (by decide) (fun _ => ?_) (fun hc => absurd rfl hc)
  exact kk h2 H2 locs2 hsim hP hS
set_option maxRecDepth 100000 in
theorem lk_91 : Cond.methodLink R_law 91 xmi_92.2.1 ∈ xtb := xtb_in (List.mem_of_getElem? (i := 609) rfl) rfl
set_option maxRecDepth 100000 in
theorem lk_94 : Cond.methodLink R_law 94 xmi_107.2.1 ∈ xtb := xtb_in (List.mem_of_getElem? (i := 730) rfl) rfl
set_option maxHeartbeats 4000000 in
set_option maxRecDepth 100000 in
theorem lw_c18 {Sim : xH → Prop} (hOK : lwOK Sim) (C0 : lw_At p s m meth c b L xs) (hKv : va_K D vwCl (xtys G) s) (hNw : xNw s) {i : Nat} (hi : i + 6 ≤ L) (hL : L ≤ 3072) {h : xH} (hs : Sim h) {H : Heap} {locs : List Loc} {ls : Array Slot} (hP : va_P D vwCl (xws G s.heap.size h) H) (hS : va_S (fun a => s.heap.size ≤ a) s.heap H locs) (hl : lv_has ls 4 [(0, .ref b), (1, .ref (s.heap.size + 0)), (2, .ref (s.heap.size + 104)), (3, .int (nI i))])
    (kk : ∀ (h2 : xH) (H2 : Heap) (locs2 : List Loc), Sim h2 → va_P D vwCl (xws G s.heap.size h2) H2 → va_S (fun a => s.heap.size ≤ a) s.heap H2 locs2 → W p l e room_1 s m #[Value.ref b] below meth c H2 locs2 h2.1 h2.2.1 Q (F0 m 766 ls [])) : W p l e room_1 s m #[Value.ref b] below meth c H locs h.1 h.2.1 Q (F0 m 716 ls []) := by
  obtain ⟨hz1, hz2, hwf, fs0, hob0⟩ := (hOK h hs).1
  obtain ⟨r, h1, h2, m1, ⟨fs1, hob1⟩, m2, hsim⟩ := (hOK h hs).2.2.2.2.2.2.2.2.2.2.2.2.2.2.2.2.2.2.2.1
  obtain ⟨y1, y2, -, -⟩ := (hOK h2 hsim).1
  obtain ⟨hwf1, g1, g2⟩ := xM_go m1 hwf
  obtain ⟨hwf2, g3, g4⟩ := xM_go m2 hwf1
  obtain ⟨hx, hb, hr, hml, hown, hts0, hX, hbl, hlocks, hgv⟩ := id C0
  have hbA : ¬ (fun q : Nat => s.heap.size ≤ q) b := Nat.not_le.mpr hbl
  refine lv_aload_n hx hb dL_716 rfl (lv_at hl 1 rfl) ?_
  refine lc_V (q1 := xmi_92) (as := []) (rest := []) C0 hKv hNw rfl rfl lk_91 (by decide) (by decide) rfl m1 hwf hob0 rfl (by decide) (by omega) (by decide) rfl dL_717 hP hS hl.1 (fun H1 locs1 hP hS => ?_)
  show W p l e room_1 s m #[Value.ref b] below meth c H1 locs1 h1.1 h1.2.1 Q (F0 m 720 ls [.int r])
  refine lv_aload_n hx hb dL_720 rfl (lv_at hl 2 rfl) ?_
  refine lc_V (q1 := xmi_107) (as := []) (rest := [.int r]) C0 hKv hNw rfl rfl lk_94 (by decide) (by decide) rfl m2 hwf1 hob1 rfl (by decide) (by omega) (by show 1 ≤ 8; decide) rfl dL_721 hP hS hl.1 (fun H2 locs2 hP hS => ?_)
  show W p l e room_1 s m #[Value.ref b] below meth c H2 locs2 h2.1 h2.2.1 Q (F0 m 724 ls [.int r, .int r])
  refine lv_icmp_eq (tgt := 766) hx hb dL_724 (by decide) (fun _ => ?_) (fun hc => absurd rfl hc)
  exact kk h2 H2 locs2 hsim hP hS
set_option maxRecDepth 100000 in
theorem lk_95 : Cond.methodLink R_law 95 xmi_93.2.1 ∈ xtb := xtb_in (List.mem_of_getElem? (i := 613) rfl) rfl
set_option maxRecDepth 100000 in
theorem lk_98 : Cond.methodLink R_law 98 xmi_194.2.1 ∈ xtb := xtb_in (List.mem_of_getElem? (i := 1073) rfl) rfl
set_option maxHeartbeats 4000000 in
set_option maxRecDepth 100000 in
theorem lw_c19 {Sim : xH → Prop} (hOK : lwOK Sim) (C0 : lw_At p s m meth c b L xs) (hKv : va_K D vwCl (xtys G) s) (hNw : xNw s) {i : Nat} (hi : i + 6 ≤ L) (hL : L ≤ 3072) {h : xH} (hs : Sim h) {H : Heap} {locs : List Loc} {ls : Array Slot} (hP : va_P D vwCl (xws G s.heap.size h) H) (hS : va_S (fun a => s.heap.size ≤ a) s.heap H locs) (hl : lv_has ls 4 [(0, .ref b), (1, .ref (s.heap.size + 0)), (2, .ref (s.heap.size + 104)), (3, .int (nI i))])
    (kk : ∀ (h2 : xH) (H2 : Heap) (locs2 : List Loc), Sim h2 → va_P D vwCl (xws G s.heap.size h2) H2 → va_S (fun a => s.heap.size ≤ a) s.heap H2 locs2 → W p l e room_1 s m #[Value.ref b] below meth c H2 locs2 h2.1 h2.2.1 Q (F0 m 766 ls [])) : W p l e room_1 s m #[Value.ref b] below meth c H locs h.1 h.2.1 Q (F0 m 729 ls []) := by
  obtain ⟨hz1, hz2, hwf, fs0, hob0⟩ := (hOK h hs).1
  obtain ⟨r, h1, h2, m1, ⟨fs1, hob1⟩, m2, hsim⟩ := (hOK h hs).2.2.2.2.2.2.2.2.2.2.2.2.2.2.2.2.2.2.2.2.1 (xs (nI i + 1).toNatClampNeg)
  obtain ⟨y1, y2, -, -⟩ := (hOK h2 hsim).1
  obtain ⟨hwf1, g1, g2⟩ := xM_go m1 hwf
  obtain ⟨hwf2, g3, g4⟩ := xM_go m2 hwf1
  obtain ⟨hx, hb, hr, hml, hown, hts0, hX, hbl, hlocks, hgv⟩ := id C0
  have hbA : ¬ (fun q : Nat => s.heap.size ≤ q) b := Nat.not_le.mpr hbl
  have hin : ∀ t : Nat, t < 6 → vp_in (nI i + nI t) L := fun t ht => by rw [nI_add]; exact vp_in_nI (by omega) (by omega)
  refine lv_aload_n hx hb dL_729 rfl (lv_at hl 1 rfl) ?_
  refine lv_aload_n hx hb dL_730 rfl (lv_at hl 0 rfl) ?_
  refine lv_iload_n hx hb dL_731 rfl (lv_at hl 3 rfl) ?_
  refine lv_iconst (v := 1) hx hb dL_732 (by decide) ?_
  refine lv_iadd hx hb dL_733 ?_
  refine va_sld hx hb hX hbl hbA hS (hin 1 (by decide)) dL_734 ?_
  refine lc_V (q1 := xmi_93) (as := [.int (xs (nI i + 1).toNatClampNeg)]) (rest := []) C0 hKv hNw rfl rfl lk_95 (by decide) (by decide) rfl m1 hwf hob0 rfl (by decide) (by omega) (by decide) rfl dL_735 hP hS hl.1 (fun H1 locs1 hP hS => ?_)
  show W p l e room_1 s m #[Value.ref b] below meth c H1 locs1 h1.1 h1.2.1 Q (F0 m 738 ls [.int r])
  refine lv_aload_n hx hb dL_738 rfl (lv_at hl 2 rfl) ?_
  refine lv_aload_n hx hb dL_739 rfl (lv_at hl 0 rfl) ?_
  refine lv_iload_n hx hb dL_740 rfl (lv_at hl 3 rfl) ?_
  refine lv_iconst (v := 1) hx hb dL_741 (by decide) ?_
  refine lv_iadd hx hb dL_742 ?_
  refine va_sld hx hb hX hbl hbA hS (hin 1 (by decide)) dL_743 ?_
  refine lc_V (q1 := xmi_194) (as := [.int (xs (nI i + 1).toNatClampNeg)]) (rest := [.int r]) C0 hKv hNw rfl rfl lk_98 (by decide) (by decide) rfl m2 hwf1 hob1 rfl (by decide) (by omega) (by show 1 ≤ 8; decide) rfl dL_744 hP hS hl.1 (fun H2 locs2 hP hS => ?_)
  show W p l e room_1 s m #[Value.ref b] below meth c H2 locs2 h2.1 h2.2.1 Q (F0 m 747 ls [.int r, .int r])
  refine lv_icmp_eq (tgt := 766) hx hb dL_747 (by decide) (fun _ => ?_) (fun hc => absurd rfl hc)
  exact kk h2 H2 locs2 hsim hP hS
set_option maxRecDepth 100000 in
theorem lk_99 : Cond.methodLink R_law 99 xmi_94.2.1 ∈ xtb := xtb_in (List.mem_of_getElem? (i := 622) rfl) rfl
set_option maxRecDepth 100000 in
theorem lk_103 : Cond.methodLink R_law 103 xmi_196.2.1 ∈ xtb := xtb_in (List.mem_of_getElem? (i := 1081) rfl) rfl
set_option maxHeartbeats 4000000 in
set_option maxRecDepth 100000 in
theorem lw_c20 {Sim : xH → Prop} (hOK : lwOK Sim) (C0 : lw_At p s m meth c b L xs) (hKv : va_K D vwCl (xtys G) s) (hNw : xNw s) {i : Nat} (hi : i + 6 ≤ L) (hL : L ≤ 3072) {h : xH} (hs : Sim h) {H : Heap} {locs : List Loc} {ls : Array Slot} (hP : va_P D vwCl (xws G s.heap.size h) H) (hS : va_S (fun a => s.heap.size ≤ a) s.heap H locs) (hl : lv_has ls 4 [(0, .ref b), (1, .ref (s.heap.size + 0)), (2, .ref (s.heap.size + 104)), (3, .int (nI i))])
    (kk : ∀ (h2 : xH) (H2 : Heap) (locs2 : List Loc), Sim h2 → va_P D vwCl (xws G s.heap.size h2) H2 → va_S (fun a => s.heap.size ≤ a) s.heap H2 locs2 → W p l e room_1 s m #[Value.ref b] below meth c H2 locs2 h2.1 h2.2.1 Q (F0 m 766 ls [])) : W p l e room_1 s m #[Value.ref b] below meth c H locs h.1 h.2.1 Q (F0 m 752 ls []) := by
  obtain ⟨hz1, hz2, hwf, fs0, hob0⟩ := (hOK h hs).1
  obtain ⟨r, h1, h2, m1, ⟨fs1, hob1⟩, m2, hsim⟩ := (hOK h hs).2.2.2.2.2.2.2.2.2.2.2.2.2.2.2.2.2.2.2.2.2
  obtain ⟨y1, y2, -, -⟩ := (hOK h2 hsim).1
  obtain ⟨hwf1, g1, g2⟩ := xM_go m1 hwf
  obtain ⟨hwf2, g3, g4⟩ := xM_go m2 hwf1
  obtain ⟨hx, hb, hr, hml, hown, hts0, hX, hbl, hlocks, hgv⟩ := id C0
  have hbA : ¬ (fun q : Nat => s.heap.size ≤ q) b := Nat.not_le.mpr hbl
  refine lv_aload_n hx hb dL_752 rfl (lv_at hl 1 rfl) ?_
  refine lc_V (q1 := xmi_94) (as := []) (rest := []) C0 hKv hNw rfl rfl lk_99 (by decide) (by decide) rfl m1 hwf hob0 rfl (by decide) (by omega) (by decide) rfl dL_753 hP hS hl.1 (fun H1 locs1 hP hS => ?_)
  show W p l e room_1 s m #[Value.ref b] below meth c H1 locs1 h1.1 h1.2.1 Q (F0 m 756 ls [.long r])
  refine lv_aload_n hx hb dL_756 rfl (lv_at hl 2 rfl) ?_
  refine lc_V (q1 := xmi_196) (as := []) (rest := [.long r]) C0 hKv hNw rfl rfl lk_103 (by decide) (by decide) rfl m2 hwf1 hob1 rfl (by decide) (by omega) (by show 2 ≤ 8; decide) rfl dL_757 hP hS hl.1 (fun H2 locs2 hP hS => ?_)
  show W p l e room_1 s m #[Value.ref b] below meth c H2 locs2 h2.1 h2.2.1 Q (F0 m 760 ls [.long r, .long r])
  refine W.lcmp hx hb dL_760 ?_
  refine lv_if_eq (tgt := 766) hx hb dL_761 (by decide) (fun _ => ?_) (fun hc => absurd lw_cmp0 hc)
  exact kk h2 H2 locs2 hsim hP hS
end LAW
