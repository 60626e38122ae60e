section SND
variable {l : Launch} {D : va_G} {G : xG} {Bs : Nat} {p : Program} {e : Env} {s : State} {m : MethodId} {args : Array Value} {below : List Frame} {meth : Method} {c : Code}
variable {q : xMI} {h0 : Nat × Nat} {r : Option Value} {h' : xH} {K : Nat → xL → List Value → xH → Option xR} {C : Nat → List Value → xH → Option xR}
set_option maxHeartbeats 2000000 in
theorem xs_all (hq : xmOK q) (cx : xCx D G p s m args meth c q) (hs0 : s.heap.size = Bs + h0.1) (hK : ∀ pc L st h, K pc L st h = some (r, h') → xW l D G Bs p e s m args below meth c q h0 r h' pc L st h)
    (hG : ∀ pc L st h, xgo h (K pc L st h)) (hC : ∀ j as h r1 h1 q1, xmis[j]? = some q1 → C j as h = some (r1, h1) → xwf h → xCon l D G Bs q1 as h r1 h1) (hCG : ∀ j as h, xgo h (C j as h))
    {pc : Nat} {w : xRow} {L : xL} {st : List Value} {h : xH} (hok : xoki q pc w = true) (hx : xF K C w L st h = some (r, h')) : xW l D G Bs p e s m args below meth c q h0 r h' pc L st h := by
  obtain ⟨i, n, a, b, d, k, sw⟩ := w
  cases i with
  | iconst v => exact xs_iconst hq cx hs0 hK hG hC hCG hok hx
  | bipush v => exact xs_bipush hq cx hs0 hK hG hC hCG hok hx
  | sipush v => exact xs_sipush hq cx hs0 hK hG hC hCG hok hx
  | ldc v => exact xs_ldc hq cx hs0 hK hG hC hCG hok hx
  | iload_n v => exact xs_iload_n hq cx hs0 hK hG hC hCG hok hx
  | iload v => exact xs_iload hq cx hs0 hK hG hC hCG hok hx
  | aload_n v => exact xs_aload_n hq cx hs0 hK hG hC hCG hok hx
  | aload v => exact xs_aload hq cx hs0 hK hG hC hCG hok hx
  | lload_n v => exact xs_lload_n hq cx hs0 hK hG hC hCG hok hx
  | lload v => exact xs_lload hq cx hs0 hK hG hC hCG hok hx
  | istore_n v => exact xs_istore_n hq cx hs0 hK hG hC hCG hok hx
  | istore v => exact xs_istore hq cx hs0 hK hG hC hCG hok hx
  | astore_n v => exact xs_astore_n hq cx hs0 hK hG hC hCG hok hx
  | astore v => exact xs_astore hq cx hs0 hK hG hC hCG hok hx
  | lstore_n v => exact xs_lstore_n hq cx hs0 hK hG hC hCG hok hx
  | lstore v => exact xs_lstore hq cx hs0 hK hG hC hCG hok hx
  | iinc v w => exact xs_iinc hq cx hs0 hK hG hC hCG hok hx
  | iadd => exact xs_iadd hq cx hs0 hK hG hC hCG hok hx
  | isub => exact xs_isub hq cx hs0 hK hG hC hCG hok hx
  | imul => exact xs_imul hq cx hs0 hK hG hC hCG hok hx
  | iand => exact xs_iand hq cx hs0 hK hG hC hCG hok hx
  | ior => exact xs_ior hq cx hs0 hK hG hC hCG hok hx
  | ixor => exact xs_ixor hq cx hs0 hK hG hC hCG hok hx
  | ishl => exact xs_ishl hq cx hs0 hK hG hC hCG hok hx
  | ishr => exact xs_ishr hq cx hs0 hK hG hC hCG hok hx
  | idiv => exact xs_idiv hq cx hs0 hK hG hC hCG hok hx
  | irem => exact xs_irem hq cx hs0 hK hG hC hCG hok hx
  | ineg => exact xs_ineg hq cx hs0 hK hG hC hCG hok hx
  | i2l => exact xs_i2l hq cx hs0 hK hG hC hCG hok hx
  | ladd => exact xs_ladd hq cx hs0 hK hG hC hCG hok hx
  | lmul => exact xs_lmul hq cx hs0 hK hG hC hCG hok hx
  | dup => exact xs_dup hq cx hs0 hK hG hC hCG hok hx
  | dup2 => exact xs_dup2 hq cx hs0 hK hG hC hCG hok hx
  | goto v => exact xs_goto hq cx hs0 hK hG hC hCG hok hx
  | getfield v => exact xs_getfield hq cx hs0 hK hG hC hCG hok hx
  | putfield v => exact xs_putfield hq cx hs0 hK hG hC hCG hok hx
  | iaload => exact xs_iaload hq cx hs0 hK hG hC hCG hok hx
  | baload => exact xs_baload hq cx hs0 hK hG hC hCG hok hx
  | iastore => exact xs_iastore hq cx hs0 hK hG hC hCG hok hx
  | bastore => exact xs_bastore hq cx hs0 hK hG hC hCG hok hx
  | aaload => exact xs_aaload hq cx hs0 hK hG hC hCG hok hx
  | aastore => exact xs_aastore hq cx hs0 hK hG hC hCG hok hx
  | new v => exact xs_new hq cx hs0 hK hG hC hCG hok hx
  | newarray v => exact xs_newarray hq cx hs0 hK hG hC hCG hok hx
  | anewarray v => exact xs_anewarray hq cx hs0 hK hG hC hCG hok hx
  | ireturn => exact xs_ireturn hq cx hs0 hK hG hC hCG hok hx
  | lreturn => exact xs_lreturn hq cx hs0 hK hG hC hCG hok hx
  | ldc2_w v => exact xs_ldc2 hq cx hs0 hK hG hC hCG hok hx
  | tableswitch v1 v2 v3 v4 => exact xs_table hq cx hs0 hK hG hC hCG hok hx
  | lookupswitch v1 v2 => exact xs_look hq cx hs0 hK hG hC hCG hok hx
  | return_ => exact xs_return hq cx hs0 hK hG hC hCG hok hx
  | ifCond cd v => cases cd with
    | eq => exact xs_if_eq hq cx hs0 hK hG hC hCG hok hx
    | ne => exact xs_if_ne hq cx hs0 hK hG hC hCG hok hx
    | lt => exact xs_if_lt hq cx hs0 hK hG hC hCG hok hx
    | ge => exact xs_if_ge hq cx hs0 hK hG hC hCG hok hx
    | gt => exact xs_if_gt hq cx hs0 hK hG hC hCG hok hx
    | le => exact xs_if_le hq cx hs0 hK hG hC hCG hok hx
  | if_icmp cd v => cases cd with
    | eq => exact xs_icmp_eq hq cx hs0 hK hG hC hCG hok hx
    | ne => exact xs_icmp_ne hq cx hs0 hK hG hC hCG hok hx
    | lt => exact xs_icmp_lt hq cx hs0 hK hG hC hCG hok hx
    | ge => exact xs_icmp_ge hq cx hs0 hK hG hC hCG hok hx
    | gt => exact xs_icmp_gt hq cx hs0 hK hG hC hCG hok hx
    | le => exact xs_icmp_le hq cx hs0 hK hG hC hCG hok hx
  | invokestatic v =>
    by_cases h3 : d = 3
    · subst h3; exact xs_mmax (d := 0) hq cx hs0 hK hG hC hCG hok hx
    by_cases h4 : d = 4
    · subst h4; exact xs_mmin (d := 0) hq cx hs0 hK hG hC hCG hok hx
    by_cases h5 : d = 5
    · subst h5; exact xs_acopy (d := 0) hq cx hs0 hK hG hC hCG hok hx
    exact xs_static hq cx hs0 hK hG hC hCG ⟨h3, h4, h5⟩ hok hx
  | invokespecial v =>
    by_cases h6 : d = 6
    · subst h6; exact xs_objinit (d := 0) hq cx hs0 hK hG hC hCG hok hx
    exact xs_special hq cx hs0 hK hG hC hCG h6 hok hx
  | invokevirtual v => exact xs_virtual hq cx hs0 hK hG hC hCG hok hx
  | _ => exact absurd hx (fun z => by cases z)
end SND
theorem x_con {l : Launch} {D : va_G} {G : xG} {Bs : Nat} {j : Nat} {as : List Value} {h h1 : xH} {r1 : Option Value} {q1 : xMI} (hq : xmis[j]? = some q1) (hwf : xwf h)
    (ih : ∀ (p : Program) (e : Env) (s : State) (m : MethodId) (args : Array Value) (below : List Frame) (meth : Method) (c : Code) (h0 : Nat × Nat), xCx D G p s m args meth c q1 → s.heap.size = Bs + h0.1 → xW l D G Bs p e s m args below meth c q1 h0 r1 h1 0 (xpad (xN j) (xsl as)) [] h)
    (hl : (xsl as).length ≤ xN j) : xCon l D G Bs q1 as h r1 h1 := by
  have ok := xmos q1 (List.mem_of_getElem? hq)
  obtain ⟨o1, o2, o3, o4, o5, o6, o7, o8, o9, o10, o11⟩ := id ok
  have hN := xN_ok hq
  refine Met.ofW (cc := q1.2.2.1) (maxL := q1.2.2.2.1) (ret := q1.2.2.2.2.1) o4 rfl ?_
  intro p e s m args below meth c s₁ B hml hv
  obtain ⟨rfl, hsz, hP, hK, hNw⟩ := hv
  have hx := B.exec
  have hb := B.bytes
  have hr := B.returns
  have hts0 := atoms_spec (ws := xwd q1) B.pre
  have hts : ∀ w ∈ xtb, w.before (as.map (xcv Bs)).toArray s = true := fun w hw => hts0 w (List.mem_cons_of_mem _ hw)
  have hown : s.vm.findClass (xcnm q1.1) = some m.cls := by rw [← o3]; exact findClass_of_methodNamed B.named
  have hlocks := B.notSynchronized
  have hin : meth.name = q1.2.1.name := (name_of_methodNamed B.named B.method).1
  have hW := ih p e s m (as.map (xcv Bs)).toArray below meth c (h.1, h.2.1) ⟨hx, hb, hr, hml, hown, hts, hlocks, fun hk => hin.trans (o10 hk), hK, hNw⟩ hsz
  have hW := hW s.heap [] _ hwf (Nat.le_refl _) (Nat.le_refl _) hP va_S.rf (by rw [← hN]; exact xLo_entry hl)
  rw [lg_entry_eq, ← hN]
  refine W.cs (cells' := h.1 - h.1) (slots' := h.2.1 - h.2.1) (by omega) (by omega) ?_
  exact hW
theorem x_main (l : Launch) (D : va_G) (G : xG) (Bs : Nat) : ∀ (n m : Nat) (q : xMI), xmis[m]? = some q → ∀ (pc : Nat) (L : xL) (st : List Value) (h : xH) (r : Option Value) (h' : xH), xrun xP xN n m pc L st h = some (r, h') →
    ∀ (p : Program) (e : Env) (s : State) (mm : MethodId) (args : Array Value) (below : List Frame) (meth : Method) (c : Code) (h0 : Nat × Nat), xCx D G p s mm args meth c q → s.heap.size = Bs + h0.1 → xW l D G Bs p e s mm args below meth c q h0 r h' pc L st h
  | 0, _, _, _, _, _, _, _, _, _, hx => by cases hx
  | n + 1, m, q, hq, pc, L, st, h, r, h', hx => by
    intro p e s mm args below meth c h0 cx hs0
    obtain ⟨w, hw, hx⟩ := Option.bind_eq_some_iff.mp hx
    refine xs_all (xmos q (List.mem_of_getElem? hq)) cx hs0 (fun pc' L' st' h1 hk => x_main l D G Bs n m q hq pc' L' st' h1 r h' hk p e s mm args below meth c h0 cx hs0) (fun _ _ _ _ => xrun_go n _ _ _ _ _) ?_ (fun _ _ _ => xgo_cond (xrun_go n _ _ _ _ _) (xgo_none _)) (xP_ok hq hw) hx
    intro j as h1 r1 h2 q1 hq1 hc hwf
    obtain ⟨hl, hc⟩ := xcond_k hc
    exact x_con hq1 hwf (x_main l D G Bs n j q1 hq1 0 _ [] h1 r1 h2 hc) (Nat.le_of_ble_eq_true hl)

