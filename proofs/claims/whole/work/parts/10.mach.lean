/-! A small machine of our own over pure data: its heap is a function, its rows are the instructions of the methods as decoded; its answers are tied to the real machine in a later part. -/
abbrev xL : Type := List (Option Value)
/-- a cell: ints of a kind (0 int, 1 boolean), references, or an object of a number with its fields -/
abbrev xC : Type := (Nat × Nat × (Nat → Int32)) ⊕ ((Nat × (Nat → Option Nat)) ⊕ (Nat × List Value))
/-- how many cells; how many slots in all; the cells -/
abbrev xH : Type := Nat × Nat × (Nat → xC)
abbrev xR : Type := Option Value × xH
/-- an instruction, the next pc, three numbers, a constant, the targets of a switch -/
abbrev xRow : Type := Instr × Nat × Nat × Nat × Nat × Int32 × List (Int32 × Nat)
def xdead : xC := .inr (.inr (99, []))
def xup (h : xH) (a : Nat) (c : xC) : xH := (h.1, h.2.1, fun q => if q = a then c else h.2.2 q)
def xnw (h : xH) (c : xC) (s : Nat) : xH := (h.1 + 1, h.2.1 + s, fun q => if q = h.1 then c else h.2.2 q)
def xin (i : Int32) (n : Nat) : Bool := !(decide (i < 0)) && Nat.blt i.toNatClampNeg n
def xarr (h : xH) (t a : Nat) : Option (Nat × (Nat → Int32)) := match h.2.2 a with
  | .inl q => bif Nat.beq q.1 t then some q.2 else none
  | _ => none
def xri (h : xH) (t a : Nat) (i : Int32) : Option Int32 := (xarr h t a).bind fun q => bif xin i q.1 then some (q.2 i.toNatClampNeg) else none
def xwi (h : xH) (t a : Nat) (i v : Int32) : Option xH := (xarr h t a).bind fun q => bif xin i q.1 then some (xup h a (.inl (t, q.1, upd q.2 i.toNatClampNeg v))) else none
def xobj (h : xH) (o ci : Nat) : Option (List Value) := match h.2.2 o with
  | .inr (.inr q) => bif Nat.beq q.1 ci then some q.2 else none
  | _ => none
def xrar (h : xH) (a : Nat) : Option (Nat × (Nat → Option Nat)) := match h.2.2 a with
  | .inr (.inl q) => some q
  | _ => none
def xrr (h : xH) (a : Nat) (i : Int32) : Option Nat := (xrar h a).bind fun q => bif xin i q.1 then q.2 i.toNatClampNeg else none
def xwr (h : xH) (a : Nat) (i : Int32) (v ci : Nat) : Option xH := (xrar h a).bind fun q => (xobj h v ci).bind fun _ => bif xin i q.1 then some (xup h a (.inr (.inl (q.1, va_up q.2 i.toNatClampNeg (some v))))) else none
def xvI (v : Option Value) : Option Int32 := match v with
  | some (.int x) => some x
  | _ => none
def xvA (v : Option Value) : Option Nat := match v with
  | some (.ref x) => some x
  | _ => none
def xvL (v : Option Value) : Option Int64 := match v with
  | some (.long x) => some x
  | _ => none
def xfI (h : xH) (o ci k : Nat) : Option Int32 := (xobj h o ci).bind fun fs => xvI fs[k]?
def xfR (h : xH) (o ci k : Nat) : Option Nat := (xobj h o ci).bind fun fs => xvA fs[k]?
def xfL (h : xH) (o ci k : Nat) : Option Int64 := (xobj h o ci).bind fun fs => xvL fs[k]?
def xpf (h : xH) (o ci k : Nat) (v : Value) : Option xH := (xobj h o ci).bind fun fs => bif Nat.blt k fs.length then some (xup h o (.inr (.inr (ci, fs.set k v)))) else none
/-- System.arraycopy between two rows of ints -/
def xcp (h : xH) (a : Nat) (sp : Int32) (b : Nat) (dp n : Int32) : Option xH := (xarr h 0 a).bind fun q => (xarr h 0 b).bind fun w =>
  bif (!(decide (sp < 0)) && !(decide (dp < 0)) && !(decide (n < 0))) && (Nat.ble (sp.toNatClampNeg + n.toNatClampNeg) q.1 && Nat.ble (dp.toNatClampNeg + n.toNatClampNeg) w.1) then
    some (xup h b (.inl (0, w.1, va_cpy q.2 w.2 sp.toNatClampNeg dp.toNatClampNeg n.toNatClampNeg))) else none
def xlc (L : xL) (i : Nat) : Option Value := (L[i]?).bind id
def xnl (o : Option Value) : Option Value := match o with
  | some (.long _) => none
  | some (.double _) => none
  | o => o
/-- a value of one slot is stored -/
def xst (L : xL) (i : Nat) (v : Value) : xL := match i with
  | 0 => L.set 0 (some v)
  | j + 1 => (L.modify j xnl).set (j + 1) (some v)
/-- a long is stored -/
def xst2 (L : xL) (i : Nat) (v : Value) : xL := (xst L i v).set (i + 1) none
def xpV (st : List Value) : Option (Value × List Value) := match st with
  | v :: r => some (v, r)
  | [] => none
def xpI (st : List Value) : Option (Int32 × List Value) := match st with
  | .int x :: r => some (x, r)
  | _ => none
def xpA (st : List Value) : Option (Nat × List Value) := match st with
  | .ref x :: r => some (x, r)
  | _ => none
def xpL (st : List Value) : Option (Int64 × List Value) := match st with
  | .long x :: r => some (x, r)
  | _ => none
def xpop : Nat → List Value → List Value → Option (List Value × List Value)
  | 0, st, acc => some (acc, st)
  | k + 1, st, acc => match st with
    | v :: r => xpop k r (v :: acc)
    | [] => none
def xcat (st : List Value) : Nat := (st.map fun v => v.category).sum
def xsw (x : Int32) (ps : List (Int32 × Nat)) (d : Nat) (k : Nat → Option xR) : Option xR := match ps with
  | [] => k d
  | p :: r => if x = p.1 then k p.2 else xsw x r d k
def xcV (o : Option xR) (f : xH → Option xR) : Option xR := o.bind fun p => match p.1 with
  | none => f p.2
  | _ => none
def xcI (o : Option xR) (f : Int32 → xH → Option xR) : Option xR := o.bind fun p => (xvI p.1).bind fun x => f x p.2
def xcL (o : Option xR) (f : Int64 → xH → Option xR) : Option xR := o.bind fun p => (xvL p.1).bind fun x => f x p.2
def xret (d : Nat) (o : Option xR) (rest : List Value) (K : List Value → xH → Option xR) : Option xR := match d with
  | 0 => xcV o fun h => K rest h
  | 1 => xcI o fun x h => K (.int x :: rest) h
  | 2 => xcL o fun x h => K (.long x :: rest) h
  | _ => none
/-- the blank fields of an object -/
def xdef (ci : Nat) : List Value := match ci with
  | 0 => [.null, .int 0]
  | 1 => [.null, .null, .int 0, .int 0, .int 0, .int 0]
  | 2 => [.null, .null, .null, .null, .null]
  | 3 => [.int 0, .null, .null, .null, .null, .null, .null, .null, .null, .int 0]
  | 4 => [.null, .null, .null, .int 0, .null, .int 0, .null, .int 0, .int 0, .int 0]
  | 5 => [.null, .null, .null, .int 0, .null, .null, .int 0, .null, .null, .null, .null, .null, .int 0, .null, .int 0, .null, .int 0, .null, .null, .null, .null, .int 0, .int 0, .int 0, .long 0]
  | _ => []
def xbz (x : Int32) : Bool := decide (x = 0) || decide (x = 1)
def xcall (K : Nat → xL → List Value → xH → Option xR) (C : Nat → List Value → xH → Option xR) (n a b d : Nat) (L : xL) (st : List Value) (h : xH) : Option xR :=
  (xpop b st []).bind fun q => bif Nat.ble (xcat q.2) 8 then xret d (C a q.1 h) q.2 (fun st' h' => K n L st' h') else none
def xrecv (h : xH) (args : List Value) (sw : List (Int32 × Nat)) : Option (List Value) := match args, sw with
  | .ref o :: _, p :: _ => xobj h o p.2
  | _, _ => none
/-- one instruction: K goes on in the method, C runs another method -/
def xF (K : Nat → xL → List Value → xH → Option xR) (C : Nat → List Value → xH → Option xR) (w : xRow) (L : xL) (st : List Value) (h : xH) : Option xR :=
  match w with
  | (i, n, a, b, d, c, sw) => match i with
    | .iconst _ => K n L (.int c :: st) h
    | .bipush _ => K n L (.int c :: st) h
    | .sipush _ => K n L (.int c :: st) h
    | .ldc _ => K n L (.int c :: st) h
    | .ldc2_w _ => K n L (.long c.toInt64 :: st) h
    | .iload_n k => (xvI (xlc L k)).bind fun x => K n L (.int x :: st) h
    | .iload k => (xvI (xlc L k)).bind fun x => K n L (.int x :: st) h
    | .aload_n k => (xvA (xlc L k)).bind fun x => K n L (.ref x :: st) h
    | .aload k => (xvA (xlc L k)).bind fun x => K n L (.ref x :: st) h
    | .lload_n k => (xvL (xlc L k)).bind fun x => K n L (.long x :: st) h
    | .lload k => (xvL (xlc L k)).bind fun x => K n L (.long x :: st) h
    | .istore_n k => (xpI st).bind fun q => K n (xst L k (.int q.1)) q.2 h
    | .istore k => (xpI st).bind fun q => K n (xst L k (.int q.1)) q.2 h
    | .astore_n k => (xpA st).bind fun q => K n (xst L k (.ref q.1)) q.2 h
    | .astore k => (xpA st).bind fun q => K n (xst L k (.ref q.1)) q.2 h
    | .lstore_n k => (xpL st).bind fun q => K n (xst2 L k (.long q.1)) q.2 h
    | .lstore k => (xpL st).bind fun q => K n (xst2 L k (.long q.1)) q.2 h
    | .iinc k _ => (xvI (xlc L k)).bind fun x => K n (xst L k (.int (x + c))) st h
    | .iadd => (xpI st).bind fun q => (xpI q.2).bind fun p => K n L (.int (p.1 + q.1) :: p.2) h
    | .isub => (xpI st).bind fun q => (xpI q.2).bind fun p => K n L (.int (p.1 - q.1) :: p.2) h
    | .imul => (xpI st).bind fun q => (xpI q.2).bind fun p => K n L (.int (p.1 * q.1) :: p.2) h
    | .iand => (xpI st).bind fun q => (xpI q.2).bind fun p => K n L (.int (p.1 &&& q.1) :: p.2) h
    | .ior => (xpI st).bind fun q => (xpI q.2).bind fun p => K n L (.int (p.1 ||| q.1) :: p.2) h
    | .ixor => (xpI st).bind fun q => (xpI q.2).bind fun p => K n L (.int (p.1 ^^^ q.1) :: p.2) h
    | .ishl => (xpI st).bind fun q => (xpI q.2).bind fun p => K n L (.int (p.1 <<< (q.1 &&& 31)) :: p.2) h
    | .ishr => (xpI st).bind fun q => (xpI q.2).bind fun p => K n L (.int (p.1 >>> (q.1 &&& 31)) :: p.2) h
    | .idiv => (xpI st).bind fun q => (xpI q.2).bind fun p => if q.1 = 0 then none else K n L (.int (p.1 / q.1) :: p.2) h
    | .irem => (xpI st).bind fun q => (xpI q.2).bind fun p => if q.1 = 0 then none else K n L (.int (p.1 - p.1 / q.1 * q.1) :: p.2) h
    | .ineg => (xpI st).bind fun q => K n L (.int (-q.1) :: q.2) h
    | .i2l => (xpI st).bind fun q => K n L (.long q.1.toInt64 :: q.2) h
    | .ladd => (xpL st).bind fun q => (xpL q.2).bind fun p => K n L (.long (p.1 + q.1) :: p.2) h
    | .lmul => (xpL st).bind fun q => (xpL q.2).bind fun p => K n L (.long (p.1 * q.1) :: p.2) h
    | .dup => (xpV st).bind fun q => bif Nat.beq q.1.category 1 then K n L (q.1 :: q.1 :: q.2) h else none
    | .dup2 => (xpV st).bind fun q => (xpV q.2).bind fun p => bif Nat.beq q.1.category 1 && Nat.beq p.1.category 1 then K n L (q.1 :: p.1 :: q.1 :: p.1 :: p.2) h else none
    | .goto _ => K a L st h
    | .ifCond cd _ => (xpI st).bind fun q => match cd with
      | .eq => if q.1 = 0 then K a L q.2 h else K n L q.2 h
      | .ne => if q.1 = 0 then K n L q.2 h else K a L q.2 h
      | .lt => if q.1 < 0 then K a L q.2 h else K n L q.2 h
      | .ge => if q.1 < 0 then K n L q.2 h else K a L q.2 h
      | .gt => if 0 < q.1 then K a L q.2 h else K n L q.2 h
      | .le => if 0 < q.1 then K n L q.2 h else K a L q.2 h
    | .if_icmp cd _ => (xpI st).bind fun q => (xpI q.2).bind fun p => match cd with
      | .eq => if p.1 = q.1 then K a L p.2 h else K n L p.2 h
      | .ne => if p.1 = q.1 then K n L p.2 h else K a L p.2 h
      | .lt => if p.1 < q.1 then K a L p.2 h else K n L p.2 h
      | .ge => if p.1 < q.1 then K n L p.2 h else K a L p.2 h
      | .gt => if q.1 < p.1 then K a L p.2 h else K n L p.2 h
      | .le => if q.1 < p.1 then K n L p.2 h else K a L p.2 h
    | .tableswitch _ _ _ _ => (xpI st).bind fun q => xsw q.1 sw a fun t => K t L q.2 h
    | .lookupswitch _ _ => (xpI st).bind fun q => xsw q.1 sw a fun t => K t L q.2 h
    | .getfield _ => (xpA st).bind fun q => match d with
      | 0 => (xfI h q.1 a b).bind fun v => K n L (.int v :: q.2) h
      | 1 => (xfR h q.1 a b).bind fun v => K n L (.ref v :: q.2) h
      | _ => (xfL h q.1 a b).bind fun v => K n L (.long v :: q.2) h
    | .putfield _ => match d with
      | 0 => (xpI st).bind fun v => (xpA v.2).bind fun q => (xpf h q.1 a b (.int v.1)).bind fun h' => K n L q.2 h'
      | 1 => (xpA st).bind fun v => (xpA v.2).bind fun q => (xpf h q.1 a b (.ref v.1)).bind fun h' => K n L q.2 h'
      | _ => (xpL st).bind fun v => (xpA v.2).bind fun q => (xpf h q.1 a b (.long v.1)).bind fun h' => K n L q.2 h'
    | .iaload => (xpI st).bind fun i => (xpA i.2).bind fun q => (xri h 0 q.1 i.1).bind fun v => K n L (.int v :: q.2) h
    | .baload => (xpI st).bind fun i => (xpA i.2).bind fun q => (xri h 1 q.1 i.1).bind fun v => K n L (.int v :: q.2) h
    | .iastore => (xpI st).bind fun v => (xpI v.2).bind fun i => (xpA i.2).bind fun q => (xwi h 0 q.1 i.1 v.1).bind fun h' => K n L q.2 h'
    | .bastore => (xpI st).bind fun v => (xpI v.2).bind fun i => (xpA i.2).bind fun q => bif xbz v.1 then (xwi h 1 q.1 i.1 v.1).bind fun h' => K n L q.2 h' else none
    | .aaload => (xpI st).bind fun i => (xpA i.2).bind fun q => (xrr h q.1 i.1).bind fun v => K n L (.ref v :: q.2) h
    | .aastore => (xpA st).bind fun v => (xpI v.2).bind fun i => (xpA i.2).bind fun q => (xwr h q.1 i.1 v.1 2).bind fun h' => K n L q.2 h'
    | .new _ => K n L (.ref h.1 :: st) (xnw h (.inr (.inr (a, xdef a))) b)
    | .newarray _ => (xpI st).bind fun q => bif xin q.1 100000 then K n L (.ref h.1 :: q.2) (xnw h (.inl (a, q.1.toNatClampNeg, fun _ => 0)) q.1.toNatClampNeg) else none
    | .anewarray _ => (xpI st).bind fun q => bif xin q.1 100000 then K n L (.ref h.1 :: q.2) (xnw h (.inr (.inl (q.1.toNatClampNeg, fun _ => none))) q.1.toNatClampNeg) else none
    | .invokestatic _ => match d with
      | 3 => (xpI st).bind fun q => (xpI q.2).bind fun p => bif Nat.ble (xcat p.2) 8 then K n L (.int (if p.1 < q.1 then q.1 else p.1) :: p.2) h else none
      | 4 => (xpI st).bind fun q => (xpI q.2).bind fun p => bif Nat.ble (xcat p.2) 8 then K n L (.int (if q.1 < p.1 then q.1 else p.1) :: p.2) h else none
      | 5 => (xpI st).bind fun q => (xpI q.2).bind fun p => (xpA p.2).bind fun t => (xpI t.2).bind fun s => (xpA s.2).bind fun o => bif Nat.ble (xcat o.2) 8 then (xcp h o.1 s.1 t.1 p.1 q.1).bind fun h' => K n L o.2 h' else none
      | _ => xcall K C n a b d L st h
    | .invokespecial _ => match d with
      | 6 => (xpA st).bind fun q => bif Nat.ble (xcat q.2) 8 then K n L q.2 h else none
      | _ => (xpop b st []).bind fun q => (xrecv h q.1 sw).bind fun _ => xcall K C n a b d L st h
    | .invokevirtual _ => (xpop b st []).bind fun q => (xrecv h q.1 sw).bind fun _ => xcall K C n a b d L st h
    | .ireturn => (xpI st).bind fun q => bif q.2.isEmpty && (Nat.beq a 0 || xbz q.1) then some (some (.int q.1), h) else none
    | .lreturn => (xpL st).bind fun q => bif q.2.isEmpty then some (some (.long q.1), h) else none
    | .return_ => bif st.isEmpty then some (none, h) else none
    | _ => none
/-- the values at a method's start, by their slots -/
def xsl : List Value → xL
  | [] => []
  | v :: r => bif Nat.beq v.category 2 then some v :: none :: xsl r else some v :: xsl r
def xpad (n : Nat) (L : xL) : xL := L ++ List.replicate (n - L.length) none
section X
variable (P : Nat → Nat → Option xRow) (N : Nat → Nat)
def xrun : Nat → Nat → Nat → xL → List Value → xH → Option xR
  | 0, _, _, _, _, _ => none
  | k + 1, m, pc, L, st, h => (P m pc).bind fun w => xF (fun pc' L' st' h' => xrun k m pc' L' st' h') (fun j as h' => bif Nat.ble (xsl as).length (N j) then xrun k j 0 (xpad (N j) (xsl as)) [] h' else none) w L st h
end X
