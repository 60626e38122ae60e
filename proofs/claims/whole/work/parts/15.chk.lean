def xcs : List (Nat × Nat × Int32) := []
set_option maxRecDepth 100000 in
theorem xcs_ok : ∀ q ∈ xcs, Cond.constant (xcnm q.1) q.2.1 q.2.2 ∈ xtb := fun _ h => absurd h List.not_mem_nil
def xcsl : List (Nat × Nat × Int32) := [(5, 170, 1757), (5, 172, 31), (1, 42, 31), (3, 114, 31), (4, 105, 31), (6, 314, 31), (6, 320, 1757)]
set_option maxRecDepth 100000 in
theorem xcsl_ok : ∀ q ∈ xcsl, Cond.constantLong (xcnm q.1) q.2.1 q.2.2.toInt64 ∈ xtb := List.forall_mem_cons.mpr ⟨by rw [show ((1757 : Int32).toInt64) = (1757 : Int64) by decide +kernel]; exact xtb_in (List.mem_of_getElem? (i := 626) rfl) rfl, List.forall_mem_cons.mpr ⟨by rw [show ((31 : Int32).toInt64) = (31 : Int64) by decide +kernel]; exact xtb_in (List.mem_of_getElem? (i := 627) rfl) rfl, List.forall_mem_cons.mpr ⟨by rw [show ((31 : Int32).toInt64) = (31 : Int64) by decide +kernel]; exact xtb_in (List.mem_of_getElem? (i := 646) rfl) rfl, List.forall_mem_cons.mpr ⟨by rw [show ((31 : Int32).toInt64) = (31 : Int64) by decide +kernel]; exact xtb_in (List.mem_of_getElem? (i := 639) rfl) rfl, List.forall_mem_cons.mpr ⟨by rw [show ((31 : Int32).toInt64) = (31 : Int64) by decide +kernel]; exact xtb_in (List.mem_of_getElem? (i := 632) rfl) rfl, List.forall_mem_cons.mpr ⟨by rw [show ((31 : Int32).toInt64) = (31 : Int64) by decide +kernel]; exact xtb_in (List.mem_of_getElem? (i := 1090) rfl) rfl, List.forall_mem_cons.mpr ⟨by rw [show ((1757 : Int32).toInt64) = (1757 : Int64) by decide +kernel]; exact xtb_in (List.mem_of_getElem? (i := 1085) rfl) rfl, fun _ h => absurd h List.not_mem_nil⟩⟩⟩⟩⟩⟩⟩
def xdc (B : ByteArray) (pc : Nat) (i : Instr) (len n : Nat) : Bool := decide (decode B pc = .ok (i, len)) && Nat.beq n (pc + len)
def xdty (t : FieldType) : Nat := match t with
  | .int => 0
  | .object _ => 1
  | .array _ => 1
  | .long => 2
  | _ => 9
/-- where a switch goes -/
def xtg (x : Int32) (ps : List (Int32 × Nat)) (d : Nat) : Nat := match ps with
  | [] => d
  | p :: r => if x = p.1 then p.2 else xtg x r d
/-- a call fits: kind, number of things, locals, room -/
def xcr (q : xMI) (a b k : Nat) : Bool := match xmis[a]? with
  | some r => Nat.beq r.2.2.2.2.2.1 k && Nat.beq r.2.2.2.2.2.2.1 b && Nat.ble (r.2.2.2.2.2.2.2.1 + 1) q.2.2.2.2.2.2.2.1 && Nat.ble (8 + (r.2.2.2.1 + 11) + r.2.2.2.2.2.2.2.2) q.2.2.2.2.2.2.2.2
  | none => false
def xccn (a : Nat) : Nat := (xmis[a]?.getD xmi_0).1
def xoki (q : xMI) (pc : Nat) (w : xRow) : Bool := match w with
  | (i, n, a, b, d, c, sw) => match i with
    | .iconst v => xdc q.2.2.1 pc i 1 n && decide (Int32.ofInt v = c)
    | .bipush v => xdc q.2.2.1 pc i 2 n && decide ((Int8.ofInt v).toInt32 = c)
    | .sipush v => xdc q.2.2.1 pc i 3 n && decide ((Int16.ofInt v).toInt32 = c)
    | .ldc ix => xdc q.2.2.1 pc i 2 n && xcs.elem (q.1, ix, c)
    | .ldc2_w ix => xdc q.2.2.1 pc i 3 n && xcsl.elem (q.1, ix, c)
    | .iload_n _ => xdc q.2.2.1 pc i 1 n
    | .iload _ => xdc q.2.2.1 pc i 2 n
    | .aload_n _ => xdc q.2.2.1 pc i 1 n
    | .aload _ => xdc q.2.2.1 pc i 2 n
    | .lload_n _ => xdc q.2.2.1 pc i 1 n
    | .lload _ => xdc q.2.2.1 pc i 2 n
    | .istore_n k => xdc q.2.2.1 pc i 1 n && Nat.blt k q.2.2.2.1
    | .istore k => xdc q.2.2.1 pc i 2 n && Nat.blt k q.2.2.2.1
    | .astore_n k => xdc q.2.2.1 pc i 1 n && Nat.blt k q.2.2.2.1
    | .astore k => xdc q.2.2.1 pc i 2 n && Nat.blt k q.2.2.2.1
    | .lstore_n k => xdc q.2.2.1 pc i 1 n && Nat.blt (k + 1) q.2.2.2.1
    | .lstore k => xdc q.2.2.1 pc i 2 n && Nat.blt (k + 1) q.2.2.2.1
    | .iinc k v => xdc q.2.2.1 pc i 3 n && decide (Int32.ofInt v = c) && Nat.blt k q.2.2.2.1
    | .iadd => xdc q.2.2.1 pc i 1 n
    | .isub => xdc q.2.2.1 pc i 1 n
    | .imul => xdc q.2.2.1 pc i 1 n
    | .iand => xdc q.2.2.1 pc i 1 n
    | .ior => xdc q.2.2.1 pc i 1 n
    | .ixor => xdc q.2.2.1 pc i 1 n
    | .ishl => xdc q.2.2.1 pc i 1 n
    | .ishr => xdc q.2.2.1 pc i 1 n
    | .idiv => xdc q.2.2.1 pc i 1 n
    | .irem => xdc q.2.2.1 pc i 1 n
    | .ineg => xdc q.2.2.1 pc i 1 n
    | .i2l => xdc q.2.2.1 pc i 1 n
    | .ladd => xdc q.2.2.1 pc i 1 n
    | .lmul => xdc q.2.2.1 pc i 1 n
    | .dup => xdc q.2.2.1 pc i 1 n
    | .dup2 => xdc q.2.2.1 pc i 1 n
    | .goto o => xdc q.2.2.1 pc i 3 n && decide ((pc : Int) + o = (a : Int))
    | .ifCond _ o => xdc q.2.2.1 pc i 3 n && decide ((pc : Int) + o = (a : Int))
    | .if_icmp _ o => xdc q.2.2.1 pc i 3 n && decide ((pc : Int) + o = (a : Int))
    | .tableswitch df lo hi offs => decide (decode q.2.2.1 pc = .ok (i, n - pc)) && decide ((pc : Int) + df = (a : Int)) && decide ((offs.size : Int) = hi - lo + 1) && (List.range offs.size).all (fun j => decide ((pc : Int) + offs.getD j 0 = (xtg (Int32.ofInt (lo + j)) sw a : Int))) && sw.all (fun p => decide (lo ≤ p.1.toInt) && decide (p.1.toInt ≤ hi))
    | .lookupswitch df ps => decide (decode q.2.2.1 pc = .ok (i, n - pc)) && decide ((pc : Int) + df = (a : Int)) && (ps.toList.zip (ps.toList.drop 1)).all (fun (a, next) => a.1 < next.1) && decide (ps.toList = sw.map (fun p => (p.1.toInt, (p.2 : Int) - (pc : Int))))
    | .getfield ix => xdc q.2.2.1 pc i 3 n && xfl.elem (q.1, ix, a, b)
    | .putfield ix => xdc q.2.2.1 pc i 3 n && xfl.elem (q.1, ix, a, b) && Nat.beq (xdty (xYc a b)) d && (!(xTc a b).2.2.2 || (Nat.beq q.2.2.2.2.2.1 2 && Nat.beq q.1 (a + 1)))
    | .iaload => xdc q.2.2.1 pc i 1 n
    | .baload => xdc q.2.2.1 pc i 1 n
    | .iastore => xdc q.2.2.1 pc i 1 n
    | .bastore => xdc q.2.2.1 pc i 1 n
    | .aaload => xdc q.2.2.1 pc i 1 n
    | .aastore => xdc q.2.2.1 pc i 1 n
    | .new ix => xdc q.2.2.1 pc i 3 n && xkl.elem (q.1, ix, a) && Nat.blt a 6 && Nat.beq b (xNc a)
    | .newarray t => xdc q.2.2.1 pc i 2 n && ((Nat.beq a 0 && decide (t = .int)) || (Nat.beq a 1 && decide (t = .boolean)))
    | .anewarray ix => xdc q.2.2.1 pc i 3 n && xkl.elem (q.1, ix, 2)
    | .invokestatic ix => xdc q.2.2.1 pc i 3 n && (match d with
      | 3 => xsp.elem (q.1, ix, 3) && Nat.ble 1 q.2.2.2.2.2.2.2.1 && Nat.ble 21 q.2.2.2.2.2.2.2.2
      | 4 => xsp.elem (q.1, ix, 4) && Nat.ble 1 q.2.2.2.2.2.2.2.1 && Nat.ble 21 q.2.2.2.2.2.2.2.2
      | 5 => xsp.elem (q.1, ix, 5) && Nat.ble 1 q.2.2.2.2.2.2.2.1 && Nat.ble 40 q.2.2.2.2.2.2.2.2
      | _ => xml.elem (q.1, ix, a) && xcr q a b 0)
    | .invokespecial ix => xdc q.2.2.1 pc i 3 n && (match d with
      | 6 => xsp.elem (q.1, ix, 6) && Nat.ble 1 q.2.2.2.2.2.2.2.1 && Nat.ble 21 q.2.2.2.2.2.2.2.2
      | _ => (xml.elem (q.1, ix, a) || xmn.elem (q.1, ix, a)) && xcr q a b 2 && (match sw with
        | [p] => Nat.beq (p.2 + 1) (xccn a) && Nat.blt p.2 6
        | _ => false))
    | .invokevirtual ix => xdc q.2.2.1 pc i 3 n && xml.elem (q.1, ix, a) && xcr q a b 1 && (match sw with
      | [p] => Nat.beq (p.2 + 1) (xccn a) && Nat.blt p.2 6
      | _ => false)
    | .ireturn => xdc q.2.2.1 pc i 1 n && ((Nat.beq a 0 && decide (q.2.2.2.2.1 = some .int)) || (Nat.beq a 1 && decide (q.2.2.2.2.1 = some .boolean)))
    | .lreturn => xdc q.2.2.1 pc i 1 n && decide (q.2.2.2.2.1 = some .long)
    | .return_ => xdc q.2.2.1 pc i 1 n && decide (q.2.2.2.2.1 = none)
    | _ => false
set_option maxRecDepth 100000 in
theorem xk_0 : (xq_0.all fun r => xoki xmi_0 r.1 r.2) = true := by decide +kernel
set_option maxRecDepth 100000 in
theorem xk_1 : (xq_1.all fun r => xoki xmi_1 r.1 r.2) = true := by decide +kernel
set_option maxRecDepth 100000 in
theorem xk_2 : (xq_2.all fun r => xoki xmi_2 r.1 r.2) = true := by decide +kernel
set_option maxRecDepth 100000 in
theorem xk_3 : (xq_3.all fun r => xoki xmi_3 r.1 r.2) = true := by decide +kernel
set_option maxRecDepth 100000 in
theorem xk_4 : (xq_4.all fun r => xoki xmi_4 r.1 r.2) = true := by decide +kernel
set_option maxRecDepth 100000 in
theorem xk_5 : (xq_5.all fun r => xoki xmi_5 r.1 r.2) = true := by decide +kernel
set_option maxRecDepth 100000 in
theorem xk_6 : (xq_6.all fun r => xoki xmi_6 r.1 r.2) = true := by decide +kernel
set_option maxRecDepth 100000 in
theorem xk_7 : (xq_7.all fun r => xoki xmi_7 r.1 r.2) = true := by decide +kernel
set_option maxRecDepth 100000 in
theorem xk_8 : (xq_8.all fun r => xoki xmi_8 r.1 r.2) = true := by decide +kernel
set_option maxRecDepth 100000 in
theorem xk_9 : (xq_9.all fun r => xoki xmi_9 r.1 r.2) = true := by decide +kernel
set_option maxRecDepth 100000 in
theorem xk_10 : (xq_10.all fun r => xoki xmi_10 r.1 r.2) = true := by decide +kernel
set_option maxRecDepth 100000 in
theorem xk_11 : (xq_11.all fun r => xoki xmi_11 r.1 r.2) = true := by decide +kernel
set_option maxRecDepth 100000 in
theorem xk_12 : (xq_12.all fun r => xoki xmi_12 r.1 r.2) = true := by decide +kernel
set_option maxRecDepth 100000 in
theorem xk_13 : (xq_13.all fun r => xoki xmi_13 r.1 r.2) = true := by decide +kernel
set_option maxRecDepth 100000 in
theorem xk_14 : (xq_14.all fun r => xoki xmi_14 r.1 r.2) = true := by decide +kernel
set_option maxRecDepth 100000 in
theorem xk_15 : (xq_15.all fun r => xoki xmi_15 r.1 r.2) = true := by decide +kernel
set_option maxRecDepth 100000 in
theorem xk_16 : (xq_16.all fun r => xoki xmi_16 r.1 r.2) = true := by decide +kernel
set_option maxRecDepth 100000 in
theorem xk_17 : (xq_17.all fun r => xoki xmi_17 r.1 r.2) = true := by decide +kernel
set_option maxRecDepth 100000 in
theorem xk_18 : (xq_18.all fun r => xoki xmi_18 r.1 r.2) = true := by decide +kernel
set_option maxRecDepth 100000 in
theorem xk_19 : (xq_19.all fun r => xoki xmi_19 r.1 r.2) = true := by decide +kernel
set_option maxRecDepth 100000 in
theorem xk_20 : (xq_20.all fun r => xoki xmi_20 r.1 r.2) = true := by decide +kernel
set_option maxRecDepth 100000 in
theorem xk_21 : (xq_21.all fun r => xoki xmi_21 r.1 r.2) = true := by decide +kernel
set_option maxRecDepth 100000 in
theorem xk_22 : (xq_22.all fun r => xoki xmi_22 r.1 r.2) = true := by decide +kernel
set_option maxRecDepth 100000 in
theorem xk_23 : (xq_23.all fun r => xoki xmi_23 r.1 r.2) = true := by decide +kernel
set_option maxRecDepth 100000 in
theorem xk_24 : (xq_24.all fun r => xoki xmi_24 r.1 r.2) = true := by decide +kernel
set_option maxRecDepth 100000 in
theorem xk_25 : (xq_25.all fun r => xoki xmi_25 r.1 r.2) = true := by decide +kernel
set_option maxRecDepth 100000 in
theorem xk_26 : (xq_26.all fun r => xoki xmi_26 r.1 r.2) = true := by decide +kernel
set_option maxRecDepth 100000 in
theorem xk_27 : (xq_27.all fun r => xoki xmi_27 r.1 r.2) = true := by decide +kernel
set_option maxRecDepth 100000 in
theorem xk_28 : (xq_28.all fun r => xoki xmi_28 r.1 r.2) = true := by decide +kernel
set_option maxRecDepth 100000 in
theorem xk_29 : (xq_29.all fun r => xoki xmi_29 r.1 r.2) = true := by decide +kernel
set_option maxRecDepth 100000 in
theorem xk_30 : (xq_30.all fun r => xoki xmi_30 r.1 r.2) = true := by decide +kernel
set_option maxRecDepth 100000 in
theorem xk_31 : (xq_31.all fun r => xoki xmi_31 r.1 r.2) = true := by decide +kernel
set_option maxRecDepth 100000 in
theorem xk_32 : (xq_32.all fun r => xoki xmi_32 r.1 r.2) = true := by decide +kernel
set_option maxRecDepth 100000 in
theorem xk_33 : (xq_33.all fun r => xoki xmi_33 r.1 r.2) = true := by decide +kernel
set_option maxRecDepth 100000 in
theorem xk_34 : (xq_34.all fun r => xoki xmi_34 r.1 r.2) = true := by decide +kernel
set_option maxRecDepth 100000 in
theorem xk_35 : (xq_35.all fun r => xoki xmi_35 r.1 r.2) = true := by decide +kernel
set_option maxRecDepth 100000 in
theorem xk_36 : (xq_36.all fun r => xoki xmi_36 r.1 r.2) = true := by decide +kernel
set_option maxRecDepth 100000 in
theorem xk_37 : (xq_37.all fun r => xoki xmi_37 r.1 r.2) = true := by decide +kernel
set_option maxRecDepth 100000 in
theorem xk_38 : (xq_38.all fun r => xoki xmi_38 r.1 r.2) = true := by decide +kernel
set_option maxRecDepth 100000 in
theorem xk_39 : (xq_39.all fun r => xoki xmi_39 r.1 r.2) = true := by decide +kernel
set_option maxRecDepth 100000 in
theorem xk_40 : (xq_40.all fun r => xoki xmi_40 r.1 r.2) = true := by decide +kernel
set_option maxRecDepth 100000 in
theorem xk_41 : (xq_41.all fun r => xoki xmi_41 r.1 r.2) = true := by decide +kernel
set_option maxRecDepth 100000 in
theorem xk_42 : (xq_42.all fun r => xoki xmi_42 r.1 r.2) = true := by decide +kernel
set_option maxRecDepth 100000 in
theorem xk_43 : (xq_43.all fun r => xoki xmi_43 r.1 r.2) = true := by decide +kernel
set_option maxRecDepth 100000 in
theorem xk_44 : (xq_44.all fun r => xoki xmi_44 r.1 r.2) = true := by decide +kernel
set_option maxRecDepth 100000 in
theorem xk_45 : (xq_45.all fun r => xoki xmi_45 r.1 r.2) = true := by decide +kernel
set_option maxRecDepth 100000 in
theorem xk_46 : (xq_46.all fun r => xoki xmi_46 r.1 r.2) = true := by decide +kernel
set_option maxRecDepth 100000 in
theorem xk_47 : (xq_47.all fun r => xoki xmi_47 r.1 r.2) = true := by decide +kernel
set_option maxRecDepth 100000 in
theorem xk_48 : (xq_48.all fun r => xoki xmi_48 r.1 r.2) = true := by decide +kernel
set_option maxRecDepth 100000 in
theorem xk_49 : (xq_49.all fun r => xoki xmi_49 r.1 r.2) = true := by decide +kernel
set_option maxRecDepth 100000 in
theorem xk_50 : (xq_50.all fun r => xoki xmi_50 r.1 r.2) = true := by decide +kernel
set_option maxRecDepth 100000 in
theorem xk_51 : (xq_51.all fun r => xoki xmi_51 r.1 r.2) = true := by decide +kernel
set_option maxRecDepth 100000 in
theorem xk_52 : (xq_52.all fun r => xoki xmi_52 r.1 r.2) = true := by decide +kernel
set_option maxRecDepth 100000 in
theorem xk_53 : (xq_53.all fun r => xoki xmi_53 r.1 r.2) = true := by decide +kernel
set_option maxRecDepth 100000 in
theorem xk_54 : (xq_54.all fun r => xoki xmi_54 r.1 r.2) = true := by decide +kernel
set_option maxRecDepth 100000 in
theorem xk_55 : (xq_55.all fun r => xoki xmi_55 r.1 r.2) = true := by decide +kernel
set_option maxRecDepth 100000 in
theorem xk_56 : (xq_56.all fun r => xoki xmi_56 r.1 r.2) = true := by decide +kernel
set_option maxRecDepth 100000 in
theorem xk_57 : (xq_57.all fun r => xoki xmi_57 r.1 r.2) = true := by decide +kernel
set_option maxRecDepth 100000 in
theorem xk_58 : (xq_58.all fun r => xoki xmi_58 r.1 r.2) = true := by decide +kernel
set_option maxRecDepth 100000 in
theorem xk_59 : (xq_59.all fun r => xoki xmi_59 r.1 r.2) = true := by decide +kernel
set_option maxRecDepth 100000 in
theorem xk_60 : (xq_60.all fun r => xoki xmi_60 r.1 r.2) = true := by decide +kernel
set_option maxRecDepth 100000 in
theorem xk_61 : (xq_61.all fun r => xoki xmi_61 r.1 r.2) = true := by decide +kernel
set_option maxRecDepth 100000 in
theorem xk_62 : (xq_62.all fun r => xoki xmi_62 r.1 r.2) = true := by decide +kernel
set_option maxRecDepth 100000 in
theorem xk_63 : (xq_63.all fun r => xoki xmi_63 r.1 r.2) = true := by decide +kernel
set_option maxRecDepth 100000 in
theorem xk_64 : (xq_64.all fun r => xoki xmi_64 r.1 r.2) = true := by decide +kernel
set_option maxRecDepth 100000 in
theorem xk_65 : (xq_65.all fun r => xoki xmi_65 r.1 r.2) = true := by decide +kernel
set_option maxRecDepth 100000 in
theorem xk_66 : (xq_66.all fun r => xoki xmi_66 r.1 r.2) = true := by decide +kernel
set_option maxRecDepth 100000 in
theorem xk_67 : (xq_67.all fun r => xoki xmi_67 r.1 r.2) = true := by decide +kernel
set_option maxRecDepth 100000 in
theorem xk_68 : (xq_68.all fun r => xoki xmi_68 r.1 r.2) = true := by decide +kernel
set_option maxRecDepth 100000 in
theorem xk_69 : (xq_69.all fun r => xoki xmi_69 r.1 r.2) = true := by decide +kernel
set_option maxRecDepth 100000 in
theorem xk_70 : (xq_70.all fun r => xoki xmi_70 r.1 r.2) = true := by decide +kernel
set_option maxRecDepth 100000 in
theorem xk_71 : (xq_71.all fun r => xoki xmi_71 r.1 r.2) = true := by decide +kernel
set_option maxRecDepth 100000 in
theorem xk_72 : (xq_72.all fun r => xoki xmi_72 r.1 r.2) = true := by decide +kernel
set_option maxRecDepth 100000 in
theorem xk_73 : (xq_73.all fun r => xoki xmi_73 r.1 r.2) = true := by decide +kernel
set_option maxRecDepth 100000 in
theorem xk_74 : (xq_74.all fun r => xoki xmi_74 r.1 r.2) = true := by decide +kernel
set_option maxRecDepth 100000 in
theorem xk_75 : (xq_75.all fun r => xoki xmi_75 r.1 r.2) = true := by decide +kernel
set_option maxRecDepth 100000 in
theorem xk_76 : (xq_76.all fun r => xoki xmi_76 r.1 r.2) = true := by decide +kernel
set_option maxRecDepth 100000 in
theorem xk_77 : (xq_77.all fun r => xoki xmi_77 r.1 r.2) = true := by decide +kernel
set_option maxRecDepth 100000 in
theorem xk_78 : (xq_78.all fun r => xoki xmi_78 r.1 r.2) = true := by decide +kernel
set_option maxRecDepth 100000 in
theorem xk_79 : (xq_79.all fun r => xoki xmi_79 r.1 r.2) = true := by decide +kernel
set_option maxRecDepth 100000 in
theorem xk_80 : (xq_80.all fun r => xoki xmi_80 r.1 r.2) = true := by decide +kernel
set_option maxRecDepth 100000 in
theorem xk_81 : (xq_81.all fun r => xoki xmi_81 r.1 r.2) = true := by decide +kernel
set_option maxRecDepth 100000 in
theorem xk_82 : (xq_82.all fun r => xoki xmi_82 r.1 r.2) = true := by decide +kernel
set_option maxRecDepth 100000 in
theorem xk_83 : (xq_83.all fun r => xoki xmi_83 r.1 r.2) = true := by decide +kernel
set_option maxRecDepth 100000 in
theorem xk_84 : (xq_84.all fun r => xoki xmi_84 r.1 r.2) = true := by decide +kernel
set_option maxRecDepth 100000 in
theorem xk_85 : (xq_85.all fun r => xoki xmi_85 r.1 r.2) = true := by decide +kernel
set_option maxRecDepth 100000 in
theorem xk_86 : (xq_86.all fun r => xoki xmi_86 r.1 r.2) = true := by decide +kernel
set_option maxRecDepth 100000 in
theorem xk_87 : (xq_87.all fun r => xoki xmi_87 r.1 r.2) = true := by decide +kernel
set_option maxRecDepth 100000 in
theorem xk_88 : (xq_88.all fun r => xoki xmi_88 r.1 r.2) = true := by decide +kernel
set_option maxRecDepth 100000 in
theorem xk_89 : (xq_89.all fun r => xoki xmi_89 r.1 r.2) = true := by decide +kernel
set_option maxRecDepth 100000 in
theorem xk_90 : (xq_90.all fun r => xoki xmi_90 r.1 r.2) = true := by decide +kernel
set_option maxRecDepth 100000 in
theorem xk_91 : (xq_91.all fun r => xoki xmi_91 r.1 r.2) = true := by decide +kernel
set_option maxRecDepth 100000 in
theorem xk_92 : (xq_92.all fun r => xoki xmi_92 r.1 r.2) = true := by decide +kernel
set_option maxRecDepth 100000 in
theorem xk_93 : (xq_93.all fun r => xoki xmi_93 r.1 r.2) = true := by decide +kernel
set_option maxRecDepth 100000 in
theorem xk_94 : (xq_94.all fun r => xoki xmi_94 r.1 r.2) = true := by decide +kernel
set_option maxRecDepth 100000 in
theorem xk_95 : (xq_95.all fun r => xoki xmi_95 r.1 r.2) = true := by decide +kernel
set_option maxRecDepth 100000 in
theorem xk_96 : (xq_96.all fun r => xoki xmi_96 r.1 r.2) = true := by decide +kernel
set_option maxRecDepth 100000 in
theorem xk_97 : (xq_97.all fun r => xoki xmi_97 r.1 r.2) = true := by decide +kernel
set_option maxRecDepth 100000 in
theorem xk_98 : (xq_98.all fun r => xoki xmi_98 r.1 r.2) = true := by decide +kernel
set_option maxRecDepth 100000 in
theorem xk_99 : (xq_99.all fun r => xoki xmi_99 r.1 r.2) = true := by decide +kernel
set_option maxRecDepth 100000 in
theorem xk_100 : (xq_100.all fun r => xoki xmi_100 r.1 r.2) = true := by decide +kernel
set_option maxRecDepth 100000 in
theorem xk_101 : (xq_101.all fun r => xoki xmi_101 r.1 r.2) = true := by decide +kernel
set_option maxRecDepth 100000 in
theorem xk_102 : (xq_102.all fun r => xoki xmi_102 r.1 r.2) = true := by decide +kernel
set_option maxRecDepth 100000 in
theorem xk_103 : (xq_103.all fun r => xoki xmi_103 r.1 r.2) = true := by decide +kernel
set_option maxRecDepth 100000 in
theorem xk_104 : (xq_104.all fun r => xoki xmi_104 r.1 r.2) = true := by decide +kernel
set_option maxRecDepth 100000 in
theorem xk_105 : (xq_105.all fun r => xoki xmi_105 r.1 r.2) = true := by decide +kernel
set_option maxRecDepth 100000 in
theorem xk_106 : (xq_106.all fun r => xoki xmi_106 r.1 r.2) = true := by decide +kernel
set_option maxRecDepth 100000 in
theorem xk_107 : (xq_107.all fun r => xoki xmi_107 r.1 r.2) = true := by decide +kernel
set_option maxRecDepth 100000 in
theorem xk_108 : (xq_108.all fun r => xoki xmi_108 r.1 r.2) = true := by decide +kernel
set_option maxRecDepth 100000 in
theorem xk_109 : (xq_109.all fun r => xoki xmi_109 r.1 r.2) = true := by decide +kernel
set_option maxRecDepth 100000 in
theorem xk_110 : (xq_110.all fun r => xoki xmi_110 r.1 r.2) = true := by decide +kernel
set_option maxRecDepth 100000 in
theorem xk_111 : (xq_111.all fun r => xoki xmi_111 r.1 r.2) = true := by decide +kernel
set_option maxRecDepth 100000 in
theorem xk_112 : (xq_112.all fun r => xoki xmi_112 r.1 r.2) = true := by decide +kernel
set_option maxRecDepth 100000 in
theorem xk_113 : (xq_113.all fun r => xoki xmi_113 r.1 r.2) = true := by decide +kernel
set_option maxRecDepth 100000 in
theorem xk_114 : (xq_114.all fun r => xoki xmi_114 r.1 r.2) = true := by decide +kernel
set_option maxRecDepth 100000 in
theorem xk_115 : (xq_115.all fun r => xoki xmi_115 r.1 r.2) = true := by decide +kernel
set_option maxRecDepth 100000 in
theorem xk_116 : (xq_116.all fun r => xoki xmi_116 r.1 r.2) = true := by decide +kernel
set_option maxRecDepth 100000 in
theorem xk_117 : (xq_117.all fun r => xoki xmi_117 r.1 r.2) = true := by decide +kernel
set_option maxRecDepth 100000 in
theorem xk_118 : (xq_118.all fun r => xoki xmi_118 r.1 r.2) = true := by decide +kernel
set_option maxRecDepth 100000 in
theorem xk_119 : (xq_119.all fun r => xoki xmi_119 r.1 r.2) = true := by decide +kernel
set_option maxRecDepth 100000 in
theorem xk_120 : (xq_120.all fun r => xoki xmi_120 r.1 r.2) = true := by decide +kernel
set_option maxRecDepth 100000 in
theorem xk_121 : (xq_121.all fun r => xoki xmi_121 r.1 r.2) = true := by decide +kernel
set_option maxRecDepth 100000 in
theorem xk_122 : (xq_122.all fun r => xoki xmi_122 r.1 r.2) = true := by decide +kernel
set_option maxRecDepth 100000 in
theorem xk_123 : (xq_123.all fun r => xoki xmi_123 r.1 r.2) = true := by decide +kernel
set_option maxRecDepth 100000 in
theorem xk_124 : (xq_124.all fun r => xoki xmi_124 r.1 r.2) = true := by decide +kernel
set_option maxRecDepth 100000 in
theorem xk_125 : (xq_125.all fun r => xoki xmi_125 r.1 r.2) = true := by decide +kernel
set_option maxRecDepth 100000 in
theorem xk_126 : (xq_126.all fun r => xoki xmi_126 r.1 r.2) = true := by decide +kernel
set_option maxRecDepth 100000 in
theorem xk_127 : (xq_127.all fun r => xoki xmi_127 r.1 r.2) = true := by decide +kernel
set_option maxRecDepth 100000 in
theorem xk_128 : (xq_128.all fun r => xoki xmi_128 r.1 r.2) = true := by decide +kernel
set_option maxRecDepth 100000 in
theorem xk_129 : (xq_129.all fun r => xoki xmi_129 r.1 r.2) = true := by decide +kernel
set_option maxRecDepth 100000 in
theorem xk_130 : (xq_130.all fun r => xoki xmi_130 r.1 r.2) = true := by decide +kernel
set_option maxRecDepth 100000 in
theorem xk_131 : (xq_131.all fun r => xoki xmi_131 r.1 r.2) = true := by decide +kernel
set_option maxRecDepth 100000 in
theorem xk_132 : (xq_132.all fun r => xoki xmi_132 r.1 r.2) = true := by decide +kernel
set_option maxRecDepth 100000 in
theorem xk_133 : (xq_133.all fun r => xoki xmi_133 r.1 r.2) = true := by decide +kernel
set_option maxRecDepth 100000 in
theorem xk_134 : (xq_134.all fun r => xoki xmi_134 r.1 r.2) = true := by decide +kernel
set_option maxRecDepth 100000 in
theorem xk_135 : (xq_135.all fun r => xoki xmi_135 r.1 r.2) = true := by decide +kernel
set_option maxRecDepth 100000 in
theorem xk_136 : (xq_136.all fun r => xoki xmi_136 r.1 r.2) = true := by decide +kernel
set_option maxRecDepth 100000 in
theorem xk_137 : (xq_137.all fun r => xoki xmi_137 r.1 r.2) = true := by decide +kernel
set_option maxRecDepth 100000 in
theorem xk_138 : (xq_138.all fun r => xoki xmi_138 r.1 r.2) = true := by decide +kernel
set_option maxRecDepth 100000 in
theorem xk_139 : (xq_139.all fun r => xoki xmi_139 r.1 r.2) = true := by decide +kernel
set_option maxRecDepth 100000 in
theorem xk_140 : (xq_140.all fun r => xoki xmi_140 r.1 r.2) = true := by decide +kernel
set_option maxRecDepth 100000 in
theorem xk_141 : (xq_141.all fun r => xoki xmi_141 r.1 r.2) = true := by decide +kernel
set_option maxRecDepth 100000 in
theorem xk_142 : (xq_142.all fun r => xoki xmi_142 r.1 r.2) = true := by decide +kernel
set_option maxRecDepth 100000 in
theorem xk_143 : (xq_143.all fun r => xoki xmi_143 r.1 r.2) = true := by decide +kernel
set_option maxRecDepth 100000 in
theorem xk_144 : (xq_144.all fun r => xoki xmi_144 r.1 r.2) = true := by decide +kernel
set_option maxRecDepth 100000 in
theorem xk_145 : (xq_145.all fun r => xoki xmi_145 r.1 r.2) = true := by decide +kernel
set_option maxRecDepth 100000 in
theorem xk_146 : (xq_146.all fun r => xoki xmi_146 r.1 r.2) = true := by decide +kernel
set_option maxRecDepth 100000 in
theorem xk_147 : (xq_147.all fun r => xoki xmi_147 r.1 r.2) = true := by decide +kernel
set_option maxRecDepth 100000 in
theorem xk_148 : (xq_148.all fun r => xoki xmi_148 r.1 r.2) = true := by decide +kernel
set_option maxRecDepth 100000 in
theorem xk_149 : (xq_149.all fun r => xoki xmi_149 r.1 r.2) = true := by decide +kernel
set_option maxRecDepth 100000 in
theorem xk_150 : (xq_150.all fun r => xoki xmi_150 r.1 r.2) = true := by decide +kernel
set_option maxRecDepth 100000 in
theorem xk_151 : (xq_151.all fun r => xoki xmi_151 r.1 r.2) = true := by decide +kernel
set_option maxRecDepth 100000 in
theorem xk_152 : (xq_152.all fun r => xoki xmi_152 r.1 r.2) = true := by decide +kernel
set_option maxRecDepth 100000 in
theorem xk_153 : (xq_153.all fun r => xoki xmi_153 r.1 r.2) = true := by decide +kernel
set_option maxRecDepth 100000 in
theorem xk_154 : (xq_154.all fun r => xoki xmi_154 r.1 r.2) = true := by decide +kernel
set_option maxRecDepth 100000 in
theorem xk_155 : (xq_155.all fun r => xoki xmi_155 r.1 r.2) = true := by decide +kernel
set_option maxRecDepth 100000 in
theorem xk_156 : (xq_156.all fun r => xoki xmi_156 r.1 r.2) = true := by decide +kernel
set_option maxRecDepth 100000 in
theorem xk_157 : (xq_157.all fun r => xoki xmi_157 r.1 r.2) = true := by decide +kernel
set_option maxRecDepth 100000 in
theorem xk_158 : (xq_158.all fun r => xoki xmi_158 r.1 r.2) = true := by decide +kernel
set_option maxRecDepth 100000 in
theorem xk_159 : (xq_159.all fun r => xoki xmi_159 r.1 r.2) = true := by decide +kernel
set_option maxRecDepth 100000 in
theorem xk_160 : (xq_160.all fun r => xoki xmi_160 r.1 r.2) = true := by decide +kernel
set_option maxRecDepth 100000 in
theorem xk_161 : (xq_161.all fun r => xoki xmi_161 r.1 r.2) = true := by decide +kernel
set_option maxRecDepth 100000 in
theorem xk_162 : (xq_162.all fun r => xoki xmi_162 r.1 r.2) = true := by decide +kernel
set_option maxRecDepth 100000 in
theorem xk_163 : (xq_163.all fun r => xoki xmi_163 r.1 r.2) = true := by decide +kernel
set_option maxRecDepth 100000 in
theorem xk_164 : (xq_164.all fun r => xoki xmi_164 r.1 r.2) = true := by decide +kernel
set_option maxRecDepth 100000 in
theorem xk_165 : (xq_165.all fun r => xoki xmi_165 r.1 r.2) = true := by decide +kernel
set_option maxRecDepth 100000 in
theorem xk_166 : (xq_166.all fun r => xoki xmi_166 r.1 r.2) = true := by decide +kernel
set_option maxRecDepth 100000 in
theorem xk_167 : (xq_167.all fun r => xoki xmi_167 r.1 r.2) = true := by decide +kernel
set_option maxRecDepth 100000 in
theorem xk_168 : (xq_168.all fun r => xoki xmi_168 r.1 r.2) = true := by decide +kernel
set_option maxRecDepth 100000 in
theorem xk_169 : (xq_169.all fun r => xoki xmi_169 r.1 r.2) = true := by decide +kernel
set_option maxRecDepth 100000 in
theorem xk_170 : (xq_170.all fun r => xoki xmi_170 r.1 r.2) = true := by decide +kernel
set_option maxRecDepth 100000 in
theorem xk_171 : (xq_171.all fun r => xoki xmi_171 r.1 r.2) = true := by decide +kernel
set_option maxRecDepth 100000 in
theorem xk_172 : (xq_172.all fun r => xoki xmi_172 r.1 r.2) = true := by decide +kernel
set_option maxRecDepth 100000 in
theorem xk_173 : (xq_173.all fun r => xoki xmi_173 r.1 r.2) = true := by decide +kernel
set_option maxRecDepth 100000 in
theorem xk_174 : (xq_174.all fun r => xoki xmi_174 r.1 r.2) = true := by decide +kernel
set_option maxRecDepth 100000 in
theorem xk_175 : (xq_175.all fun r => xoki xmi_175 r.1 r.2) = true := by decide +kernel
set_option maxRecDepth 100000 in
theorem xk_176 : (xq_176.all fun r => xoki xmi_176 r.1 r.2) = true := by decide +kernel
set_option maxRecDepth 100000 in
theorem xk_177 : (xq_177.all fun r => xoki xmi_177 r.1 r.2) = true := by decide +kernel
set_option maxRecDepth 100000 in
theorem xk_178 : (xq_178.all fun r => xoki xmi_178 r.1 r.2) = true := by decide +kernel
set_option maxRecDepth 100000 in
theorem xk_179 : (xq_179.all fun r => xoki xmi_179 r.1 r.2) = true := by decide +kernel
set_option maxRecDepth 100000 in
theorem xk_180 : (xq_180.all fun r => xoki xmi_180 r.1 r.2) = true := by decide +kernel
set_option maxRecDepth 100000 in
theorem xk_181 : (xq_181.all fun r => xoki xmi_181 r.1 r.2) = true := by decide +kernel
set_option maxRecDepth 100000 in
theorem xk_182 : (xq_182.all fun r => xoki xmi_182 r.1 r.2) = true := by decide +kernel
set_option maxRecDepth 100000 in
theorem xk_183 : (xq_183.all fun r => xoki xmi_183 r.1 r.2) = true := by decide +kernel
set_option maxRecDepth 100000 in
theorem xk_184 : (xq_184.all fun r => xoki xmi_184 r.1 r.2) = true := by decide +kernel
set_option maxRecDepth 100000 in
theorem xk_185 : (xq_185.all fun r => xoki xmi_185 r.1 r.2) = true := by decide +kernel
set_option maxRecDepth 100000 in
theorem xk_186 : (xq_186.all fun r => xoki xmi_186 r.1 r.2) = true := by decide +kernel
set_option maxRecDepth 100000 in
theorem xk_187 : (xq_187.all fun r => xoki xmi_187 r.1 r.2) = true := by decide +kernel
set_option maxRecDepth 100000 in
theorem xk_188 : (xq_188.all fun r => xoki xmi_188 r.1 r.2) = true := by decide +kernel
set_option maxRecDepth 100000 in
theorem xk_189 : (xq_189.all fun r => xoki xmi_189 r.1 r.2) = true := by decide +kernel
set_option maxRecDepth 100000 in
theorem xk_190 : (xq_190.all fun r => xoki xmi_190 r.1 r.2) = true := by decide +kernel
set_option maxRecDepth 100000 in
theorem xk_191 : (xq_191.all fun r => xoki xmi_191 r.1 r.2) = true := by decide +kernel
set_option maxRecDepth 100000 in
theorem xk_192 : (xq_192.all fun r => xoki xmi_192 r.1 r.2) = true := by decide +kernel
set_option maxRecDepth 100000 in
theorem xk_193 : (xq_193.all fun r => xoki xmi_193 r.1 r.2) = true := by decide +kernel
set_option maxRecDepth 100000 in
theorem xk_194 : (xq_194.all fun r => xoki xmi_194 r.1 r.2) = true := by decide +kernel
set_option maxRecDepth 100000 in
theorem xk_195 : (xq_195.all fun r => xoki xmi_195 r.1 r.2) = true := by decide +kernel
set_option maxRecDepth 100000 in
theorem xk_196 : (xq_196.all fun r => xoki xmi_196 r.1 r.2) = true := by decide +kernel
def xQM : List (List (Nat × xRow) × xMI) := [(xq_0, xmi_0), (xq_1, xmi_1), (xq_2, xmi_2), (xq_3, xmi_3), (xq_4, xmi_4), (xq_5, xmi_5), (xq_6, xmi_6), (xq_7, xmi_7), (xq_8, xmi_8), (xq_9, xmi_9), (xq_10, xmi_10), (xq_11, xmi_11), (xq_12, xmi_12), (xq_13, xmi_13), (xq_14, xmi_14), (xq_15, xmi_15), (xq_16, xmi_16), (xq_17, xmi_17), (xq_18, xmi_18), (xq_19, xmi_19), (xq_20, xmi_20), (xq_21, xmi_21), (xq_22, xmi_22), (xq_23, xmi_23), (xq_24, xmi_24), (xq_25, xmi_25), (xq_26, xmi_26), (xq_27, xmi_27), (xq_28, xmi_28), (xq_29, xmi_29), (xq_30, xmi_30), (xq_31, xmi_31), (xq_32, xmi_32), (xq_33, xmi_33), (xq_34, xmi_34), (xq_35, xmi_35), (xq_36, xmi_36), (xq_37, xmi_37), (xq_38, xmi_38), (xq_39, xmi_39), (xq_40, xmi_40), (xq_41, xmi_41), (xq_42, xmi_42), (xq_43, xmi_43), (xq_44, xmi_44), (xq_45, xmi_45), (xq_46, xmi_46), (xq_47, xmi_47), (xq_48, xmi_48), (xq_49, xmi_49), (xq_50, xmi_50), (xq_51, xmi_51), (xq_52, xmi_52), (xq_53, xmi_53), (xq_54, xmi_54), (xq_55, xmi_55), (xq_56, xmi_56), (xq_57, xmi_57), (xq_58, xmi_58), (xq_59, xmi_59), (xq_60, xmi_60), (xq_61, xmi_61), (xq_62, xmi_62), (xq_63, xmi_63), (xq_64, xmi_64), (xq_65, xmi_65), (xq_66, xmi_66), (xq_67, xmi_67), (xq_68, xmi_68), (xq_69, xmi_69), (xq_70, xmi_70), (xq_71, xmi_71), (xq_72, xmi_72), (xq_73, xmi_73), (xq_74, xmi_74), (xq_75, xmi_75), (xq_76, xmi_76), (xq_77, xmi_77), (xq_78, xmi_78), (xq_79, xmi_79), (xq_80, xmi_80), (xq_81, xmi_81), (xq_82, xmi_82), (xq_83, xmi_83), (xq_84, xmi_84), (xq_85, xmi_85), (xq_86, xmi_86), (xq_87, xmi_87), (xq_88, xmi_88), (xq_89, xmi_89), (xq_90, xmi_90), (xq_91, xmi_91), (xq_92, xmi_92), (xq_93, xmi_93), (xq_94, xmi_94), (xq_95, xmi_95), (xq_96, xmi_96), (xq_97, xmi_97), (xq_98, xmi_98), (xq_99, xmi_99), (xq_100, xmi_100), (xq_101, xmi_101), (xq_102, xmi_102), (xq_103, xmi_103), (xq_104, xmi_104), (xq_105, xmi_105), (xq_106, xmi_106), (xq_107, xmi_107), (xq_108, xmi_108), (xq_109, xmi_109), (xq_110, xmi_110), (xq_111, xmi_111), (xq_112, xmi_112), (xq_113, xmi_113), (xq_114, xmi_114), (xq_115, xmi_115), (xq_116, xmi_116), (xq_117, xmi_117), (xq_118, xmi_118), (xq_119, xmi_119), (xq_120, xmi_120), (xq_121, xmi_121), (xq_122, xmi_122), (xq_123, xmi_123), (xq_124, xmi_124), (xq_125, xmi_125), (xq_126, xmi_126), (xq_127, xmi_127), (xq_128, xmi_128), (xq_129, xmi_129), (xq_130, xmi_130), (xq_131, xmi_131), (xq_132, xmi_132), (xq_133, xmi_133), (xq_134, xmi_134), (xq_135, xmi_135), (xq_136, xmi_136), (xq_137, xmi_137), (xq_138, xmi_138), (xq_139, xmi_139), (xq_140, xmi_140), (xq_141, xmi_141), (xq_142, xmi_142), (xq_143, xmi_143), (xq_144, xmi_144), (xq_145, xmi_145), (xq_146, xmi_146), (xq_147, xmi_147), (xq_148, xmi_148), (xq_149, xmi_149), (xq_150, xmi_150), (xq_151, xmi_151), (xq_152, xmi_152), (xq_153, xmi_153), (xq_154, xmi_154), (xq_155, xmi_155), (xq_156, xmi_156), (xq_157, xmi_157), (xq_158, xmi_158), (xq_159, xmi_159), (xq_160, xmi_160), (xq_161, xmi_161), (xq_162, xmi_162), (xq_163, xmi_163), (xq_164, xmi_164), (xq_165, xmi_165), (xq_166, xmi_166), (xq_167, xmi_167), (xq_168, xmi_168), (xq_169, xmi_169), (xq_170, xmi_170), (xq_171, xmi_171), (xq_172, xmi_172), (xq_173, xmi_173), (xq_174, xmi_174), (xq_175, xmi_175), (xq_176, xmi_176), (xq_177, xmi_177), (xq_178, xmi_178), (xq_179, xmi_179), (xq_180, xmi_180), (xq_181, xmi_181), (xq_182, xmi_182), (xq_183, xmi_183), (xq_184, xmi_184), (xq_185, xmi_185), (xq_186, xmi_186), (xq_187, xmi_187), (xq_188, xmi_188), (xq_189, xmi_189), (xq_190, xmi_190), (xq_191, xmi_191), (xq_192, xmi_192), (xq_193, xmi_193), (xq_194, xmi_194), (xq_195, xmi_195), (xq_196, xmi_196)]
set_option maxRecDepth 100000 in
theorem xQM_ok : ∀ q ∈ xQM, (q.1.all fun r => xoki q.2 r.1 r.2) = true := List.forall_mem_cons.mpr ⟨xk_0, List.forall_mem_cons.mpr ⟨xk_1, List.forall_mem_cons.mpr ⟨xk_2, List.forall_mem_cons.mpr ⟨xk_3, List.forall_mem_cons.mpr ⟨xk_4, List.forall_mem_cons.mpr ⟨xk_5, List.forall_mem_cons.mpr ⟨xk_6, List.forall_mem_cons.mpr ⟨xk_7, List.forall_mem_cons.mpr ⟨xk_8, List.forall_mem_cons.mpr ⟨xk_9, List.forall_mem_cons.mpr ⟨xk_10, List.forall_mem_cons.mpr ⟨xk_11, List.forall_mem_cons.mpr ⟨xk_12, List.forall_mem_cons.mpr ⟨xk_13, List.forall_mem_cons.mpr ⟨xk_14, List.forall_mem_cons.mpr ⟨xk_15, List.forall_mem_cons.mpr ⟨xk_16, List.forall_mem_cons.mpr ⟨xk_17, List.forall_mem_cons.mpr ⟨xk_18, List.forall_mem_cons.mpr ⟨xk_19, List.forall_mem_cons.mpr ⟨xk_20, List.forall_mem_cons.mpr ⟨xk_21, List.forall_mem_cons.mpr ⟨xk_22, List.forall_mem_cons.mpr ⟨xk_23, List.forall_mem_cons.mpr ⟨xk_24, List.forall_mem_cons.mpr ⟨xk_25, List.forall_mem_cons.mpr ⟨xk_26, List.forall_mem_cons.mpr ⟨xk_27, List.forall_mem_cons.mpr ⟨xk_28, List.forall_mem_cons.mpr ⟨xk_29, List.forall_mem_cons.mpr ⟨xk_30, List.forall_mem_cons.mpr ⟨xk_31, List.forall_mem_cons.mpr ⟨xk_32, List.forall_mem_cons.mpr ⟨xk_33, List.forall_mem_cons.mpr ⟨xk_34, List.forall_mem_cons.mpr ⟨xk_35, List.forall_mem_cons.mpr ⟨xk_36, List.forall_mem_cons.mpr ⟨xk_37, List.forall_mem_cons.mpr ⟨xk_38, List.forall_mem_cons.mpr ⟨xk_39, List.forall_mem_cons.mpr ⟨xk_40, List.forall_mem_cons.mpr ⟨xk_41, List.forall_mem_cons.mpr ⟨xk_42, List.forall_mem_cons.mpr ⟨xk_43, List.forall_mem_cons.mpr ⟨xk_44, List.forall_mem_cons.mpr ⟨xk_45, List.forall_mem_cons.mpr ⟨xk_46, List.forall_mem_cons.mpr ⟨xk_47, List.forall_mem_cons.mpr ⟨xk_48, List.forall_mem_cons.mpr ⟨xk_49, List.forall_mem_cons.mpr ⟨xk_50, List.forall_mem_cons.mpr ⟨xk_51, List.forall_mem_cons.mpr ⟨xk_52, List.forall_mem_cons.mpr ⟨xk_53, List.forall_mem_cons.mpr ⟨xk_54, List.forall_mem_cons.mpr ⟨xk_55, List.forall_mem_cons.mpr ⟨xk_56, List.forall_mem_cons.mpr ⟨xk_57, List.forall_mem_cons.mpr ⟨xk_58, List.forall_mem_cons.mpr ⟨xk_59, List.forall_mem_cons.mpr ⟨xk_60, List.forall_mem_cons.mpr ⟨xk_61, List.forall_mem_cons.mpr ⟨xk_62, List.forall_mem_cons.mpr ⟨xk_63, List.forall_mem_cons.mpr ⟨xk_64, List.forall_mem_cons.mpr ⟨xk_65, List.forall_mem_cons.mpr ⟨xk_66, List.forall_mem_cons.mpr ⟨xk_67, List.forall_mem_cons.mpr ⟨xk_68, List.forall_mem_cons.mpr ⟨xk_69, List.forall_mem_cons.mpr ⟨xk_70, List.forall_mem_cons.mpr ⟨xk_71, List.forall_mem_cons.mpr ⟨xk_72, List.forall_mem_cons.mpr ⟨xk_73, List.forall_mem_cons.mpr ⟨xk_74, List.forall_mem_cons.mpr ⟨xk_75, List.forall_mem_cons.mpr ⟨xk_76, List.forall_mem_cons.mpr ⟨xk_77, List.forall_mem_cons.mpr ⟨xk_78, List.forall_mem_cons.mpr ⟨xk_79, List.forall_mem_cons.mpr ⟨xk_80, List.forall_mem_cons.mpr ⟨xk_81, List.forall_mem_cons.mpr ⟨xk_82, List.forall_mem_cons.mpr ⟨xk_83, List.forall_mem_cons.mpr ⟨xk_84, List.forall_mem_cons.mpr ⟨xk_85, List.forall_mem_cons.mpr ⟨xk_86, List.forall_mem_cons.mpr ⟨xk_87, List.forall_mem_cons.mpr ⟨xk_88, List.forall_mem_cons.mpr ⟨xk_89, List.forall_mem_cons.mpr ⟨xk_90, List.forall_mem_cons.mpr ⟨xk_91, List.forall_mem_cons.mpr ⟨xk_92, List.forall_mem_cons.mpr ⟨xk_93, List.forall_mem_cons.mpr ⟨xk_94, List.forall_mem_cons.mpr ⟨xk_95, List.forall_mem_cons.mpr ⟨xk_96, List.forall_mem_cons.mpr ⟨xk_97, List.forall_mem_cons.mpr ⟨xk_98, List.forall_mem_cons.mpr ⟨xk_99, List.forall_mem_cons.mpr ⟨xk_100, List.forall_mem_cons.mpr ⟨xk_101, List.forall_mem_cons.mpr ⟨xk_102, List.forall_mem_cons.mpr ⟨xk_103, List.forall_mem_cons.mpr ⟨xk_104, List.forall_mem_cons.mpr ⟨xk_105, List.forall_mem_cons.mpr ⟨xk_106, List.forall_mem_cons.mpr ⟨xk_107, List.forall_mem_cons.mpr ⟨xk_108, List.forall_mem_cons.mpr ⟨xk_109, List.forall_mem_cons.mpr ⟨xk_110, List.forall_mem_cons.mpr ⟨xk_111, List.forall_mem_cons.mpr ⟨xk_112, List.forall_mem_cons.mpr ⟨xk_113, List.forall_mem_cons.mpr ⟨xk_114, List.forall_mem_cons.mpr ⟨xk_115, List.forall_mem_cons.mpr ⟨xk_116, List.forall_mem_cons.mpr ⟨xk_117, List.forall_mem_cons.mpr ⟨xk_118, List.forall_mem_cons.mpr ⟨xk_119, List.forall_mem_cons.mpr ⟨xk_120, List.forall_mem_cons.mpr ⟨xk_121, List.forall_mem_cons.mpr ⟨xk_122, List.forall_mem_cons.mpr ⟨xk_123, List.forall_mem_cons.mpr ⟨xk_124, List.forall_mem_cons.mpr ⟨xk_125, List.forall_mem_cons.mpr ⟨xk_126, List.forall_mem_cons.mpr ⟨xk_127, List.forall_mem_cons.mpr ⟨xk_128, List.forall_mem_cons.mpr ⟨xk_129, List.forall_mem_cons.mpr ⟨xk_130, List.forall_mem_cons.mpr ⟨xk_131, List.forall_mem_cons.mpr ⟨xk_132, List.forall_mem_cons.mpr ⟨xk_133, List.forall_mem_cons.mpr ⟨xk_134, List.forall_mem_cons.mpr ⟨xk_135, List.forall_mem_cons.mpr ⟨xk_136, List.forall_mem_cons.mpr ⟨xk_137, List.forall_mem_cons.mpr ⟨xk_138, List.forall_mem_cons.mpr ⟨xk_139, List.forall_mem_cons.mpr ⟨xk_140, List.forall_mem_cons.mpr ⟨xk_141, List.forall_mem_cons.mpr ⟨xk_142, List.forall_mem_cons.mpr ⟨xk_143, List.forall_mem_cons.mpr ⟨xk_144, List.forall_mem_cons.mpr ⟨xk_145, List.forall_mem_cons.mpr ⟨xk_146, List.forall_mem_cons.mpr ⟨xk_147, List.forall_mem_cons.mpr ⟨xk_148, List.forall_mem_cons.mpr ⟨xk_149, List.forall_mem_cons.mpr ⟨xk_150, List.forall_mem_cons.mpr ⟨xk_151, List.forall_mem_cons.mpr ⟨xk_152, List.forall_mem_cons.mpr ⟨xk_153, List.forall_mem_cons.mpr ⟨xk_154, List.forall_mem_cons.mpr ⟨xk_155, List.forall_mem_cons.mpr ⟨xk_156, List.forall_mem_cons.mpr ⟨xk_157, List.forall_mem_cons.mpr ⟨xk_158, List.forall_mem_cons.mpr ⟨xk_159, List.forall_mem_cons.mpr ⟨xk_160, List.forall_mem_cons.mpr ⟨xk_161, List.forall_mem_cons.mpr ⟨xk_162, List.forall_mem_cons.mpr ⟨xk_163, List.forall_mem_cons.mpr ⟨xk_164, List.forall_mem_cons.mpr ⟨xk_165, List.forall_mem_cons.mpr ⟨xk_166, List.forall_mem_cons.mpr ⟨xk_167, List.forall_mem_cons.mpr ⟨xk_168, List.forall_mem_cons.mpr ⟨xk_169, List.forall_mem_cons.mpr ⟨xk_170, List.forall_mem_cons.mpr ⟨xk_171, List.forall_mem_cons.mpr ⟨xk_172, List.forall_mem_cons.mpr ⟨xk_173, List.forall_mem_cons.mpr ⟨xk_174, List.forall_mem_cons.mpr ⟨xk_175, List.forall_mem_cons.mpr ⟨xk_176, List.forall_mem_cons.mpr ⟨xk_177, List.forall_mem_cons.mpr ⟨xk_178, List.forall_mem_cons.mpr ⟨xk_179, List.forall_mem_cons.mpr ⟨xk_180, List.forall_mem_cons.mpr ⟨xk_181, List.forall_mem_cons.mpr ⟨xk_182, List.forall_mem_cons.mpr ⟨xk_183, List.forall_mem_cons.mpr ⟨xk_184, List.forall_mem_cons.mpr ⟨xk_185, List.forall_mem_cons.mpr ⟨xk_186, List.forall_mem_cons.mpr ⟨xk_187, List.forall_mem_cons.mpr ⟨xk_188, List.forall_mem_cons.mpr ⟨xk_189, List.forall_mem_cons.mpr ⟨xk_190, List.forall_mem_cons.mpr ⟨xk_191, List.forall_mem_cons.mpr ⟨xk_192, List.forall_mem_cons.mpr ⟨xk_193, List.forall_mem_cons.mpr ⟨xk_194, List.forall_mem_cons.mpr ⟨xk_195, List.forall_mem_cons.mpr ⟨xk_196, fun _ h => absurd h List.not_mem_nil⟩⟩⟩⟩⟩⟩⟩⟩⟩⟩⟩⟩⟩⟩⟩⟩⟩⟩⟩⟩⟩⟩⟩⟩⟩⟩⟩⟩⟩⟩⟩⟩⟩⟩⟩⟩⟩⟩⟩⟩⟩⟩⟩⟩⟩⟩⟩⟩⟩⟩⟩⟩⟩⟩⟩⟩⟩⟩⟩⟩⟩⟩⟩⟩⟩⟩⟩⟩⟩⟩⟩⟩⟩⟩⟩⟩⟩⟩⟩⟩⟩⟩⟩⟩⟩⟩⟩⟩⟩⟩⟩⟩⟩⟩⟩⟩⟩⟩⟩⟩⟩⟩⟩⟩⟩⟩⟩⟩⟩⟩⟩⟩⟩⟩⟩⟩⟩⟩⟩⟩⟩⟩⟩⟩⟩⟩⟩⟩⟩⟩⟩⟩⟩⟩⟩⟩⟩⟩⟩⟩⟩⟩⟩⟩⟩⟩⟩⟩⟩⟩⟩⟩⟩⟩⟩⟩⟩⟩⟩⟩⟩⟩⟩⟩⟩⟩⟩⟩⟩⟩⟩⟩⟩⟩⟩⟩⟩⟩⟩⟩⟩⟩⟩⟩⟩⟩⟩⟩⟩⟩⟩⟩⟩⟩⟩⟩⟩
set_option maxRecDepth 100000 in
theorem xin_ret : (xmis.all fun q => !(Nat.beq q.2.2.2.2.2.1 2) || decide (q.2.2.2.2.1 = none)) = true := by decide +kernel
set_option maxRecDepth 100000 in
theorem xQM_1 : xQM.map (fun q => q.1) = xQ := rfl
set_option maxRecDepth 100000 in
theorem xQM_2 : xQM.map (fun q => q.2) = xmis := rfl
set_option maxRecDepth 100000 in
theorem xQM_3 : xQM.map (fun q => q.2.2.2.2.1) = xmL := by decide +kernel
theorem xfind_mem : ∀ {l : List (Nat × xRow)} {pc : Nat} {w : xRow}, xfind l pc = some w → (pc, w) ∈ l
  | [], _, _, h => by cases h
  | q :: r, pc, w, h => by
    unfold xfind at h
    by_cases hb : Nat.beq q.1 pc = true
    · rw [hb, cond_true] at h
      have h1 := Nat.eq_of_beq_eq_true hb
      have h2 := Option.some.inj h
      rw [← h1, ← h2]
      exact List.mem_cons_self
    · rw [Bool.not_eq_true] at hb
      rw [hb, cond_false] at h
      exact List.mem_cons_of_mem _ (xfind_mem h)
/-- every row is checked -/
theorem xP_ok {m pc : Nat} {w : xRow} {q : xMI} (hq : xmis[m]? = some q) (h : xP m pc = some w) : xoki q pc w = true := by
  have h0 : (pc, w) ∈ xQ.getD m [] := xfind_mem h
  rw [← xQM_2, List.getElem?_map] at hq
  rw [← xQM_1, List.getD_eq_getElem?_getD, List.getElem?_map] at h0
  cases hm : xQM[m]? with
  | none => rw [hm] at hq; cases hq
  | some z =>
    rw [hm] at hq h0
    have h1 := xQM_ok z (List.mem_of_getElem? hm)
    have h2 := List.all_eq_true.mp h1 (pc, w) h0
    rw [← Option.some.inj hq]
    exact h2
theorem xN_ok {m : Nat} {q : xMI} (hq : xmis[m]? = some q) : xN m = q.2.2.2.1 := by
  unfold xN
  rw [← xQM_2, List.getElem?_map] at hq
  rw [← xQM_3, List.getD_eq_getElem?_getD, List.getElem?_map]
  cases hm : xQM[m]? with
  | none => rw [hm] at hq; cases hq
  | some z =>
    rw [hm] at hq
    rw [← Option.some.inj hq]
    rfl
