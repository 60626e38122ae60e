def RX0 : String := "SceneBoxes$Box"
def TX0 : u_T := fun k => match k with
  | _ => ("", "", "", false)
def tyX0 : Nat → FieldType := fun k => match k with
  | _ => .int
theorem nmX0 : ∀ a, a < 0 → ∀ b, b < 0 → a ≠ b → (TX0 a).2.1 ≠ (TX0 b).2.1 := by decide +kernel
theorem tyX0_ok : ∀ k, k < 0 → parseFieldDescriptor (TX0 k).2.2.1 = some (tyX0 k) := by decide +kernel
def RX1 : String := "SceneBoxes$Damage"
def TX1 : u_T := fun k => match k with
  | 0 => ("SceneBoxes$Damage", "boxes", "[I", true)
  | _ => ("SceneBoxes$Damage", "count", "I", false)
def tyX1 : Nat → FieldType := fun k => match k with
  | 0 => .array .int
  | _ => .int
theorem nmX1 : ∀ a, a < 2 → ∀ b, b < 2 → a ≠ b → (TX1 a).2.1 ≠ (TX1 b).2.1 := by decide +kernel
theorem tyX1_ok : ∀ k, k < 2 → parseFieldDescriptor (TX1 k).2.2.1 = some (tyX1 k) := by decide +kernel
def RX2 : String := "SceneBoxes$Orders"
def TX2 : u_T := fun k => match k with
  | 0 => ("SceneBoxes$Orders", "kinds", "[I", true)
  | 1 => ("SceneBoxes$Orders", "numbers", "[I", true)
  | 2 => ("SceneBoxes$Orders", "count", "I", false)
  | 3 => ("SceneBoxes$Orders", "used", "I", false)
  | 4 => ("SceneBoxes$Orders", "wanted", "I", false)
  | _ => ("SceneBoxes$Orders", "digits", "I", false)
def tyX2 : Nat → FieldType := fun k => match k with
  | 0 => .array .int
  | 1 => .array .int
  | 2 => .int
  | 3 => .int
  | 4 => .int
  | _ => .int
theorem nmX2 : ∀ a, a < 6 → ∀ b, b < 6 → a ≠ b → (TX2 a).2.1 ≠ (TX2 b).2.1 := by decide +kernel
theorem tyX2_ok : ∀ k, k < 6 → parseFieldDescriptor (TX2 k).2.2.1 = some (tyX2 k) := by decide +kernel
def RX3 : String := "SceneBoxes$Scene"
def TX3 : u_T := fun k => match k with
  | 0 => ("SceneBoxes$Scene", "index", "LSceneBoxes$Tree;", true)
  | 1 => ("SceneBoxes$Scene", "damaged", "LSceneBoxes$Damage;", true)
  | 2 => ("SceneBoxes$Scene", "boxes", "[I", true)
  | 3 => ("SceneBoxes$Scene", "levels", "[I", true)
  | _ => ("SceneBoxes$Scene", "clipOf", "[I", true)
def tyX3 : Nat → FieldType := fun k => match k with
  | 0 => .object "SceneBoxes$Tree"
  | 1 => .object "SceneBoxes$Damage"
  | 2 => .array .int
  | 3 => .array .int
  | _ => .array .int
theorem nmX3 : ∀ a, a < 5 → ∀ b, b < 5 → a ≠ b → (TX3 a).2.1 ≠ (TX3 b).2.1 := by decide +kernel
theorem tyX3_ok : ∀ k, k < 5 → parseFieldDescriptor (TX3 k).2.2.1 = some (tyX3 k) := by decide +kernel
def RX4 : String := "SceneBoxes$Tree"
def TX4 : u_T := fun k => match k with
  | 0 => ("SceneBoxes$Tree", "root", "I", false)
  | 1 => ("SceneBoxes$Tree", "boxes", "[I", true)
  | 2 => ("SceneBoxes$Tree", "parents", "[I", true)
  | 3 => ("SceneBoxes$Tree", "ranks", "[I", true)
  | 4 => ("SceneBoxes$Tree", "sizes", "[I", true)
  | 5 => ("SceneBoxes$Tree", "entries", "[I", true)
  | 6 => ("SceneBoxes$Tree", "others", "[I", true)
  | 7 => ("SceneBoxes$Tree", "line", "[I", true)
  | 8 => ("SceneBoxes$Tree", "noted", "[I", true)
  | _ => ("SceneBoxes$Tree", "notedCount", "I", false)
def tyX4 : Nat → FieldType := fun k => match k with
  | 0 => .int
  | 1 => .array .int
  | 2 => .array .int
  | 3 => .array .int
  | 4 => .array .int
  | 5 => .array .int
  | 6 => .array .int
  | 7 => .array .int
  | 8 => .array .int
  | _ => .int
theorem nmX4 : ∀ a, a < 10 → ∀ b, b < 10 → a ≠ b → (TX4 a).2.1 ≠ (TX4 b).2.1 := by decide +kernel
theorem tyX4_ok : ∀ k, k < 10 → parseFieldDescriptor (TX4 k).2.2.1 = some (tyX4 k) := by decide +kernel
def RX5 : String := "SceneBoxes"
def TX5 : u_T := fun k => match k with
  | 0 => ("SceneBoxes", "now", "LSceneBoxes$Scene;", false)
  | 1 => ("SceneBoxes", "spare", "LSceneBoxes$Scene;", false)
  | 2 => ("SceneBoxes", "past", "[LSceneBoxes$Scene;", true)
  | 3 => ("SceneBoxes", "undoable", "I", false)
  | 4 => ("SceneBoxes", "text", "[I", true)
  | 5 => ("SceneBoxes", "length", "I", false)
  | 6 => ("SceneBoxes", "orders", "LSceneBoxes$Orders;", true)
  | 7 => ("SceneBoxes", "bads", "I", false)
  | 8 => ("SceneBoxes", "nos", "I", false)
  | _ => ("SceneBoxes", "fulls", "I", false)
def tyX5 : Nat → FieldType := fun k => match k with
  | 0 => .object "SceneBoxes$Scene"
  | 1 => .object "SceneBoxes$Scene"
  | 2 => .array (.object "SceneBoxes$Scene")
  | 3 => .int
  | 4 => .array .int
  | 5 => .int
  | 6 => .object "SceneBoxes$Orders"
  | 7 => .int
  | 8 => .int
  | _ => .int
theorem nmX5 : ∀ a, a < 10 → ∀ b, b < 10 → a ≠ b → (TX5 a).2.1 ≠ (TX5 b).2.1 := by decide +kernel
theorem tyX5_ok : ∀ k, k < 10 → parseFieldDescriptor (TX5 k).2.2.1 = some (tyX5 k) := by decide +kernel
def RX6 : String := "SceneBoxesModel"
def TX6 : u_T := fun k => match k with
  | 0 => ("SceneBoxesModel", "now", "[I", true)
  | 1 => ("SceneBoxesModel", "aside", "[I", true)
  | 2 => ("SceneBoxesModel", "past", "[I", true)
  | 3 => ("SceneBoxesModel", "states", "I", false)
  | 4 => ("SceneBoxesModel", "refusals", "[I", true)
  | 5 => ("SceneBoxesModel", "text", "[I", true)
  | 6 => ("SceneBoxesModel", "bytes", "I", false)
  | 7 => ("SceneBoxesModel", "row", "[I", true)
  | 8 => ("SceneBoxesModel", "stack", "[I", true)
  | 9 => ("SceneBoxesModel", "stackDeep", "[I", true)
  | 10 => ("SceneBoxesModel", "walkedNode", "[I", true)
  | 11 => ("SceneBoxesModel", "walkedDeep", "[I", true)
  | 12 => ("SceneBoxesModel", "walkedNodes", "I", false)
  | 13 => ("SceneBoxesModel", "walkedShape", "[I", true)
  | 14 => ("SceneBoxesModel", "walkedShapes", "I", false)
  | 15 => ("SceneBoxesModel", "noted", "[I", true)
  | 16 => ("SceneBoxesModel", "notedMany", "I", false)
  | 17 => ("SceneBoxesModel", "viewBefore", "[I", true)
  | 18 => ("SceneBoxesModel", "isTouched", "[Z", true)
  | 19 => ("SceneBoxesModel", "letters", "[I", true)
  | 20 => ("SceneBoxesModel", "numbers", "[I", true)
  | 21 => ("SceneBoxesModel", "orders", "I", false)
  | 22 => ("SceneBoxesModel", "spot", "I", false)
  | 23 => ("SceneBoxesModel", "wrongAt", "I", false)
  | _ => ("SceneBoxesModel", "hash", "J", false)
def tyX6 : Nat → FieldType := fun k => match k with
  | 0 => .array .int
  | 1 => .array .int
  | 2 => .array .int
  | 3 => .int
  | 4 => .array .int
  | 5 => .array .int
  | 6 => .int
  | 7 => .array .int
  | 8 => .array .int
  | 9 => .array .int
  | 10 => .array .int
  | 11 => .array .int
  | 12 => .int
  | 13 => .array .int
  | 14 => .int
  | 15 => .array .int
  | 16 => .int
  | 17 => .array .int
  | 18 => .array .boolean
  | 19 => .array .int
  | 20 => .array .int
  | 21 => .int
  | 22 => .int
  | 23 => .int
  | _ => .long
theorem nmX6 : ∀ a, a < 25 → ∀ b, b < 25 → a ≠ b → (TX6 a).2.1 ≠ (TX6 b).2.1 := by decide +kernel
theorem tyX6_ok : ∀ k, k < 25 → parseFieldDescriptor (TX6 k).2.2.1 = some (tyX6 k) := by decide +kernel
abbrev vwCl : List vw_C := [(RX1, TX1, 2), (RX2, TX2, 6), (RX3, TX3, 5), (RX4, TX4, 10), (RX5, TX5, 10), (RX6, TX6, 25)]
def xcnm (c : Nat) : String := match c with
  | 0 => RX0
  | 1 => RX1
  | 2 => RX2
  | 3 => RX3
  | 4 => RX4
  | 5 => RX5
  | _ => RX6
/-- a method: the number of its place, its name, code, locals, what it answers, its kind (0 static, 1 of an object, 2 a maker), how many things it takes (its object too), its room: frames, words -/
abbrev xMI : Type := Nat × MethodName × ByteArray × Nat × Option FieldType × Nat × Nat × Nat × Nat
def xmi_0 : xMI := (0, ⟨RX0, "make", "(IIII)I"⟩, prog_2_method_2_code, 4, (some .int), 0, 4, 1, 23)
def xmi_1 : xMI := (0, ⟨RX0, "pack", "(IIII)I"⟩, prog_2_method_3_code, 4, (some .int), 0, 4, 0, 0)
def xmi_2 : xMI := (0, ⟨RX0, "left", "(I)I"⟩, prog_2_method_4_code, 1, (some .int), 0, 1, 0, 0)
def xmi_3 : xMI := (0, ⟨RX0, "top", "(I)I"⟩, prog_2_method_5_code, 1, (some .int), 0, 1, 0, 0)
def xmi_4 : xMI := (0, ⟨RX0, "right", "(I)I"⟩, prog_2_method_6_code, 1, (some .int), 0, 1, 0, 0)
def xmi_5 : xMI := (0, ⟨RX0, "bottom", "(I)I"⟩, prog_2_method_7_code, 1, (some .int), 0, 1, 0, 0)
def xmi_6 : xMI := (0, ⟨RX0, "value", "(II)I"⟩, prog_2_method_8_code, 2, (some .int), 0, 2, 1, 20)
def xmi_7 : xMI := (0, ⟨RX0, "area", "(I)I"⟩, prog_2_method_9_code, 1, (some .int), 0, 1, 1, 20)
def xmi_8 : xMI := (0, ⟨RX0, "union", "(II)I"⟩, prog_2_method_10_code, 2, (some .int), 0, 2, 1, 23)
def xmi_9 : xMI := (0, ⟨RX0, "meet", "(II)I"⟩, prog_2_method_11_code, 6, (some .int), 0, 2, 1, 23)
def xmi_10 : xMI := (0, ⟨RX0, "growth", "(II)I"⟩, prog_2_method_12_code, 2, (some .int), 0, 2, 2, 44)
def xmi_11 : xMI := (0, ⟨RX0, "waste", "(II)I"⟩, prog_2_method_13_code, 2, (some .int), 0, 2, 2, 44)
def xmi_12 : xMI := (0, ⟨RX0, "holds", "(III)Z"⟩, prog_2_method_14_code, 3, (some .boolean), 0, 3, 1, 20)
def xmi_13 : xMI := (0, ⟨RX0, "distance", "(III)I"⟩, prog_2_method_15_code, 5, (some .int), 0, 3, 1, 21)
def xmi_14 : xMI := (1, ⟨RX1, "<init>", "()V"⟩, prog_3_method_1_code, 1, none, 2, 1, 1, 21)
def xmi_15 : xMI := (1, ⟨RX1, "copyFrom", "(LSceneBoxes$Damage;)V"⟩, prog_3_method_2_code, 2, none, 1, 2, 1, 40)
def xmi_16 : xMI := (1, ⟨RX1, "empty", "()I"⟩, prog_3_method_3_code, 2, (some .int), 1, 1, 0, 0)
def xmi_17 : xMI := (1, ⟨RX1, "value", "(II)I"⟩, prog_3_method_4_code, 3, (some .int), 1, 3, 2, 41)
def xmi_18 : xMI := (1, ⟨RX1, "add", "(I)V"⟩, prog_3_method_5_code, 9, none, 1, 2, 3, 67)
def xmi_19 : xMI := (1, ⟨RX1, "digestOn", "(J)J"⟩, prog_3_method_6_code, 7, (some .long), 1, 2, 2, 41)
def xmi_20 : xMI := (1, ⟨RX1, "contains", "(I)Z"⟩, prog_3_method_7_code, 3, (some .boolean), 1, 2, 0, 0)
def xmi_21 : xMI := (1, ⟨RX1, "merge", "(II)V"⟩, prog_3_method_8_code, 4, none, 1, 3, 2, 44)
def xmi_22 : xMI := (2, ⟨RX2, "<init>", "()V"⟩, prog_4_method_1_code, 1, none, 2, 1, 1, 21)
def xmi_23 : xMI := (2, ⟨RX2, "numbersOf", "(I)I"⟩, prog_4_method_2_code, 1, (some .int), 0, 1, 0, 0)
def xmi_24 : xMI := (2, ⟨RX2, "number", "(I)I"⟩, prog_4_method_3_code, 2, (some .int), 1, 2, 0, 0)
def xmi_25 : xMI := (2, ⟨RX2, "read", "([II)I"⟩, prog_4_method_4_code, 4, (some .int), 1, 3, 3, 62)
def xmi_26 : xMI := (2, ⟨RX2, "takes", "(I)Z"⟩, prog_4_method_5_code, 2, (some .boolean), 1, 2, 2, 41)
def xmi_27 : xMI := (2, ⟨RX2, "takesDigit", "(I)Z"⟩, prog_4_method_6_code, 2, (some .boolean), 1, 2, 0, 0)
def xmi_28 : xMI := (2, ⟨RX2, "takesEnd", "()Z"⟩, prog_4_method_7_code, 1, (some .boolean), 1, 1, 0, 0)
def xmi_29 : xMI := (2, ⟨RX2, "takesLetter", "(I)Z"⟩, prog_4_method_8_code, 2, (some .boolean), 1, 2, 1, 20)
def xmi_30 : xMI := (3, ⟨RX3, "<init>", "()V"⟩, prog_5_method_1_code, 1, none, 2, 1, 2, 42)
def xmi_31 : xMI := (3, ⟨RX3, "copyFrom", "(LSceneBoxes$Scene;)V"⟩, prog_5_method_2_code, 2, none, 1, 2, 2, 61)
def xmi_32 : xMI := (3, ⟨RX3, "has", "(I)Z"⟩, prog_5_method_3_code, 2, (some .boolean), 1, 2, 0, 0)
def xmi_33 : xMI := (3, ⟨RX3, "shapeCount", "()I"⟩, prog_5_method_4_code, 3, (some .int), 1, 1, 0, 0)
def xmi_34 : xMI := (3, ⟨RX3, "addShape", "(IIIII)I"⟩, prog_5_method_5_code, 8, (some .int), 1, 6, 5, 119)
def xmi_35 : xMI := (3, ⟨RX3, "moveShape", "(IIIII)I"⟩, prog_5_method_6_code, 9, (some .int), 1, 6, 5, 119)
def xmi_36 : xMI := (3, ⟨RX3, "liftShape", "(II)I"⟩, prog_5_method_7_code, 5, (some .int), 1, 3, 5, 117)
def xmi_37 : xMI := (3, ⟨RX3, "clipShape", "(II)I"⟩, prog_5_method_8_code, 5, (some .int), 1, 3, 5, 117)
def xmi_38 : xMI := (3, ⟨RX3, "removeShape", "(I)I"⟩, prog_5_method_9_code, 3, (some .int), 1, 2, 5, 119)
def xmi_39 : xMI := (3, ⟨RX3, "shapeValue", "(II)I"⟩, prog_5_method_10_code, 3, (some .int), 1, 3, 2, 41)
def xmi_40 : xMI := (3, ⟨RX3, "viewValue", "(II)I"⟩, prog_5_method_11_code, 4, (some .int), 1, 3, 3, 72)
def xmi_41 : xMI := (3, ⟨RX3, "hitAt", "(III)I"⟩, prog_5_method_12_code, 6, (some .int), 1, 4, 3, 72)
def xmi_42 : xMI := (3, ⟨RX3, "countMeeting", "(I)I"⟩, prog_5_method_13_code, 4, (some .int), 1, 2, 2, 48)
def xmi_43 : xMI := (3, ⟨RX3, "nearestTo", "(II)I"⟩, prog_5_method_14_code, 7, (some .int), 1, 3, 2, 45)
def xmi_44 : xMI := (3, ⟨RX3, "digestShape", "(IJ)J"⟩, prog_5_method_15_code, 7, (some .long), 1, 3, 4, 95)
def xmi_45 : xMI := (3, ⟨RX3, "uppermost", "(I)I"⟩, prog_5_method_16_code, 4, (some .int), 1, 2, 0, 0)
def xmi_46 : xMI := (3, ⟨RX3, "clippedBy", "(I)I"⟩, prog_5_method_17_code, 4, (some .int), 1, 2, 0, 0)
def xmi_47 : xMI := (3, ⟨RX3, "viewOf", "(I)I"⟩, prog_5_method_18_code, 5, (some .int), 1, 2, 2, 48)
def xmi_48 : xMI := (3, ⟨RX3, "affectedBy", "(I)I"⟩, prog_5_method_19_code, 6, (some .int), 1, 2, 1, 21)
def xmi_49 : xMI := (3, ⟨RX3, "damageViews", "(I)V"⟩, prog_5_method_20_code, 3, none, 1, 2, 4, 95)
def xmi_50 : xMI := (4, ⟨RX4, "<init>", "()V"⟩, prog_6_method_1_code, 2, none, 2, 1, 1, 21)
def xmi_51 : xMI := (4, ⟨RX4, "copyFrom", "(LSceneBoxes$Tree;)V"⟩, prog_6_method_2_code, 2, none, 1, 2, 1, 40)
def xmi_52 : xMI := (4, ⟨RX4, "place", "(II)I"⟩, prog_6_method_3_code, 2, (some .int), 0, 2, 0, 0)
def xmi_53 : xMI := (4, ⟨RX4, "put", "(I)V"⟩, prog_6_method_4_code, 6, none, 1, 2, 4, 94)
def xmi_54 : xMI := (4, ⟨RX4, "takeOut", "(I)V"⟩, prog_6_method_5_code, 5, none, 1, 2, 3, 88)
def xmi_55 : xMI := (4, ⟨RX4, "lineUp", "(I)I"⟩, prog_6_method_6_code, 6, (some .int), 1, 2, 1, 40)
def xmi_56 : xMI := (4, ⟨RX4, "noteAll", "()I"⟩, prog_6_method_7_code, 1, (some .int), 1, 1, 2, 65)
def xmi_57 : xMI := (4, ⟨RX4, "summary", "(I)I"⟩, prog_6_method_8_code, 6, (some .int), 1, 2, 2, 40)
def xmi_58 : xMI := (4, ⟨RX4, "lineValue", "(II)I"⟩, prog_6_method_9_code, 4, (some .int), 1, 3, 2, 41)
def xmi_59 : xMI := (4, ⟨RX4, "digestOn", "(J)J"⟩, prog_6_method_10_code, 8, (some .long), 1, 2, 3, 65)
def xmi_60 : xMI := (4, ⟨RX4, "cheapestEntry", "(II)I"⟩, prog_6_method_11_code, 9, (some .int), 1, 3, 3, 65)
def xmi_61 : xMI := (4, ⟨RX4, "append", "(II)V"⟩, prog_6_method_12_code, 3, none, 1, 3, 2, 44)
def xmi_62 : xMI := (4, ⟨RX4, "cut", "(II)V"⟩, prog_6_method_13_code, 6, none, 1, 3, 1, 21)
def xmi_63 : xMI := (4, ⟨RX4, "fit", "(I)V"⟩, prog_6_method_14_code, 4, none, 1, 2, 2, 44)
def xmi_64 : xMI := (4, ⟨RX4, "newNode", "(I)I"⟩, prog_6_method_15_code, 3, (some .int), 1, 2, 1, 21)
def xmi_65 : xMI := (4, ⟨RX4, "empty", "(I)V"⟩, prog_6_method_16_code, 2, none, 1, 2, 0, 0)
def xmi_66 : xMI := (4, ⟨RX4, "worstPair", "(I)I"⟩, prog_6_method_17_code, 7, (some .int), 1, 2, 3, 65)
def xmi_67 : xMI := (4, ⟨RX4, "seed", "(III)V"⟩, prog_6_method_18_code, 9, none, 1, 4, 3, 66)
def xmi_68 : xMI := (4, ⟨RX4, "chosen", "(III)I"⟩, prog_6_method_19_code, 7, (some .int), 1, 4, 3, 65)
def xmi_69 : xMI := (4, ⟨RX4, "hang", "(II)V"⟩, prog_6_method_20_code, 5, none, 1, 3, 3, 66)
def xmi_70 : xMI := (4, ⟨RX4, "noteLine", "(I)V"⟩, prog_6_method_21_code, 4, none, 1, 2, 1, 40)
def xmi_71 : xMI := (4, ⟨RX4, "dissolve", "(I)V"⟩, prog_6_method_22_code, 4, none, 1, 2, 2, 65)
def xmi_72 : xMI := (4, ⟨RX4, "lowerRoot", "()V"⟩, prog_6_method_23_code, 3, none, 1, 1, 1, 21)
def xmi_73 : xMI := (5, ⟨RX5, "<init>", "()V"⟩, prog_1_method_1_code, 2, none, 2, 1, 3, 62)
def xmi_74 : xMI := (5, ⟨RX5, "shape", "(IIIII)I"⟩, prog_1_method_2_code, 6, (some .int), 1, 6, 6, 146)
def xmi_75 : xMI := (5, ⟨RX5, "moves", "(IIIII)I"⟩, prog_1_method_3_code, 6, (some .int), 1, 6, 6, 147)
def xmi_76 : xMI := (5, ⟨RX5, "lifts", "(II)I"⟩, prog_1_method_4_code, 3, (some .int), 1, 3, 6, 141)
def xmi_77 : xMI := (5, ⟨RX5, "clips", "(II)I"⟩, prog_1_method_5_code, 3, (some .int), 1, 3, 6, 141)
def xmi_78 : xMI := (5, ⟨RX5, "removes", "(I)I"⟩, prog_1_method_6_code, 2, (some .int), 1, 2, 6, 141)
def xmi_79 : xMI := (5, ⟨RX5, "drawn", "()I"⟩, prog_1_method_7_code, 1, (some .int), 1, 1, 3, 82)
def xmi_80 : xMI := (5, ⟨RX5, "of", "(II)I"⟩, prog_1_method_8_code, 3, (some .int), 1, 3, 3, 63)
def xmi_81 : xMI := (5, ⟨RX5, "view", "(II)I"⟩, prog_1_method_9_code, 3, (some .int), 1, 3, 4, 95)
def xmi_82 : xMI := (5, ⟨RX5, "hit", "(III)I"⟩, prog_1_method_10_code, 4, (some .int), 1, 4, 4, 97)
def xmi_83 : xMI := (5, ⟨RX5, "within", "(IIII)I"⟩, prog_1_method_11_code, 6, (some .int), 1, 5, 3, 71)
def xmi_84 : xMI := (5, ⟨RX5, "nearest", "(II)I"⟩, prog_1_method_12_code, 3, (some .int), 1, 3, 3, 71)
def xmi_85 : xMI := (5, ⟨RX5, "damage", "(II)I"⟩, prog_1_method_13_code, 3, (some .int), 1, 3, 3, 63)
def xmi_86 : xMI := (5, ⟨RX5, "tree", "(I)I"⟩, prog_1_method_14_code, 2, (some .int), 1, 2, 3, 65)
def xmi_87 : xMI := (5, ⟨RX5, "node", "(II)I"⟩, prog_1_method_15_code, 4, (some .int), 1, 3, 3, 65)
def xmi_88 : xMI := (5, ⟨RX5, "walk", "(I)I"⟩, prog_1_method_16_code, 3, (some .int), 1, 2, 3, 85)
def xmi_89 : xMI := (5, ⟨RX5, "type", "(I)I"⟩, prog_1_method_17_code, 2, (some .int), 1, 2, 1, 21)
def xmi_90 : xMI := (5, ⟨RX5, "clear", "()I"⟩, prog_1_method_18_code, 2, (some .int), 1, 1, 0, 0)
def xmi_91 : xMI := (5, ⟨RX5, "does", "()I"⟩, prog_1_method_19_code, 4, (some .int), 1, 1, 7, 174)
def xmi_92 : xMI := (5, ⟨RX5, "back", "()I"⟩, prog_1_method_20_code, 2, (some .int), 1, 1, 1, 21)
def xmi_93 : xMI := (5, ⟨RX5, "told", "(I)I"⟩, prog_1_method_21_code, 2, (some .int), 1, 2, 2, 43)
def xmi_94 : xMI := (5, ⟨RX5, "digest", "()J"⟩, prog_1_method_22_code, 5, (some .long), 1, 1, 5, 121)
def xmi_95 : xMI := (5, ⟨RX5, "inRange", "(II)Z"⟩, prog_1_method_23_code, 2, (some .boolean), 0, 2, 0, 0)
def xmi_96 : xMI := (5, ⟨RX5, "countOf", "(I)I"⟩, prog_1_method_24_code, 2, (some .int), 1, 2, 1, 22)
def xmi_97 : xMI := (5, ⟨RX5, "counted", "(I)I"⟩, prog_1_method_25_code, 2, (some .int), 1, 2, 0, 0)
def xmi_98 : xMI := (5, ⟨RX5, "settled", "(I)I"⟩, prog_1_method_26_code, 2, (some .int), 1, 2, 1, 22)
def xmi_99 : xMI := (5, ⟨RX5, "remember", "()V"⟩, prog_1_method_27_code, 3, none, 1, 1, 0, 0)
def xmi_100 : xMI := (5, ⟨RX5, "swapNowAndSpare", "()V"⟩, prog_1_method_28_code, 2, none, 1, 1, 0, 0)
def xmi_101 : xMI := (5, ⟨RX5, "carryOut", "(II)I"⟩, prog_1_method_29_code, 8, (some .int), 1, 3, 6, 147)
def xmi_102 : xMI := (6, ⟨RX6, "<init>", "()V"⟩, prog_8_method_1_code, 1, none, 2, 1, 1, 21)
def xmi_103 : xMI := (6, ⟨RX6, "in", "(III)Z"⟩, prog_8_method_3_code, 3, (some .boolean), 0, 3, 0, 0)
def xmi_104 : xMI := (6, ⟨RX6, "refuses", "(I)I"⟩, prog_8_method_4_code, 2, (some .int), 1, 2, 0, 0)
def xmi_105 : xMI := (6, ⟨RX6, "laysAside", "()V"⟩, prog_8_method_5_code, 2, none, 1, 1, 0, 0)
def xmi_106 : xMI := (6, ⟨RX6, "remembers", "()V"⟩, prog_8_method_6_code, 2, none, 1, 1, 0, 0)
def xmi_107 : xMI := (6, ⟨RX6, "back", "()I"⟩, prog_8_method_7_code, 2, (some .int), 1, 1, 1, 21)
def xmi_108 : xMI := (6, ⟨RX6, "finished", "(I)I"⟩, prog_8_method_8_code, 2, (some .int), 1, 2, 1, 21)
def xmi_109 : xMI := (6, ⟨RX6, "isBox", "(IIII)Z"⟩, prog_8_method_9_code, 4, (some .boolean), 0, 4, 1, 22)
def xmi_110 : xMI := (6, ⟨RX6, "box", "(IIII)I"⟩, prog_8_method_10_code, 4, (some .int), 0, 4, 0, 0)
def xmi_111 : xMI := (6, ⟨RX6, "side", "(II)I"⟩, prog_8_method_11_code, 2, (some .int), 0, 2, 0, 0)
def xmi_112 : xMI := (6, ⟨RX6, "area", "(I)I"⟩, prog_8_method_12_code, 1, (some .int), 0, 1, 1, 21)
def xmi_113 : xMI := (6, ⟨RX6, "lesser", "(II)I"⟩, prog_8_method_13_code, 2, (some .int), 0, 2, 0, 0)
def xmi_114 : xMI := (6, ⟨RX6, "greater", "(II)I"⟩, prog_8_method_14_code, 2, (some .int), 0, 2, 0, 0)
def xmi_115 : xMI := (6, ⟨RX6, "union", "(II)I"⟩, prog_8_method_15_code, 4, (some .int), 0, 2, 1, 23)
def xmi_116 : xMI := (6, ⟨RX6, "common", "(II)I"⟩, prog_8_method_16_code, 6, (some .int), 0, 2, 1, 23)
def xmi_117 : xMI := (6, ⟨RX6, "waste", "(II)I"⟩, prog_8_method_17_code, 2, (some .int), 0, 2, 2, 46)
def xmi_118 : xMI := (6, ⟨RX6, "partOf", "(III)I"⟩, prog_8_method_18_code, 3, (some .int), 0, 3, 1, 21)
def xmi_119 : xMI := (6, ⟨RX6, "of0", "(II)I"⟩, prog_8_method_19_code, 3, (some .int), 1, 3, 0, 0)
def xmi_120 : xMI := (6, ⟨RX6, "isShape", "(I)Z"⟩, prog_8_method_20_code, 2, (some .boolean), 1, 2, 1, 22)
def xmi_121 : xMI := (6, ⟨RX6, "shapes", "()I"⟩, prog_8_method_21_code, 3, (some .int), 1, 1, 1, 22)
def xmi_122 : xMI := (6, ⟨RX6, "viewOf", "(I)I"⟩, prog_8_method_22_code, 4, (some .int), 1, 2, 2, 48)
def xmi_123 : xMI := (6, ⟨RX6, "dependsOn", "(II)Z"⟩, prog_8_method_23_code, 4, (some .boolean), 1, 3, 1, 22)
def xmi_124 : xMI := (6, ⟨RX6, "clippedBy", "(I)I"⟩, prog_8_method_24_code, 4, (some .int), 1, 2, 2, 43)
def xmi_125 : xMI := (6, ⟨RX6, "isAbove", "(II)Z"⟩, prog_8_method_25_code, 3, (some .boolean), 1, 3, 1, 22)
def xmi_126 : xMI := (6, ⟨RX6, "nodePlace", "(I)I"⟩, prog_8_method_26_code, 1, (some .int), 0, 1, 0, 0)
def xmi_127 : xMI := (6, ⟨RX6, "ofNode", "(II)I"⟩, prog_8_method_27_code, 3, (some .int), 1, 3, 1, 20)
def xmi_128 : xMI := (6, ⟨RX6, "tellNode", "(III)V"⟩, prog_8_method_28_code, 4, none, 1, 4, 1, 20)
def xmi_129 : xMI := (6, ⟨RX6, "entryBox", "(II)I"⟩, prog_8_method_29_code, 3, (some .int), 1, 3, 2, 42)
def xmi_130 : xMI := (6, ⟨RX6, "boxes", "(I)V"⟩, prog_8_method_30_code, 4, none, 1, 2, 3, 64)
def xmi_131 : xMI := (6, ⟨RX6, "boxesUp", "(I)V"⟩, prog_8_method_31_code, 3, none, 1, 2, 4, 87)
def xmi_132 : xMI := (6, ⟨RX6, "newNode", "(I)I"⟩, prog_8_method_32_code, 3, (some .int), 1, 2, 2, 43)
def xmi_133 : xMI := (6, ⟨RX6, "inserts", "(III)V"⟩, prog_8_method_33_code, 6, none, 1, 4, 2, 43)
def xmi_134 : xMI := (6, ⟨RX6, "indexOf", "(II)I"⟩, prog_8_method_34_code, 4, (some .int), 1, 3, 2, 42)
def xmi_135 : xMI := (6, ⟨RX6, "takesOut", "(II)V"⟩, prog_8_method_35_code, 6, none, 1, 3, 3, 65)
def xmi_136 : xMI := (6, ⟨RX6, "growth", "(II)I"⟩, prog_8_method_36_code, 2, (some .int), 0, 2, 2, 46)
def xmi_137 : xMI := (6, ⟨RX6, "leafFor", "(I)I"⟩, prog_8_method_37_code, 8, (some .int), 1, 2, 3, 67)
def xmi_138 : xMI := (6, ⟨RX6, "seeds", "(I)I"⟩, prog_8_method_38_code, 7, (some .int), 1, 2, 3, 67)
def xmi_139 : xMI := (6, ⟨RX6, "comesToFirst", "(IIII)Z"⟩, prog_8_method_39_code, 8, (some .boolean), 1, 5, 3, 67)
def xmi_140 : xMI := (6, ⟨RX6, "halves", "(I)I"⟩, prog_8_method_40_code, 8, (some .int), 1, 2, 4, 94)
def xmi_141 : xMI := (6, ⟨RX6, "splitsUp", "(I)V"⟩, prog_8_method_41_code, 5, none, 1, 2, 5, 121)
def xmi_142 : xMI := (6, ⟨RX6, "shapeComes", "(I)V"⟩, prog_8_method_42_code, 3, none, 1, 2, 6, 145)
def xmi_143 : xMI := (6, ⟨RX6, "walks", "(I)V"⟩, prog_8_method_43_code, 7, none, 1, 2, 2, 42)
def xmi_144 : xMI := (6, ⟨RX6, "givesUp", "(I)V"⟩, prog_8_method_44_code, 3, none, 1, 2, 3, 68)
def xmi_145 : xMI := (6, ⟨RX6, "leafOf", "(I)I"⟩, prog_8_method_45_code, 5, (some .int), 1, 2, 3, 65)
def xmi_146 : xMI := (6, ⟨RX6, "shapeGoes", "(I)V"⟩, prog_8_method_46_code, 5, none, 1, 2, 7, 167)
def xmi_147 : xMI := (6, ⟨RX6, "looksAhead", "(I)V"⟩, prog_8_method_47_code, 3, none, 1, 2, 3, 71)
def xmi_148 : xMI := (6, ⟨RX6, "damageBox", "(I)I"⟩, prog_8_method_48_code, 2, (some .int), 1, 2, 0, 0)
def xmi_149 : xMI := (6, ⟨RX6, "merges", "()V"⟩, prog_8_method_49_code, 9, none, 1, 1, 3, 67)
def xmi_150 : xMI := (6, ⟨RX6, "damages", "(I)V"⟩, prog_8_method_50_code, 4, none, 1, 2, 4, 95)
def xmi_151 : xMI := (6, ⟨RX6, "looksBehind", "()V"⟩, prog_8_method_51_code, 2, none, 1, 1, 5, 118)
def xmi_152 : xMI := (6, ⟨RX6, "nodes", "()I"⟩, prog_8_method_52_code, 3, (some .int), 1, 1, 2, 42)
def xmi_153 : xMI := (6, ⟨RX6, "putShape", "(IIIII)I"⟩, prog_8_method_53_code, 8, (some .int), 1, 6, 7, 167)
def xmi_154 : xMI := (6, ⟨RX6, "putBox", "(IIIII)I"⟩, prog_8_method_54_code, 6, (some .int), 1, 6, 8, 191)
def xmi_155 : xMI := (6, ⟨RX6, "putHeight", "(II)I"⟩, prog_8_method_55_code, 4, (some .int), 1, 3, 6, 139)
def xmi_156 : xMI := (6, ⟨RX6, "putClip", "(II)I"⟩, prog_8_method_56_code, 4, (some .int), 1, 3, 6, 139)
def xmi_157 : xMI := (6, ⟨RX6, "putAway", "(I)I"⟩, prog_8_method_57_code, 3, (some .int), 1, 2, 8, 191)
def xmi_158 : xMI := (6, ⟨RX6, "putDrawn", "()I"⟩, prog_8_method_58_code, 2, (some .int), 1, 1, 0, 0)
def xmi_159 : xMI := (6, ⟨RX6, "shape", "(IIIII)I"⟩, prog_8_method_59_code, 6, (some .int), 1, 6, 8, 194)
def xmi_160 : xMI := (6, ⟨RX6, "moves", "(IIIII)I"⟩, prog_8_method_60_code, 6, (some .int), 1, 6, 9, 216)
def xmi_161 : xMI := (6, ⟨RX6, "lifts", "(II)I"⟩, prog_8_method_61_code, 3, (some .int), 1, 3, 7, 162)
def xmi_162 : xMI := (6, ⟨RX6, "clips", "(II)I"⟩, prog_8_method_62_code, 3, (some .int), 1, 3, 7, 162)
def xmi_163 : xMI := (6, ⟨RX6, "removes", "(I)I"⟩, prog_8_method_63_code, 2, (some .int), 1, 2, 9, 213)
def xmi_164 : xMI := (6, ⟨RX6, "drawn", "()I"⟩, prog_8_method_64_code, 1, (some .int), 1, 1, 2, 42)
def xmi_165 : xMI := (6, ⟨RX6, "told0", "(II)I"⟩, prog_8_method_65_code, 3, (some .int), 1, 3, 3, 66)
def xmi_166 : xMI := (6, ⟨RX6, "of", "(II)I"⟩, prog_8_method_66_code, 3, (some .int), 1, 3, 4, 88)
def xmi_167 : xMI := (6, ⟨RX6, "view", "(II)I"⟩, prog_8_method_67_code, 3, (some .int), 1, 3, 3, 71)
def xmi_168 : xMI := (6, ⟨RX6, "isPoint", "(II)Z"⟩, prog_8_method_68_code, 2, (some .boolean), 0, 2, 1, 22)
def xmi_169 : xMI := (6, ⟨RX6, "has", "(III)Z"⟩, prog_8_method_69_code, 3, (some .boolean), 0, 3, 1, 22)
def xmi_170 : xMI := (6, ⟨RX6, "isHit", "(III)Z"⟩, prog_8_method_70_code, 4, (some .boolean), 1, 4, 3, 71)
def xmi_171 : xMI := (6, ⟨RX6, "hit", "(III)I"⟩, prog_8_method_71_code, 7, (some .int), 1, 4, 4, 94)
def xmi_172 : xMI := (6, ⟨RX6, "within", "(IIII)I"⟩, prog_8_method_72_code, 7, (some .int), 1, 5, 2, 48)
def xmi_173 : xMI := (6, ⟨RX6, "off", "(III)I"⟩, prog_8_method_73_code, 3, (some .int), 0, 3, 0, 0)
def xmi_174 : xMI := (6, ⟨RX6, "farOf", "(III)I"⟩, prog_8_method_74_code, 7, (some .int), 1, 4, 1, 22)
def xmi_175 : xMI := (6, ⟨RX6, "nearest", "(II)I"⟩, prog_8_method_75_code, 6, (some .int), 1, 3, 2, 48)
def xmi_176 : xMI := (6, ⟨RX6, "damage", "(II)I"⟩, prog_8_method_76_code, 3, (some .int), 1, 3, 2, 43)
def xmi_177 : xMI := (6, ⟨RX6, "treeOf", "(I)I"⟩, prog_8_method_77_code, 6, (some .int), 1, 2, 3, 68)
def xmi_178 : xMI := (6, ⟨RX6, "tree", "(I)I"⟩, prog_8_method_78_code, 2, (some .int), 1, 2, 4, 93)
def xmi_179 : xMI := (6, ⟨RX6, "walkedOf", "(II)I"⟩, prog_8_method_79_code, 4, (some .int), 1, 3, 2, 43)
def xmi_180 : xMI := (6, ⟨RX6, "node", "(II)I"⟩, prog_8_method_80_code, 3, (some .int), 1, 3, 3, 68)
def xmi_181 : xMI := (6, ⟨RX6, "walk", "(I)I"⟩, prog_8_method_81_code, 2, (some .int), 1, 2, 3, 68)
def xmi_182 : xMI := (6, ⟨RX6, "type", "(I)I"⟩, prog_8_method_82_code, 2, (some .int), 1, 2, 1, 22)
def xmi_183 : xMI := (6, ⟨RX6, "clear", "()I"⟩, prog_8_method_83_code, 2, (some .int), 1, 1, 0, 0)
def xmi_184 : xMI := (6, ⟨RX6, "isAt", "(II)Z"⟩, prog_8_method_84_code, 3, (some .boolean), 1, 3, 1, 22)
def xmi_185 : xMI := (6, ⟨RX6, "blanks", "()V"⟩, prog_8_method_85_code, 1, none, 1, 1, 2, 44)
def xmi_186 : xMI := (6, ⟨RX6, "fails", "()Z"⟩, prog_8_method_86_code, 1, (some .boolean), 1, 1, 0, 0)
def xmi_187 : xMI := (6, ⟨RX6, "manyOf", "(I)I"⟩, prog_8_method_87_code, 1, (some .int), 0, 1, 0, 0)
def xmi_188 : xMI := (6, ⟨RX6, "takesNumber", "(I)Z"⟩, prog_8_method_88_code, 4, (some .boolean), 1, 2, 3, 64)
def xmi_189 : xMI := (6, ⟨RX6, "takesOrder", "()Z"⟩, prog_8_method_89_code, 4, (some .boolean), 1, 1, 4, 87)
def xmi_190 : xMI := (6, ⟨RX6, "isRead", "()Z"⟩, prog_8_method_90_code, 1, (some .boolean), 1, 1, 5, 110)
def xmi_191 : xMI := (6, ⟨RX6, "doneOne", "(I)I"⟩, prog_8_method_91_code, 7, (some .int), 1, 2, 9, 216)
def xmi_192 : xMI := (6, ⟨RX6, "does", "()I"⟩, prog_8_method_92_code, 3, (some .int), 1, 1, 10, 242)
def xmi_193 : xMI := (6, ⟨RX6, "toldOf", "(I)I"⟩, prog_8_method_93_code, 2, (some .int), 1, 2, 2, 44)
def xmi_194 : xMI := (6, ⟨RX6, "told", "(I)I"⟩, prog_8_method_94_code, 2, (some .int), 1, 2, 3, 65)
def xmi_195 : xMI := (6, ⟨RX6, "mix", "(J)V"⟩, prog_8_method_95_code, 3, none, 1, 2, 0, 0)
def xmi_196 : xMI := (6, ⟨RX6, "digest", "()J"⟩, prog_8_method_96_code, 4, (some .long), 1, 1, 4, 93)
def xmis : List xMI := [xmi_0, xmi_1, xmi_2, xmi_3, xmi_4, xmi_5, xmi_6, xmi_7, xmi_8, xmi_9, xmi_10, xmi_11, xmi_12, xmi_13, xmi_14, xmi_15, xmi_16, xmi_17, xmi_18, xmi_19, xmi_20, xmi_21, xmi_22, xmi_23, xmi_24, xmi_25, xmi_26, xmi_27, xmi_28, xmi_29, xmi_30, xmi_31, xmi_32, xmi_33, xmi_34, xmi_35, xmi_36, xmi_37, xmi_38, xmi_39, xmi_40, xmi_41, xmi_42, xmi_43, xmi_44, xmi_45, xmi_46, xmi_47, xmi_48, xmi_49, xmi_50, xmi_51, xmi_52, xmi_53, xmi_54, xmi_55, xmi_56, xmi_57, xmi_58, xmi_59, xmi_60, xmi_61, xmi_62, xmi_63, xmi_64, xmi_65, xmi_66, xmi_67, xmi_68, xmi_69, xmi_70, xmi_71, xmi_72, xmi_73, xmi_74, xmi_75, xmi_76, xmi_77, xmi_78, xmi_79, xmi_80, xmi_81, xmi_82, xmi_83, xmi_84, xmi_85, xmi_86, xmi_87, xmi_88, xmi_89, xmi_90, xmi_91, xmi_92, xmi_93, xmi_94, xmi_95, xmi_96, xmi_97, xmi_98, xmi_99, xmi_100, xmi_101, xmi_102, xmi_103, xmi_104, xmi_105, xmi_106, xmi_107, xmi_108, xmi_109, xmi_110, xmi_111, xmi_112, xmi_113, xmi_114, xmi_115, xmi_116, xmi_117, xmi_118, xmi_119, xmi_120, xmi_121, xmi_122, xmi_123, xmi_124, xmi_125, xmi_126, xmi_127, xmi_128, xmi_129, xmi_130, xmi_131, xmi_132, xmi_133, xmi_134, xmi_135, xmi_136, xmi_137, xmi_138, xmi_139, xmi_140, xmi_141, xmi_142, xmi_143, xmi_144, xmi_145, xmi_146, xmi_147, xmi_148, xmi_149, xmi_150, xmi_151, xmi_152, xmi_153, xmi_154, xmi_155, xmi_156, xmi_157, xmi_158, xmi_159, xmi_160, xmi_161, xmi_162, xmi_163, xmi_164, xmi_165, xmi_166, xmi_167, xmi_168, xmi_169, xmi_170, xmi_171, xmi_172, xmi_173, xmi_174, xmi_175, xmi_176, xmi_177, xmi_178, xmi_179, xmi_180, xmi_181, xmi_182, xmi_183, xmi_184, xmi_185, xmi_186, xmi_187, xmi_188, xmi_189, xmi_190, xmi_191, xmi_192, xmi_193, xmi_194, xmi_195, xmi_196]
def xtb : List Cond := lw_tbl.filter goodWord
theorem xtb_in {w : Cond} (h : w ∈ lw_tbl) (hg : goodWord w = true) : w ∈ xtb := List.mem_filter.mpr ⟨h, hg⟩
/-- what the tables say of a method -/
def xmOK (q : xMI) : Prop := Cond.code q.2.1 q.2.2.1 q.2.2.2.1 q.2.2.2.2.1 ∈ xtb ∧ Cond.initialized q.2.1.cls ∈ xtb ∧ q.2.1.cls = xcnm q.1 ∧ plainName q.2.1.cls = true ∧ (q.2.1.cls ≠ "java/lang/invoke/MethodHandle" ∧ q.2.1.cls ≠ "java/lang/invoke/VarHandle") ∧
  (parseMethodDescriptor q.2.1.desc).map (fun d => d.parameters.length) = some (q.2.2.2.2.2.2.1 - (if q.2.2.2.2.2.1 = 0 then 0 else 1)) ∧
  (q.2.2.2.2.2.1 = 0 → Cond.static q.2.1 ∈ xtb) ∧ (q.2.2.2.2.2.1 ≠ 0 → Cond.instanceMethod q.2.1 ∈ xtb) ∧ (q.2.2.2.2.2.1 = 1 → Cond.selects q.2.1.cls q.2.1 q.2.1 ∈ xtb) ∧ (q.2.2.2.2.2.1 = 2 → q.2.1.name = "<init>") ∧ (q.2.2.2.2.2.1 ≠ 0 → 0 < q.2.2.2.2.2.2.1)
theorem xpn_0 : plainName RX0 = true := by decide +kernel
theorem xph_0 : RX0 ≠ "java/lang/invoke/MethodHandle" ∧ RX0 ≠ "java/lang/invoke/VarHandle" := by decide +kernel
set_option maxRecDepth 100000 in
theorem xpi_0 : Cond.initialized RX0 ∈ xtb := xtb_in (List.mem_of_getElem? (i := 94) rfl) rfl
theorem xpn_1 : plainName RX1 = true := by decide +kernel
theorem xph_1 : RX1 ≠ "java/lang/invoke/MethodHandle" ∧ RX1 ≠ "java/lang/invoke/VarHandle" := by decide +kernel
set_option maxRecDepth 100000 in
theorem xpi_1 : Cond.initialized RX1 ∈ xtb := xtb_in (List.mem_of_getElem? (i := 90) rfl) rfl
theorem xpn_2 : plainName RX2 = true := by decide +kernel
theorem xph_2 : RX2 ≠ "java/lang/invoke/MethodHandle" ∧ RX2 ≠ "java/lang/invoke/VarHandle" := by decide +kernel
set_option maxRecDepth 100000 in
theorem xpi_2 : Cond.initialized RX2 ∈ xtb := xtb_in (List.mem_of_getElem? (i := 91) rfl) rfl
theorem xpn_3 : plainName RX3 = true := by decide +kernel
theorem xph_3 : RX3 ≠ "java/lang/invoke/MethodHandle" ∧ RX3 ≠ "java/lang/invoke/VarHandle" := by decide +kernel
set_option maxRecDepth 100000 in
theorem xpi_3 : Cond.initialized RX3 ∈ xtb := xtb_in (List.mem_of_getElem? (i := 88) rfl) rfl
theorem xpn_4 : plainName RX4 = true := by decide +kernel
theorem xph_4 : RX4 ≠ "java/lang/invoke/MethodHandle" ∧ RX4 ≠ "java/lang/invoke/VarHandle" := by decide +kernel
set_option maxRecDepth 100000 in
theorem xpi_4 : Cond.initialized RX4 ∈ xtb := xtb_in (List.mem_of_getElem? (i := 89) rfl) rfl
theorem xpn_5 : plainName RX5 = true := by decide +kernel
theorem xph_5 : RX5 ≠ "java/lang/invoke/MethodHandle" ∧ RX5 ≠ "java/lang/invoke/VarHandle" := by decide +kernel
set_option maxRecDepth 100000 in
theorem xpi_5 : Cond.initialized RX5 ∈ xtb := xtb_in (List.mem_of_getElem? (i := 87) rfl) rfl
theorem xpn_6 : plainName RX6 = true := by decide +kernel
theorem xph_6 : RX6 ≠ "java/lang/invoke/MethodHandle" ∧ RX6 ≠ "java/lang/invoke/VarHandle" := by decide +kernel
set_option maxRecDepth 100000 in
theorem xpi_6 : Cond.initialized RX6 ∈ xtb := xtb_in (List.mem_of_getElem? (i := 92) rfl) rfl
set_option maxRecDepth 100000 in
theorem xmo_0 : xmOK xmi_0 := ⟨xtb_in (List.mem_of_getElem? (i := 271) rfl) rfl, xpi_0, rfl, xpn_0, xph_0, by decide +kernel, (fun _ => xtb_in (List.mem_of_getElem? (i := 270) rfl) rfl), (fun h => absurd rfl h), (fun h => absurd h (by decide)), (fun h => absurd h (by decide)), fun h => by first | exact absurd rfl h | decide⟩
set_option maxRecDepth 100000 in
theorem xmo_1 : xmOK xmi_1 := ⟨xtb_in (List.mem_of_getElem? (i := 274) rfl) rfl, xpi_0, rfl, xpn_0, xph_0, by decide +kernel, (fun _ => xtb_in (List.mem_of_getElem? (i := 273) rfl) rfl), (fun h => absurd rfl h), (fun h => absurd h (by decide)), (fun h => absurd h (by decide)), fun h => by first | exact absurd rfl h | decide⟩
set_option maxRecDepth 100000 in
theorem xmo_2 : xmOK xmi_2 := ⟨xtb_in (List.mem_of_getElem? (i := 294) rfl) rfl, xpi_0, rfl, xpn_0, xph_0, by decide +kernel, (fun _ => xtb_in (List.mem_of_getElem? (i := 293) rfl) rfl), (fun h => absurd rfl h), (fun h => absurd h (by decide)), (fun h => absurd h (by decide)), fun h => by first | exact absurd rfl h | decide⟩
set_option maxRecDepth 100000 in
theorem xmo_3 : xmOK xmi_3 := ⟨xtb_in (List.mem_of_getElem? (i := 300) rfl) rfl, xpi_0, rfl, xpn_0, xph_0, by decide +kernel, (fun _ => xtb_in (List.mem_of_getElem? (i := 299) rfl) rfl), (fun h => absurd rfl h), (fun h => absurd h (by decide)), (fun h => absurd h (by decide)), fun h => by first | exact absurd rfl h | decide⟩
set_option maxRecDepth 100000 in
theorem xmo_4 : xmOK xmi_4 := ⟨xtb_in (List.mem_of_getElem? (i := 303) rfl) rfl, xpi_0, rfl, xpn_0, xph_0, by decide +kernel, (fun _ => xtb_in (List.mem_of_getElem? (i := 302) rfl) rfl), (fun h => absurd rfl h), (fun h => absurd h (by decide)), (fun h => absurd h (by decide)), fun h => by first | exact absurd rfl h | decide⟩
set_option maxRecDepth 100000 in
theorem xmo_5 : xmOK xmi_5 := ⟨xtb_in (List.mem_of_getElem? (i := 309) rfl) rfl, xpi_0, rfl, xpn_0, xph_0, by decide +kernel, (fun _ => xtb_in (List.mem_of_getElem? (i := 308) rfl) rfl), (fun h => absurd rfl h), (fun h => absurd h (by decide)), (fun h => absurd h (by decide)), fun h => by first | exact absurd rfl h | decide⟩
set_option maxRecDepth 100000 in
theorem xmo_6 : xmOK xmi_6 := ⟨xtb_in (List.mem_of_getElem? (i := 485) rfl) rfl, xpi_0, rfl, xpn_0, xph_0, by decide +kernel, (fun _ => xtb_in (List.mem_of_getElem? (i := 484) rfl) rfl), (fun h => absurd rfl h), (fun h => absurd h (by decide)), (fun h => absurd h (by decide)), fun h => by first | exact absurd rfl h | decide⟩
set_option maxRecDepth 100000 in
theorem xmo_7 : xmOK xmi_7 := ⟨xtb_in (List.mem_of_getElem? (i := 312) rfl) rfl, xpi_0, rfl, xpn_0, xph_0, by decide +kernel, (fun _ => xtb_in (List.mem_of_getElem? (i := 311) rfl) rfl), (fun h => absurd rfl h), (fun h => absurd h (by decide)), (fun h => absurd h (by decide)), fun h => by first | exact absurd rfl h | decide⟩
set_option maxRecDepth 100000 in
theorem xmo_8 : xmOK xmi_8 := ⟨xtb_in (List.mem_of_getElem? (i := 291) rfl) rfl, xpi_0, rfl, xpn_0, xph_0, by decide +kernel, (fun _ => xtb_in (List.mem_of_getElem? (i := 290) rfl) rfl), (fun h => absurd rfl h), (fun h => absurd h (by decide)), (fun h => absurd h (by decide)), fun h => by first | exact absurd rfl h | decide⟩
set_option maxRecDepth 100000 in
theorem xmo_9 : xmOK xmi_9 := ⟨xtb_in (List.mem_of_getElem? (i := 402) rfl) rfl, xpi_0, rfl, xpn_0, xph_0, by decide +kernel, (fun _ => xtb_in (List.mem_of_getElem? (i := 401) rfl) rfl), (fun h => absurd rfl h), (fun h => absurd h (by decide)), (fun h => absurd h (by decide)), fun h => by first | exact absurd rfl h | decide⟩
set_option maxRecDepth 100000 in
theorem xmo_10 : xmOK xmi_10 := ⟨xtb_in (List.mem_of_getElem? (i := 288) rfl) rfl, xpi_0, rfl, xpn_0, xph_0, by decide +kernel, (fun _ => xtb_in (List.mem_of_getElem? (i := 287) rfl) rfl), (fun h => absurd rfl h), (fun h => absurd h (by decide)), (fun h => absurd h (by decide)), fun h => by first | exact absurd rfl h | decide⟩
set_option maxRecDepth 100000 in
theorem xmo_11 : xmOK xmi_11 := ⟨xtb_in (List.mem_of_getElem? (i := 337) rfl) rfl, xpi_0, rfl, xpn_0, xph_0, by decide +kernel, (fun _ => xtb_in (List.mem_of_getElem? (i := 336) rfl) rfl), (fun h => absurd rfl h), (fun h => absurd h (by decide)), (fun h => absurd h (by decide)), fun h => by first | exact absurd rfl h | decide⟩
set_option maxRecDepth 100000 in
theorem xmo_12 : xmOK xmi_12 := ⟨xtb_in (List.mem_of_getElem? (i := 504) rfl) rfl, xpi_0, rfl, xpn_0, xph_0, by decide +kernel, (fun _ => xtb_in (List.mem_of_getElem? (i := 503) rfl) rfl), (fun h => absurd rfl h), (fun h => absurd h (by decide)), (fun h => absurd h (by decide)), fun h => by first | exact absurd rfl h | decide⟩
set_option maxRecDepth 100000 in
theorem xmo_13 : xmOK xmi_13 := ⟨xtb_in (List.mem_of_getElem? (i := 528) rfl) rfl, xpi_0, rfl, xpn_0, xph_0, by decide +kernel, (fun _ => xtb_in (List.mem_of_getElem? (i := 527) rfl) rfl), (fun h => absurd rfl h), (fun h => absurd h (by decide)), (fun h => absurd h (by decide)), fun h => by first | exact absurd rfl h | decide⟩
set_option maxRecDepth 100000 in
theorem xmo_14 : xmOK xmi_14 := ⟨xtb_in (List.mem_of_getElem? (i := 157) rfl) rfl, xpi_1, rfl, xpn_1, xph_1, by decide +kernel, (fun h => absurd h (by decide)), (fun _ => xtb_in (List.mem_of_getElem? (i := 156) rfl) rfl), (fun h => absurd h (by decide)), (fun _ => rfl), fun h => by first | exact absurd rfl h | decide⟩
set_option maxRecDepth 100000 in
theorem xmo_15 : xmOK xmi_15 := ⟨xtb_in (List.mem_of_getElem? (i := 262) rfl) rfl, xpi_1, rfl, xpn_1, xph_1, by decide +kernel, (fun h => absurd h (by decide)), (fun _ => xtb_in (List.mem_of_getElem? (i := 260) rfl) rfl), (fun _ => xtb_in (List.mem_of_getElem? (i := 261) rfl) rfl), (fun h => absurd h (by decide)), fun h => by first | exact absurd rfl h | decide⟩
set_option maxRecDepth 100000 in
theorem xmo_16 : xmOK xmi_16 := ⟨xtb_in (List.mem_of_getElem? (i := 470) rfl) rfl, xpi_1, rfl, xpn_1, xph_1, by decide +kernel, (fun h => absurd h (by decide)), (fun _ => xtb_in (List.mem_of_getElem? (i := 468) rfl) rfl), (fun _ => xtb_in (List.mem_of_getElem? (i := 469) rfl) rfl), (fun h => absurd h (by decide)), fun h => by first | exact absurd rfl h | decide⟩
set_option maxRecDepth 100000 in
theorem xmo_17 : xmOK xmi_17 := ⟨xtb_in (List.mem_of_getElem? (i := 536) rfl) rfl, xpi_1, rfl, xpn_1, xph_1, by decide +kernel, (fun h => absurd h (by decide)), (fun _ => xtb_in (List.mem_of_getElem? (i := 534) rfl) rfl), (fun _ => xtb_in (List.mem_of_getElem? (i := 535) rfl) rfl), (fun h => absurd h (by decide)), fun h => by first | exact absurd rfl h | decide⟩
set_option maxRecDepth 100000 in
theorem xmo_18 : xmOK xmi_18 := ⟨xtb_in (List.mem_of_getElem? (i := 353) rfl) rfl, xpi_1, rfl, xpn_1, xph_1, by decide +kernel, (fun h => absurd h (by decide)), (fun _ => xtb_in (List.mem_of_getElem? (i := 351) rfl) rfl), (fun _ => xtb_in (List.mem_of_getElem? (i := 352) rfl) rfl), (fun h => absurd h (by decide)), fun h => by first | exact absurd rfl h | decide⟩
set_option maxRecDepth 100000 in
theorem xmo_19 : xmOK xmi_19 := ⟨xtb_in (List.mem_of_getElem? (i := 645) rfl) rfl, xpi_1, rfl, xpn_1, xph_1, by decide +kernel, (fun h => absurd h (by decide)), (fun _ => xtb_in (List.mem_of_getElem? (i := 643) rfl) rfl), (fun _ => xtb_in (List.mem_of_getElem? (i := 644) rfl) rfl), (fun h => absurd h (by decide)), fun h => by first | exact absurd rfl h | decide⟩
set_option maxRecDepth 100000 in
theorem xmo_20 : xmOK xmi_20 := ⟨xtb_in (List.mem_of_getElem? (i := 357) rfl) rfl, xpi_1, rfl, xpn_1, xph_1, by decide +kernel, (fun h => absurd h (by decide)), (fun _ => xtb_in (List.mem_of_getElem? (i := 356) rfl) rfl), (fun _ => xtb_in (List.mem_of_getElem? (i := 9) rfl) rfl), (fun h => absurd h (by decide)), fun h => by first | exact absurd rfl h | decide⟩
set_option maxRecDepth 100000 in
theorem xmo_21 : xmOK xmi_21 := ⟨xtb_in (List.mem_of_getElem? (i := 362) rfl) rfl, xpi_1, rfl, xpn_1, xph_1, by decide +kernel, (fun h => absurd h (by decide)), (fun _ => xtb_in (List.mem_of_getElem? (i := 361) rfl) rfl), (fun _ => xtb_in (List.mem_of_getElem? (i := 10) rfl) rfl), (fun h => absurd h (by decide)), fun h => by first | exact absurd rfl h | decide⟩
set_option maxRecDepth 100000 in
theorem xmo_22 : xmOK xmi_22 := ⟨xtb_in (List.mem_of_getElem? (i := 190) rfl) rfl, xpi_2, rfl, xpn_2, xph_2, by decide +kernel, (fun h => absurd h (by decide)), (fun _ => xtb_in (List.mem_of_getElem? (i := 189) rfl) rfl), (fun h => absurd h (by decide)), (fun _ => rfl), fun h => by first | exact absurd rfl h | decide⟩
set_option maxRecDepth 100000 in
theorem xmo_23 : xmOK xmi_23 := ⟨xtb_in (List.mem_of_getElem? (i := 595) rfl) rfl, xpi_2, rfl, xpn_2, xph_2, by decide +kernel, (fun _ => xtb_in (List.mem_of_getElem? (i := 594) rfl) rfl), (fun h => absurd rfl h), (fun h => absurd h (by decide)), (fun h => absurd h (by decide)), fun h => by first | exact absurd rfl h | decide⟩
set_option maxRecDepth 100000 in
theorem xmo_24 : xmOK xmi_24 := ⟨xtb_in (List.mem_of_getElem? (i := 603) rfl) rfl, xpi_2, rfl, xpn_2, xph_2, by decide +kernel, (fun h => absurd h (by decide)), (fun _ => xtb_in (List.mem_of_getElem? (i := 601) rfl) rfl), (fun _ => xtb_in (List.mem_of_getElem? (i := 602) rfl) rfl), (fun h => absurd h (by decide)), fun h => by first | exact absurd rfl h | decide⟩
set_option maxRecDepth 100000 in
theorem xmo_25 : xmOK xmi_25 := ⟨xtb_in (List.mem_of_getElem? (i := 576) rfl) rfl, xpi_2, rfl, xpn_2, xph_2, by decide +kernel, (fun h => absurd h (by decide)), (fun _ => xtb_in (List.mem_of_getElem? (i := 574) rfl) rfl), (fun _ => xtb_in (List.mem_of_getElem? (i := 575) rfl) rfl), (fun h => absurd h (by decide)), fun h => by first | exact absurd rfl h | decide⟩
set_option maxRecDepth 100000 in
theorem xmo_26 : xmOK xmi_26 := ⟨xtb_in (List.mem_of_getElem? (i := 580) rfl) rfl, xpi_2, rfl, xpn_2, xph_2, by decide +kernel, (fun h => absurd h (by decide)), (fun _ => xtb_in (List.mem_of_getElem? (i := 579) rfl) rfl), (fun _ => xtb_in (List.mem_of_getElem? (i := 23) rfl) rfl), (fun h => absurd h (by decide)), fun h => by first | exact absurd rfl h | decide⟩
set_option maxRecDepth 100000 in
theorem xmo_27 : xmOK xmi_27 := ⟨xtb_in (List.mem_of_getElem? (i := 584) rfl) rfl, xpi_2, rfl, xpn_2, xph_2, by decide +kernel, (fun h => absurd h (by decide)), (fun _ => xtb_in (List.mem_of_getElem? (i := 583) rfl) rfl), (fun _ => xtb_in (List.mem_of_getElem? (i := 24) rfl) rfl), (fun h => absurd h (by decide)), fun h => by first | exact absurd rfl h | decide⟩
set_option maxRecDepth 100000 in
theorem xmo_28 : xmOK xmi_28 := ⟨xtb_in (List.mem_of_getElem? (i := 588) rfl) rfl, xpi_2, rfl, xpn_2, xph_2, by decide +kernel, (fun h => absurd h (by decide)), (fun _ => xtb_in (List.mem_of_getElem? (i := 587) rfl) rfl), (fun _ => xtb_in (List.mem_of_getElem? (i := 25) rfl) rfl), (fun h => absurd h (by decide)), fun h => by first | exact absurd rfl h | decide⟩
set_option maxRecDepth 100000 in
theorem xmo_29 : xmOK xmi_29 := ⟨xtb_in (List.mem_of_getElem? (i := 592) rfl) rfl, xpi_2, rfl, xpn_2, xph_2, by decide +kernel, (fun h => absurd h (by decide)), (fun _ => xtb_in (List.mem_of_getElem? (i := 591) rfl) rfl), (fun _ => xtb_in (List.mem_of_getElem? (i := 26) rfl) rfl), (fun h => absurd h (by decide)), fun h => by first | exact absurd rfl h | decide⟩
set_option maxRecDepth 100000 in
theorem xmo_30 : xmOK xmi_30 := ⟨xtb_in (List.mem_of_getElem? (i := 108) rfl) rfl, xpi_3, rfl, xpn_3, xph_3, by decide +kernel, (fun h => absurd h (by decide)), (fun _ => xtb_in (List.mem_of_getElem? (i := 107) rfl) rfl), (fun h => absurd h (by decide)), (fun _ => rfl), fun h => by first | exact absurd rfl h | decide⟩
set_option maxRecDepth 100000 in
theorem xmo_31 : xmOK xmi_31 := ⟨xtb_in (List.mem_of_getElem? (i := 251) rfl) rfl, xpi_3, rfl, xpn_3, xph_3, by decide +kernel, (fun h => absurd h (by decide)), (fun _ => xtb_in (List.mem_of_getElem? (i := 249) rfl) rfl), (fun _ => xtb_in (List.mem_of_getElem? (i := 250) rfl) rfl), (fun h => absurd h (by decide)), fun h => by first | exact absurd rfl h | decide⟩
set_option maxRecDepth 100000 in
theorem xmo_32 : xmOK xmi_32 := ⟨xtb_in (List.mem_of_getElem? (i := 387) rfl) rfl, xpi_3, rfl, xpn_3, xph_3, by decide +kernel, (fun h => absurd h (by decide)), (fun _ => xtb_in (List.mem_of_getElem? (i := 385) rfl) rfl), (fun _ => xtb_in (List.mem_of_getElem? (i := 386) rfl) rfl), (fun h => absurd h (by decide)), fun h => by first | exact absurd rfl h | decide⟩
set_option maxRecDepth 100000 in
theorem xmo_33 : xmOK xmi_33 := ⟨xtb_in (List.mem_of_getElem? (i := 462) rfl) rfl, xpi_3, rfl, xpn_3, xph_3, by decide +kernel, (fun h => absurd h (by decide)), (fun _ => xtb_in (List.mem_of_getElem? (i := 460) rfl) rfl), (fun _ => xtb_in (List.mem_of_getElem? (i := 461) rfl) rfl), (fun h => absurd h (by decide)), fun h => by first | exact absurd rfl h | decide⟩
set_option maxRecDepth 100000 in
theorem xmo_34 : xmOK xmi_34 := ⟨xtb_in (List.mem_of_getElem? (i := 268) rfl) rfl, xpi_3, rfl, xpn_3, xph_3, by decide +kernel, (fun h => absurd h (by decide)), (fun _ => xtb_in (List.mem_of_getElem? (i := 266) rfl) rfl), (fun _ => xtb_in (List.mem_of_getElem? (i := 267) rfl) rfl), (fun h => absurd h (by decide)), fun h => by first | exact absurd rfl h | decide⟩
set_option maxRecDepth 100000 in
theorem xmo_35 : xmOK xmi_35 := ⟨xtb_in (List.mem_of_getElem? (i := 383) rfl) rfl, xpi_3, rfl, xpn_3, xph_3, by decide +kernel, (fun h => absurd h (by decide)), (fun _ => xtb_in (List.mem_of_getElem? (i := 381) rfl) rfl), (fun _ => xtb_in (List.mem_of_getElem? (i := 382) rfl) rfl), (fun h => absurd h (by decide)), fun h => by first | exact absurd rfl h | decide⟩
set_option maxRecDepth 100000 in
theorem xmo_36 : xmOK xmi_36 := ⟨xtb_in (List.mem_of_getElem? (i := 438) rfl) rfl, xpi_3, rfl, xpn_3, xph_3, by decide +kernel, (fun h => absurd h (by decide)), (fun _ => xtb_in (List.mem_of_getElem? (i := 436) rfl) rfl), (fun _ => xtb_in (List.mem_of_getElem? (i := 437) rfl) rfl), (fun h => absurd h (by decide)), fun h => by first | exact absurd rfl h | decide⟩
set_option maxRecDepth 100000 in
theorem xmo_37 : xmOK xmi_37 := ⟨xtb_in (List.mem_of_getElem? (i := 446) rfl) rfl, xpi_3, rfl, xpn_3, xph_3, by decide +kernel, (fun h => absurd h (by decide)), (fun _ => xtb_in (List.mem_of_getElem? (i := 444) rfl) rfl), (fun _ => xtb_in (List.mem_of_getElem? (i := 445) rfl) rfl), (fun h => absurd h (by decide)), fun h => by first | exact absurd rfl h | decide⟩
set_option maxRecDepth 100000 in
theorem xmo_38 : xmOK xmi_38 := ⟨xtb_in (List.mem_of_getElem? (i := 454) rfl) rfl, xpi_3, rfl, xpn_3, xph_3, by decide +kernel, (fun h => absurd h (by decide)), (fun _ => xtb_in (List.mem_of_getElem? (i := 452) rfl) rfl), (fun _ => xtb_in (List.mem_of_getElem? (i := 453) rfl) rfl), (fun h => absurd h (by decide)), fun h => by first | exact absurd rfl h | decide⟩
set_option maxRecDepth 100000 in
theorem xmo_39 : xmOK xmi_39 := ⟨xtb_in (List.mem_of_getElem? (i := 482) rfl) rfl, xpi_3, rfl, xpn_3, xph_3, by decide +kernel, (fun h => absurd h (by decide)), (fun _ => xtb_in (List.mem_of_getElem? (i := 480) rfl) rfl), (fun _ => xtb_in (List.mem_of_getElem? (i := 481) rfl) rfl), (fun h => absurd h (by decide)), fun h => by first | exact absurd rfl h | decide⟩
set_option maxRecDepth 100000 in
theorem xmo_40 : xmOK xmi_40 := ⟨xtb_in (List.mem_of_getElem? (i := 493) rfl) rfl, xpi_3, rfl, xpn_3, xph_3, by decide +kernel, (fun h => absurd h (by decide)), (fun _ => xtb_in (List.mem_of_getElem? (i := 491) rfl) rfl), (fun _ => xtb_in (List.mem_of_getElem? (i := 492) rfl) rfl), (fun h => absurd h (by decide)), fun h => by first | exact absurd rfl h | decide⟩
set_option maxRecDepth 100000 in
theorem xmo_41 : xmOK xmi_41 := ⟨xtb_in (List.mem_of_getElem? (i := 501) rfl) rfl, xpi_3, rfl, xpn_3, xph_3, by decide +kernel, (fun h => absurd h (by decide)), (fun _ => xtb_in (List.mem_of_getElem? (i := 499) rfl) rfl), (fun _ => xtb_in (List.mem_of_getElem? (i := 500) rfl) rfl), (fun h => absurd h (by decide)), fun h => by first | exact absurd rfl h | decide⟩
set_option maxRecDepth 100000 in
theorem xmo_42 : xmOK xmi_42 := ⟨xtb_in (List.mem_of_getElem? (i := 517) rfl) rfl, xpi_3, rfl, xpn_3, xph_3, by decide +kernel, (fun h => absurd h (by decide)), (fun _ => xtb_in (List.mem_of_getElem? (i := 515) rfl) rfl), (fun _ => xtb_in (List.mem_of_getElem? (i := 516) rfl) rfl), (fun h => absurd h (by decide)), fun h => by first | exact absurd rfl h | decide⟩
set_option maxRecDepth 100000 in
theorem xmo_43 : xmOK xmi_43 := ⟨xtb_in (List.mem_of_getElem? (i := 525) rfl) rfl, xpi_3, rfl, xpn_3, xph_3, by decide +kernel, (fun h => absurd h (by decide)), (fun _ => xtb_in (List.mem_of_getElem? (i := 523) rfl) rfl), (fun _ => xtb_in (List.mem_of_getElem? (i := 524) rfl) rfl), (fun h => absurd h (by decide)), fun h => by first | exact absurd rfl h | decide⟩
set_option maxRecDepth 100000 in
theorem xmo_44 : xmOK xmi_44 := ⟨xtb_in (List.mem_of_getElem? (i := 638) rfl) rfl, xpi_3, rfl, xpn_3, xph_3, by decide +kernel, (fun h => absurd h (by decide)), (fun _ => xtb_in (List.mem_of_getElem? (i := 636) rfl) rfl), (fun _ => xtb_in (List.mem_of_getElem? (i := 637) rfl) rfl), (fun h => absurd h (by decide)), fun h => by first | exact absurd rfl h | decide⟩
set_option maxRecDepth 100000 in
theorem xmo_45 : xmOK xmi_45 := ⟨xtb_in (List.mem_of_getElem? (i := 508) rfl) rfl, xpi_3, rfl, xpn_3, xph_3, by decide +kernel, (fun h => absurd h (by decide)), (fun _ => xtb_in (List.mem_of_getElem? (i := 507) rfl) rfl), (fun _ => xtb_in (List.mem_of_getElem? (i := 22) rfl) rfl), (fun h => absurd h (by decide)), fun h => by first | exact absurd rfl h | decide⟩
set_option maxRecDepth 100000 in
theorem xmo_46 : xmOK xmi_46 := ⟨xtb_in (List.mem_of_getElem? (i := 458) rfl) rfl, xpi_3, rfl, xpn_3, xph_3, by decide +kernel, (fun h => absurd h (by decide)), (fun _ => xtb_in (List.mem_of_getElem? (i := 457) rfl) rfl), (fun _ => xtb_in (List.mem_of_getElem? (i := 21) rfl) rfl), (fun h => absurd h (by decide)), fun h => by first | exact absurd rfl h | decide⟩
set_option maxRecDepth 100000 in
theorem xmo_47 : xmOK xmi_47 := ⟨xtb_in (List.mem_of_getElem? (i := 399) rfl) rfl, xpi_3, rfl, xpn_3, xph_3, by decide +kernel, (fun h => absurd h (by decide)), (fun _ => xtb_in (List.mem_of_getElem? (i := 398) rfl) rfl), (fun _ => xtb_in (List.mem_of_getElem? (i := 16) rfl) rfl), (fun h => absurd h (by decide)), fun h => by first | exact absurd rfl h | decide⟩
set_option maxRecDepth 100000 in
theorem xmo_48 : xmOK xmi_48 := ⟨xtb_in (List.mem_of_getElem? (i := 391) rfl) rfl, xpi_3, rfl, xpn_3, xph_3, by decide +kernel, (fun h => absurd h (by decide)), (fun _ => xtb_in (List.mem_of_getElem? (i := 390) rfl) rfl), (fun _ => xtb_in (List.mem_of_getElem? (i := 14) rfl) rfl), (fun h => absurd h (by decide)), fun h => by first | exact absurd rfl h | decide⟩
set_option maxRecDepth 100000 in
theorem xmo_49 : xmOK xmi_49 := ⟨xtb_in (List.mem_of_getElem? (i := 395) rfl) rfl, xpi_3, rfl, xpn_3, xph_3, by decide +kernel, (fun h => absurd h (by decide)), (fun _ => xtb_in (List.mem_of_getElem? (i := 394) rfl) rfl), (fun _ => xtb_in (List.mem_of_getElem? (i := 15) rfl) rfl), (fun h => absurd h (by decide)), fun h => by first | exact absurd rfl h | decide⟩
set_option maxRecDepth 100000 in
theorem xmo_50 : xmOK xmi_50 := ⟨xtb_in (List.mem_of_getElem? (i := 114) rfl) rfl, xpi_4, rfl, xpn_4, xph_4, by decide +kernel, (fun h => absurd h (by decide)), (fun _ => xtb_in (List.mem_of_getElem? (i := 113) rfl) rfl), (fun h => absurd h (by decide)), (fun _ => rfl), fun h => by first | exact absurd rfl h | decide⟩
set_option maxRecDepth 100000 in
theorem xmo_51 : xmOK xmi_51 := ⟨xtb_in (List.mem_of_getElem? (i := 255) rfl) rfl, xpi_4, rfl, xpn_4, xph_4, by decide +kernel, (fun h => absurd h (by decide)), (fun _ => xtb_in (List.mem_of_getElem? (i := 253) rfl) rfl), (fun _ => xtb_in (List.mem_of_getElem? (i := 254) rfl) rfl), (fun h => absurd h (by decide)), fun h => by first | exact absurd rfl h | decide⟩
set_option maxRecDepth 100000 in
theorem xmo_52 : xmOK xmi_52 := ⟨xtb_in (List.mem_of_getElem? (i := 285) rfl) rfl, xpi_4, rfl, xpn_4, xph_4, by decide +kernel, (fun _ => xtb_in (List.mem_of_getElem? (i := 284) rfl) rfl), (fun h => absurd rfl h), (fun h => absurd h (by decide)), (fun h => absurd h (by decide)), fun h => by first | exact absurd rfl h | decide⟩
set_option maxRecDepth 100000 in
theorem xmo_53 : xmOK xmi_53 := ⟨xtb_in (List.mem_of_getElem? (i := 278) rfl) rfl, xpi_4, rfl, xpn_4, xph_4, by decide +kernel, (fun h => absurd h (by decide)), (fun _ => xtb_in (List.mem_of_getElem? (i := 276) rfl) rfl), (fun _ => xtb_in (List.mem_of_getElem? (i := 277) rfl) rfl), (fun h => absurd h (by decide)), fun h => by first | exact absurd rfl h | decide⟩
set_option maxRecDepth 100000 in
theorem xmo_54 : xmOK xmi_54 := ⟨xtb_in (List.mem_of_getElem? (i := 406) rfl) rfl, xpi_4, rfl, xpn_4, xph_4, by decide +kernel, (fun h => absurd h (by decide)), (fun _ => xtb_in (List.mem_of_getElem? (i := 404) rfl) rfl), (fun _ => xtb_in (List.mem_of_getElem? (i := 405) rfl) rfl), (fun h => absurd h (by decide)), fun h => by first | exact absurd rfl h | decide⟩
set_option maxRecDepth 100000 in
theorem xmo_55 : xmOK xmi_55 := ⟨xtb_in (List.mem_of_getElem? (i := 418) rfl) rfl, xpi_4, rfl, xpn_4, xph_4, by decide +kernel, (fun h => absurd h (by decide)), (fun _ => xtb_in (List.mem_of_getElem? (i := 416) rfl) rfl), (fun _ => xtb_in (List.mem_of_getElem? (i := 417) rfl) rfl), (fun h => absurd h (by decide)), fun h => by first | exact absurd rfl h | decide⟩
set_option maxRecDepth 100000 in
theorem xmo_56 : xmOK xmi_56 := ⟨xtb_in (List.mem_of_getElem? (i := 560) rfl) rfl, xpi_4, rfl, xpn_4, xph_4, by decide +kernel, (fun h => absurd h (by decide)), (fun _ => xtb_in (List.mem_of_getElem? (i := 558) rfl) rfl), (fun _ => xtb_in (List.mem_of_getElem? (i := 559) rfl) rfl), (fun h => absurd h (by decide)), fun h => by first | exact absurd rfl h | decide⟩
set_option maxRecDepth 100000 in
theorem xmo_57 : xmOK xmi_57 := ⟨xtb_in (List.mem_of_getElem? (i := 430) rfl) rfl, xpi_4, rfl, xpn_4, xph_4, by decide +kernel, (fun h => absurd h (by decide)), (fun _ => xtb_in (List.mem_of_getElem? (i := 428) rfl) rfl), (fun _ => xtb_in (List.mem_of_getElem? (i := 429) rfl) rfl), (fun h => absurd h (by decide)), fun h => by first | exact absurd rfl h | decide⟩
set_option maxRecDepth 100000 in
theorem xmo_58 : xmOK xmi_58 := ⟨xtb_in (List.mem_of_getElem? (i := 551) rfl) rfl, xpi_4, rfl, xpn_4, xph_4, by decide +kernel, (fun h => absurd h (by decide)), (fun _ => xtb_in (List.mem_of_getElem? (i := 549) rfl) rfl), (fun _ => xtb_in (List.mem_of_getElem? (i := 550) rfl) rfl), (fun h => absurd h (by decide)), fun h => by first | exact absurd rfl h | decide⟩
set_option maxRecDepth 100000 in
theorem xmo_59 : xmOK xmi_59 := ⟨xtb_in (List.mem_of_getElem? (i := 631) rfl) rfl, xpi_4, rfl, xpn_4, xph_4, by decide +kernel, (fun h => absurd h (by decide)), (fun _ => xtb_in (List.mem_of_getElem? (i := 629) rfl) rfl), (fun _ => xtb_in (List.mem_of_getElem? (i := 630) rfl) rfl), (fun h => absurd h (by decide)), fun h => by first | exact absurd rfl h | decide⟩
set_option maxRecDepth 100000 in
theorem xmo_60 : xmOK xmi_60 := ⟨xtb_in (List.mem_of_getElem? (i := 282) rfl) rfl, xpi_4, rfl, xpn_4, xph_4, by decide +kernel, (fun h => absurd h (by decide)), (fun _ => xtb_in (List.mem_of_getElem? (i := 281) rfl) rfl), (fun _ => xtb_in (List.mem_of_getElem? (i := 0) rfl) rfl), (fun h => absurd h (by decide)), fun h => by first | exact absurd rfl h | decide⟩
set_option maxRecDepth 100000 in
theorem xmo_61 : xmOK xmi_61 := ⟨xtb_in (List.mem_of_getElem? (i := 317) rfl) rfl, xpi_4, rfl, xpn_4, xph_4, by decide +kernel, (fun h => absurd h (by decide)), (fun _ => xtb_in (List.mem_of_getElem? (i := 316) rfl) rfl), (fun _ => xtb_in (List.mem_of_getElem? (i := 1) rfl) rfl), (fun h => absurd h (by decide)), fun h => by first | exact absurd rfl h | decide⟩
set_option maxRecDepth 100000 in
theorem xmo_62 : xmOK xmi_62 := ⟨xtb_in (List.mem_of_getElem? (i := 410) rfl) rfl, xpi_4, rfl, xpn_4, xph_4, by decide +kernel, (fun h => absurd h (by decide)), (fun _ => xtb_in (List.mem_of_getElem? (i := 409) rfl) rfl), (fun _ => xtb_in (List.mem_of_getElem? (i := 17) rfl) rfl), (fun h => absurd h (by decide)), fun h => by first | exact absurd rfl h | decide⟩
set_option maxRecDepth 100000 in
theorem xmo_63 : xmOK xmi_63 := ⟨xtb_in (List.mem_of_getElem? (i := 322) rfl) rfl, xpi_4, rfl, xpn_4, xph_4, by decide +kernel, (fun h => absurd h (by decide)), (fun _ => xtb_in (List.mem_of_getElem? (i := 321) rfl) rfl), (fun _ => xtb_in (List.mem_of_getElem? (i := 2) rfl) rfl), (fun h => absurd h (by decide)), fun h => by first | exact absurd rfl h | decide⟩
set_option maxRecDepth 100000 in
theorem xmo_64 : xmOK xmi_64 := ⟨xtb_in (List.mem_of_getElem? (i := 326) rfl) rfl, xpi_4, rfl, xpn_4, xph_4, by decide +kernel, (fun h => absurd h (by decide)), (fun _ => xtb_in (List.mem_of_getElem? (i := 325) rfl) rfl), (fun _ => xtb_in (List.mem_of_getElem? (i := 3) rfl) rfl), (fun h => absurd h (by decide)), fun h => by first | exact absurd rfl h | decide⟩
set_option maxRecDepth 100000 in
theorem xmo_65 : xmOK xmi_65 := ⟨xtb_in (List.mem_of_getElem? (i := 330) rfl) rfl, xpi_4, rfl, xpn_4, xph_4, by decide +kernel, (fun h => absurd h (by decide)), (fun _ => xtb_in (List.mem_of_getElem? (i := 329) rfl) rfl), (fun _ => xtb_in (List.mem_of_getElem? (i := 4) rfl) rfl), (fun h => absurd h (by decide)), fun h => by first | exact absurd rfl h | decide⟩
set_option maxRecDepth 100000 in
theorem xmo_66 : xmOK xmi_66 := ⟨xtb_in (List.mem_of_getElem? (i := 334) rfl) rfl, xpi_4, rfl, xpn_4, xph_4, by decide +kernel, (fun h => absurd h (by decide)), (fun _ => xtb_in (List.mem_of_getElem? (i := 333) rfl) rfl), (fun _ => xtb_in (List.mem_of_getElem? (i := 5) rfl) rfl), (fun h => absurd h (by decide)), fun h => by first | exact absurd rfl h | decide⟩
set_option maxRecDepth 100000 in
theorem xmo_67 : xmOK xmi_67 := ⟨xtb_in (List.mem_of_getElem? (i := 341) rfl) rfl, xpi_4, rfl, xpn_4, xph_4, by decide +kernel, (fun h => absurd h (by decide)), (fun _ => xtb_in (List.mem_of_getElem? (i := 340) rfl) rfl), (fun _ => xtb_in (List.mem_of_getElem? (i := 6) rfl) rfl), (fun h => absurd h (by decide)), fun h => by first | exact absurd rfl h | decide⟩
set_option maxRecDepth 100000 in
theorem xmo_68 : xmOK xmi_68 := ⟨xtb_in (List.mem_of_getElem? (i := 345) rfl) rfl, xpi_4, rfl, xpn_4, xph_4, by decide +kernel, (fun h => absurd h (by decide)), (fun _ => xtb_in (List.mem_of_getElem? (i := 344) rfl) rfl), (fun _ => xtb_in (List.mem_of_getElem? (i := 7) rfl) rfl), (fun h => absurd h (by decide)), fun h => by first | exact absurd rfl h | decide⟩
set_option maxRecDepth 100000 in
theorem xmo_69 : xmOK xmi_69 := ⟨xtb_in (List.mem_of_getElem? (i := 349) rfl) rfl, xpi_4, rfl, xpn_4, xph_4, by decide +kernel, (fun h => absurd h (by decide)), (fun _ => xtb_in (List.mem_of_getElem? (i := 348) rfl) rfl), (fun _ => xtb_in (List.mem_of_getElem? (i := 8) rfl) rfl), (fun h => absurd h (by decide)), fun h => by first | exact absurd rfl h | decide⟩
set_option maxRecDepth 100000 in
theorem xmo_70 : xmOK xmi_70 := ⟨xtb_in (List.mem_of_getElem? (i := 422) rfl) rfl, xpi_4, rfl, xpn_4, xph_4, by decide +kernel, (fun h => absurd h (by decide)), (fun _ => xtb_in (List.mem_of_getElem? (i := 421) rfl) rfl), (fun _ => xtb_in (List.mem_of_getElem? (i := 19) rfl) rfl), (fun h => absurd h (by decide)), fun h => by first | exact absurd rfl h | decide⟩
set_option maxRecDepth 100000 in
theorem xmo_71 : xmOK xmi_71 := ⟨xtb_in (List.mem_of_getElem? (i := 414) rfl) rfl, xpi_4, rfl, xpn_4, xph_4, by decide +kernel, (fun h => absurd h (by decide)), (fun _ => xtb_in (List.mem_of_getElem? (i := 413) rfl) rfl), (fun _ => xtb_in (List.mem_of_getElem? (i := 18) rfl) rfl), (fun h => absurd h (by decide)), fun h => by first | exact absurd rfl h | decide⟩
set_option maxRecDepth 100000 in
theorem xmo_72 : xmOK xmi_72 := ⟨xtb_in (List.mem_of_getElem? (i := 426) rfl) rfl, xpi_4, rfl, xpn_4, xph_4, by decide +kernel, (fun h => absurd h (by decide)), (fun _ => xtb_in (List.mem_of_getElem? (i := 425) rfl) rfl), (fun _ => xtb_in (List.mem_of_getElem? (i := 20) rfl) rfl), (fun h => absurd h (by decide)), fun h => by first | exact absurd rfl h | decide⟩
set_option maxRecDepth 100000 in
theorem xmo_73 : xmOK xmi_73 := ⟨xtb_in (List.mem_of_getElem? (i := 100) rfl) rfl, xpi_5, rfl, xpn_5, xph_5, by decide +kernel, (fun h => absurd h (by decide)), (fun _ => xtb_in (List.mem_of_getElem? (i := 99) rfl) rfl), (fun h => absurd h (by decide)), (fun _ => rfl), fun h => by first | exact absurd rfl h | decide⟩
set_option maxRecDepth 100000 in
theorem xmo_74 : xmOK xmi_74 := ⟨xtb_in (List.mem_of_getElem? (i := 247) rfl) rfl, xpi_5, rfl, xpn_5, xph_5, by decide +kernel, (fun h => absurd h (by decide)), (fun _ => xtb_in (List.mem_of_getElem? (i := 245) rfl) rfl), (fun _ => xtb_in (List.mem_of_getElem? (i := 246) rfl) rfl), (fun h => absurd h (by decide)), fun h => by first | exact absurd rfl h | decide⟩
set_option maxRecDepth 100000 in
theorem xmo_75 : xmOK xmi_75 := ⟨xtb_in (List.mem_of_getElem? (i := 379) rfl) rfl, xpi_5, rfl, xpn_5, xph_5, by decide +kernel, (fun h => absurd h (by decide)), (fun _ => xtb_in (List.mem_of_getElem? (i := 377) rfl) rfl), (fun _ => xtb_in (List.mem_of_getElem? (i := 378) rfl) rfl), (fun h => absurd h (by decide)), fun h => by first | exact absurd rfl h | decide⟩
set_option maxRecDepth 100000 in
theorem xmo_76 : xmOK xmi_76 := ⟨xtb_in (List.mem_of_getElem? (i := 434) rfl) rfl, xpi_5, rfl, xpn_5, xph_5, by decide +kernel, (fun h => absurd h (by decide)), (fun _ => xtb_in (List.mem_of_getElem? (i := 432) rfl) rfl), (fun _ => xtb_in (List.mem_of_getElem? (i := 433) rfl) rfl), (fun h => absurd h (by decide)), fun h => by first | exact absurd rfl h | decide⟩
set_option maxRecDepth 100000 in
theorem xmo_77 : xmOK xmi_77 := ⟨xtb_in (List.mem_of_getElem? (i := 442) rfl) rfl, xpi_5, rfl, xpn_5, xph_5, by decide +kernel, (fun h => absurd h (by decide)), (fun _ => xtb_in (List.mem_of_getElem? (i := 440) rfl) rfl), (fun _ => xtb_in (List.mem_of_getElem? (i := 441) rfl) rfl), (fun h => absurd h (by decide)), fun h => by first | exact absurd rfl h | decide⟩
set_option maxRecDepth 100000 in
theorem xmo_78 : xmOK xmi_78 := ⟨xtb_in (List.mem_of_getElem? (i := 450) rfl) rfl, xpi_5, rfl, xpn_5, xph_5, by decide +kernel, (fun h => absurd h (by decide)), (fun _ => xtb_in (List.mem_of_getElem? (i := 448) rfl) rfl), (fun _ => xtb_in (List.mem_of_getElem? (i := 449) rfl) rfl), (fun h => absurd h (by decide)), fun h => by first | exact absurd rfl h | decide⟩
set_option maxRecDepth 100000 in
theorem xmo_79 : xmOK xmi_79 := ⟨xtb_in (List.mem_of_getElem? (i := 466) rfl) rfl, xpi_5, rfl, xpn_5, xph_5, by decide +kernel, (fun h => absurd h (by decide)), (fun _ => xtb_in (List.mem_of_getElem? (i := 464) rfl) rfl), (fun _ => xtb_in (List.mem_of_getElem? (i := 465) rfl) rfl), (fun h => absurd h (by decide)), fun h => by first | exact absurd rfl h | decide⟩
set_option maxRecDepth 100000 in
theorem xmo_80 : xmOK xmi_80 := ⟨xtb_in (List.mem_of_getElem? (i := 474) rfl) rfl, xpi_5, rfl, xpn_5, xph_5, by decide +kernel, (fun h => absurd h (by decide)), (fun _ => xtb_in (List.mem_of_getElem? (i := 472) rfl) rfl), (fun _ => xtb_in (List.mem_of_getElem? (i := 473) rfl) rfl), (fun h => absurd h (by decide)), fun h => by first | exact absurd rfl h | decide⟩
set_option maxRecDepth 100000 in
theorem xmo_81 : xmOK xmi_81 := ⟨xtb_in (List.mem_of_getElem? (i := 489) rfl) rfl, xpi_5, rfl, xpn_5, xph_5, by decide +kernel, (fun h => absurd h (by decide)), (fun _ => xtb_in (List.mem_of_getElem? (i := 487) rfl) rfl), (fun _ => xtb_in (List.mem_of_getElem? (i := 488) rfl) rfl), (fun h => absurd h (by decide)), fun h => by first | exact absurd rfl h | decide⟩
set_option maxRecDepth 100000 in
theorem xmo_82 : xmOK xmi_82 := ⟨xtb_in (List.mem_of_getElem? (i := 497) rfl) rfl, xpi_5, rfl, xpn_5, xph_5, by decide +kernel, (fun h => absurd h (by decide)), (fun _ => xtb_in (List.mem_of_getElem? (i := 495) rfl) rfl), (fun _ => xtb_in (List.mem_of_getElem? (i := 496) rfl) rfl), (fun h => absurd h (by decide)), fun h => by first | exact absurd rfl h | decide⟩
set_option maxRecDepth 100000 in
theorem xmo_83 : xmOK xmi_83 := ⟨xtb_in (List.mem_of_getElem? (i := 512) rfl) rfl, xpi_5, rfl, xpn_5, xph_5, by decide +kernel, (fun h => absurd h (by decide)), (fun _ => xtb_in (List.mem_of_getElem? (i := 510) rfl) rfl), (fun _ => xtb_in (List.mem_of_getElem? (i := 511) rfl) rfl), (fun h => absurd h (by decide)), fun h => by first | exact absurd rfl h | decide⟩
set_option maxRecDepth 100000 in
theorem xmo_84 : xmOK xmi_84 := ⟨xtb_in (List.mem_of_getElem? (i := 521) rfl) rfl, xpi_5, rfl, xpn_5, xph_5, by decide +kernel, (fun h => absurd h (by decide)), (fun _ => xtb_in (List.mem_of_getElem? (i := 519) rfl) rfl), (fun _ => xtb_in (List.mem_of_getElem? (i := 520) rfl) rfl), (fun h => absurd h (by decide)), fun h => by first | exact absurd rfl h | decide⟩
set_option maxRecDepth 100000 in
theorem xmo_85 : xmOK xmi_85 := ⟨xtb_in (List.mem_of_getElem? (i := 532) rfl) rfl, xpi_5, rfl, xpn_5, xph_5, by decide +kernel, (fun h => absurd h (by decide)), (fun _ => xtb_in (List.mem_of_getElem? (i := 530) rfl) rfl), (fun _ => xtb_in (List.mem_of_getElem? (i := 531) rfl) rfl), (fun h => absurd h (by decide)), fun h => by first | exact absurd rfl h | decide⟩
set_option maxRecDepth 100000 in
theorem xmo_86 : xmOK xmi_86 := ⟨xtb_in (List.mem_of_getElem? (i := 541) rfl) rfl, xpi_5, rfl, xpn_5, xph_5, by decide +kernel, (fun h => absurd h (by decide)), (fun _ => xtb_in (List.mem_of_getElem? (i := 539) rfl) rfl), (fun _ => xtb_in (List.mem_of_getElem? (i := 540) rfl) rfl), (fun h => absurd h (by decide)), fun h => by first | exact absurd rfl h | decide⟩
set_option maxRecDepth 100000 in
theorem xmo_87 : xmOK xmi_87 := ⟨xtb_in (List.mem_of_getElem? (i := 546) rfl) rfl, xpi_5, rfl, xpn_5, xph_5, by decide +kernel, (fun h => absurd h (by decide)), (fun _ => xtb_in (List.mem_of_getElem? (i := 544) rfl) rfl), (fun _ => xtb_in (List.mem_of_getElem? (i := 545) rfl) rfl), (fun h => absurd h (by decide)), fun h => by first | exact absurd rfl h | decide⟩
set_option maxRecDepth 100000 in
theorem xmo_88 : xmOK xmi_88 := ⟨xtb_in (List.mem_of_getElem? (i := 556) rfl) rfl, xpi_5, rfl, xpn_5, xph_5, by decide +kernel, (fun h => absurd h (by decide)), (fun _ => xtb_in (List.mem_of_getElem? (i := 554) rfl) rfl), (fun _ => xtb_in (List.mem_of_getElem? (i := 555) rfl) rfl), (fun h => absurd h (by decide)), fun h => by first | exact absurd rfl h | decide⟩
set_option maxRecDepth 100000 in
theorem xmo_89 : xmOK xmi_89 := ⟨xtb_in (List.mem_of_getElem? (i := 564) rfl) rfl, xpi_5, rfl, xpn_5, xph_5, by decide +kernel, (fun h => absurd h (by decide)), (fun _ => xtb_in (List.mem_of_getElem? (i := 562) rfl) rfl), (fun _ => xtb_in (List.mem_of_getElem? (i := 563) rfl) rfl), (fun h => absurd h (by decide)), fun h => by first | exact absurd rfl h | decide⟩
set_option maxRecDepth 100000 in
theorem xmo_90 : xmOK xmi_90 := ⟨xtb_in (List.mem_of_getElem? (i := 568) rfl) rfl, xpi_5, rfl, xpn_5, xph_5, by decide +kernel, (fun h => absurd h (by decide)), (fun _ => xtb_in (List.mem_of_getElem? (i := 566) rfl) rfl), (fun _ => xtb_in (List.mem_of_getElem? (i := 567) rfl) rfl), (fun h => absurd h (by decide)), fun h => by first | exact absurd rfl h | decide⟩
set_option maxRecDepth 100000 in
theorem xmo_91 : xmOK xmi_91 := ⟨xtb_in (List.mem_of_getElem? (i := 572) rfl) rfl, xpi_5, rfl, xpn_5, xph_5, by decide +kernel, (fun h => absurd h (by decide)), (fun _ => xtb_in (List.mem_of_getElem? (i := 570) rfl) rfl), (fun _ => xtb_in (List.mem_of_getElem? (i := 571) rfl) rfl), (fun h => absurd h (by decide)), fun h => by first | exact absurd rfl h | decide⟩
set_option maxRecDepth 100000 in
theorem xmo_92 : xmOK xmi_92 := ⟨xtb_in (List.mem_of_getElem? (i := 612) rfl) rfl, xpi_5, rfl, xpn_5, xph_5, by decide +kernel, (fun h => absurd h (by decide)), (fun _ => xtb_in (List.mem_of_getElem? (i := 610) rfl) rfl), (fun _ => xtb_in (List.mem_of_getElem? (i := 611) rfl) rfl), (fun h => absurd h (by decide)), fun h => by first | exact absurd rfl h | decide⟩
set_option maxRecDepth 100000 in
theorem xmo_93 : xmOK xmi_93 := ⟨xtb_in (List.mem_of_getElem? (i := 616) rfl) rfl, xpi_5, rfl, xpn_5, xph_5, by decide +kernel, (fun h => absurd h (by decide)), (fun _ => xtb_in (List.mem_of_getElem? (i := 614) rfl) rfl), (fun _ => xtb_in (List.mem_of_getElem? (i := 615) rfl) rfl), (fun h => absurd h (by decide)), fun h => by first | exact absurd rfl h | decide⟩
set_option maxRecDepth 100000 in
theorem xmo_94 : xmOK xmi_94 := ⟨xtb_in (List.mem_of_getElem? (i := 625) rfl) rfl, xpi_5, rfl, xpn_5, xph_5, by decide +kernel, (fun h => absurd h (by decide)), (fun _ => xtb_in (List.mem_of_getElem? (i := 623) rfl) rfl), (fun _ => xtb_in (List.mem_of_getElem? (i := 624) rfl) rfl), (fun h => absurd h (by decide)), fun h => by first | exact absurd rfl h | decide⟩
set_option maxRecDepth 100000 in
theorem xmo_95 : xmOK xmi_95 := ⟨xtb_in (List.mem_of_getElem? (i := 478) rfl) rfl, xpi_5, rfl, xpn_5, xph_5, by decide +kernel, (fun _ => xtb_in (List.mem_of_getElem? (i := 477) rfl) rfl), (fun h => absurd rfl h), (fun h => absurd h (by decide)), (fun h => absurd h (by decide)), fun h => by first | exact absurd rfl h | decide⟩
set_option maxRecDepth 100000 in
theorem xmo_96 : xmOK xmi_96 := ⟨xtb_in (List.mem_of_getElem? (i := 620) rfl) rfl, xpi_5, rfl, xpn_5, xph_5, by decide +kernel, (fun h => absurd h (by decide)), (fun _ => xtb_in (List.mem_of_getElem? (i := 619) rfl) rfl), (fun _ => xtb_in (List.mem_of_getElem? (i := 29) rfl) rfl), (fun h => absurd h (by decide)), fun h => by first | exact absurd rfl h | decide⟩
set_option maxRecDepth 100000 in
theorem xmo_97 : xmOK xmi_97 := ⟨xtb_in (List.mem_of_getElem? (i := 375) rfl) rfl, xpi_5, rfl, xpn_5, xph_5, by decide +kernel, (fun h => absurd h (by decide)), (fun _ => xtb_in (List.mem_of_getElem? (i := 374) rfl) rfl), (fun _ => xtb_in (List.mem_of_getElem? (i := 13) rfl) rfl), (fun h => absurd h (by decide)), fun h => by first | exact absurd rfl h | decide⟩
set_option maxRecDepth 100000 in
theorem xmo_98 : xmOK xmi_98 := ⟨xtb_in (List.mem_of_getElem? (i := 367) rfl) rfl, xpi_5, rfl, xpn_5, xph_5, by decide +kernel, (fun h => absurd h (by decide)), (fun _ => xtb_in (List.mem_of_getElem? (i := 366) rfl) rfl), (fun _ => xtb_in (List.mem_of_getElem? (i := 11) rfl) rfl), (fun h => absurd h (by decide)), fun h => by first | exact absurd rfl h | decide⟩
set_option maxRecDepth 100000 in
theorem xmo_99 : xmOK xmi_99 := ⟨xtb_in (List.mem_of_getElem? (i := 371) rfl) rfl, xpi_5, rfl, xpn_5, xph_5, by decide +kernel, (fun h => absurd h (by decide)), (fun _ => xtb_in (List.mem_of_getElem? (i := 370) rfl) rfl), (fun _ => xtb_in (List.mem_of_getElem? (i := 12) rfl) rfl), (fun h => absurd h (by decide)), fun h => by first | exact absurd rfl h | decide⟩
set_option maxRecDepth 100000 in
theorem xmo_100 : xmOK xmi_100 := ⟨xtb_in (List.mem_of_getElem? (i := 607) rfl) rfl, xpi_5, rfl, xpn_5, xph_5, by decide +kernel, (fun h => absurd h (by decide)), (fun _ => xtb_in (List.mem_of_getElem? (i := 606) rfl) rfl), (fun _ => xtb_in (List.mem_of_getElem? (i := 28) rfl) rfl), (fun h => absurd h (by decide)), fun h => by first | exact absurd rfl h | decide⟩
set_option maxRecDepth 100000 in
theorem xmo_101 : xmOK xmi_101 := ⟨xtb_in (List.mem_of_getElem? (i := 599) rfl) rfl, xpi_5, rfl, xpn_5, xph_5, by decide +kernel, (fun h => absurd h (by decide)), (fun _ => xtb_in (List.mem_of_getElem? (i := 598) rfl) rfl), (fun _ => xtb_in (List.mem_of_getElem? (i := 27) rfl) rfl), (fun h => absurd h (by decide)), fun h => by first | exact absurd rfl h | decide⟩
set_option maxRecDepth 100000 in
theorem xmo_102 : xmOK xmi_102 := ⟨xtb_in (List.mem_of_getElem? (i := 651) rfl) rfl, xpi_6, rfl, xpn_6, xph_6, by decide +kernel, (fun h => absurd h (by decide)), (fun _ => xtb_in (List.mem_of_getElem? (i := 650) rfl) rfl), (fun h => absurd h (by decide)), (fun _ => rfl), fun h => by first | exact absurd rfl h | decide⟩
set_option maxRecDepth 100000 in
theorem xmo_103 : xmOK xmi_103 := ⟨xtb_in (List.mem_of_getElem? (i := 755) rfl) rfl, xpi_6, rfl, xpn_6, xph_6, by decide +kernel, (fun _ => xtb_in (List.mem_of_getElem? (i := 754) rfl) rfl), (fun h => absurd rfl h), (fun h => absurd h (by decide)), (fun h => absurd h (by decide)), fun h => by first | exact absurd rfl h | decide⟩
set_option maxRecDepth 100000 in
theorem xmo_104 : xmOK xmi_104 := ⟨xtb_in (List.mem_of_getElem? (i := 737) rfl) rfl, xpi_6, rfl, xpn_6, xph_6, by decide +kernel, (fun h => absurd h (by decide)), (fun _ => xtb_in (List.mem_of_getElem? (i := 736) rfl) rfl), (fun _ => xtb_in (List.mem_of_getElem? (i := 30) rfl) rfl), (fun h => absurd h (by decide)), fun h => by first | exact absurd rfl h | decide⟩
set_option maxRecDepth 100000 in
theorem xmo_105 : xmOK xmi_105 := ⟨xtb_in (List.mem_of_getElem? (i := 745) rfl) rfl, xpi_6, rfl, xpn_6, xph_6, by decide +kernel, (fun h => absurd h (by decide)), (fun _ => xtb_in (List.mem_of_getElem? (i := 744) rfl) rfl), (fun _ => xtb_in (List.mem_of_getElem? (i := 31) rfl) rfl), (fun h => absurd h (by decide)), fun h => by first | exact absurd rfl h | decide⟩
set_option maxRecDepth 100000 in
theorem xmo_106 : xmOK xmi_106 := ⟨xtb_in (List.mem_of_getElem? (i := 885) rfl) rfl, xpi_6, rfl, xpn_6, xph_6, by decide +kernel, (fun h => absurd h (by decide)), (fun _ => xtb_in (List.mem_of_getElem? (i := 884) rfl) rfl), (fun _ => xtb_in (List.mem_of_getElem? (i := 57) rfl) rfl), (fun h => absurd h (by decide)), fun h => by first | exact absurd rfl h | decide⟩
set_option maxRecDepth 100000 in
theorem xmo_107 : xmOK xmi_107 := ⟨xtb_in (List.mem_of_getElem? (i := 733) rfl) rfl, xpi_6, rfl, xpn_6, xph_6, by decide +kernel, (fun h => absurd h (by decide)), (fun _ => xtb_in (List.mem_of_getElem? (i := 731) rfl) rfl), (fun _ => xtb_in (List.mem_of_getElem? (i := 732) rfl) rfl), (fun h => absurd h (by decide)), fun h => by first | exact absurd rfl h | decide⟩
set_option maxRecDepth 100000 in
theorem xmo_108 : xmOK xmi_108 := ⟨xtb_in (List.mem_of_getElem? (i := 881) rfl) rfl, xpi_6, rfl, xpn_6, xph_6, by decide +kernel, (fun h => absurd h (by decide)), (fun _ => xtb_in (List.mem_of_getElem? (i := 880) rfl) rfl), (fun _ => xtb_in (List.mem_of_getElem? (i := 56) rfl) rfl), (fun h => absurd h (by decide)), fun h => by first | exact absurd rfl h | decide⟩
set_option maxRecDepth 100000 in
theorem xmo_109 : xmOK xmi_109 := ⟨xtb_in (List.mem_of_getElem? (i := 752) rfl) rfl, xpi_6, rfl, xpn_6, xph_6, by decide +kernel, (fun _ => xtb_in (List.mem_of_getElem? (i := 751) rfl) rfl), (fun h => absurd rfl h), (fun h => absurd h (by decide)), (fun h => absurd h (by decide)), fun h => by first | exact absurd rfl h | decide⟩
set_option maxRecDepth 100000 in
theorem xmo_110 : xmOK xmi_110 := ⟨xtb_in (List.mem_of_getElem? (i := 762) rfl) rfl, xpi_6, rfl, xpn_6, xph_6, by decide +kernel, (fun _ => xtb_in (List.mem_of_getElem? (i := 761) rfl) rfl), (fun h => absurd rfl h), (fun h => absurd h (by decide)), (fun h => absurd h (by decide)), fun h => by first | exact absurd rfl h | decide⟩
set_option maxRecDepth 100000 in
theorem xmo_111 : xmOK xmi_111 := ⟨xtb_in (List.mem_of_getElem? (i := 784) rfl) rfl, xpi_6, rfl, xpn_6, xph_6, by decide +kernel, (fun _ => xtb_in (List.mem_of_getElem? (i := 783) rfl) rfl), (fun h => absurd rfl h), (fun h => absurd h (by decide)), (fun h => absurd h (by decide)), fun h => by first | exact absurd rfl h | decide⟩
set_option maxRecDepth 100000 in
theorem xmo_112 : xmOK xmi_112 := ⟨xtb_in (List.mem_of_getElem? (i := 814) rfl) rfl, xpi_6, rfl, xpn_6, xph_6, by decide +kernel, (fun _ => xtb_in (List.mem_of_getElem? (i := 813) rfl) rfl), (fun h => absurd rfl h), (fun h => absurd h (by decide)), (fun h => absurd h (by decide)), fun h => by first | exact absurd rfl h | decide⟩
set_option maxRecDepth 100000 in
theorem xmo_113 : xmOK xmi_113 := ⟨xtb_in (List.mem_of_getElem? (i := 790) rfl) rfl, xpi_6, rfl, xpn_6, xph_6, by decide +kernel, (fun _ => xtb_in (List.mem_of_getElem? (i := 789) rfl) rfl), (fun h => absurd rfl h), (fun h => absurd h (by decide)), (fun h => absurd h (by decide)), fun h => by first | exact absurd rfl h | decide⟩
set_option maxRecDepth 100000 in
theorem xmo_114 : xmOK xmi_114 := ⟨xtb_in (List.mem_of_getElem? (i := 787) rfl) rfl, xpi_6, rfl, xpn_6, xph_6, by decide +kernel, (fun _ => xtb_in (List.mem_of_getElem? (i := 786) rfl) rfl), (fun h => absurd rfl h), (fun h => absurd h (by decide)), (fun h => absurd h (by decide)), fun h => by first | exact absurd rfl h | decide⟩
set_option maxRecDepth 100000 in
theorem xmo_115 : xmOK xmi_115 := ⟨xtb_in (List.mem_of_getElem? (i := 811) rfl) rfl, xpi_6, rfl, xpn_6, xph_6, by decide +kernel, (fun _ => xtb_in (List.mem_of_getElem? (i := 810) rfl) rfl), (fun h => absurd rfl h), (fun h => absurd h (by decide)), (fun h => absurd h (by decide)), fun h => by first | exact absurd rfl h | decide⟩
set_option maxRecDepth 100000 in
theorem xmo_116 : xmOK xmi_116 := ⟨xtb_in (List.mem_of_getElem? (i := 781) rfl) rfl, xpi_6, rfl, xpn_6, xph_6, by decide +kernel, (fun _ => xtb_in (List.mem_of_getElem? (i := 780) rfl) rfl), (fun h => absurd rfl h), (fun h => absurd h (by decide)), (fun h => absurd h (by decide)), fun h => by first | exact absurd rfl h | decide⟩
set_option maxRecDepth 100000 in
theorem xmo_117 : xmOK xmi_117 := ⟨xtb_in (List.mem_of_getElem? (i := 849) rfl) rfl, xpi_6, rfl, xpn_6, xph_6, by decide +kernel, (fun _ => xtb_in (List.mem_of_getElem? (i := 848) rfl) rfl), (fun h => absurd rfl h), (fun h => absurd h (by decide)), (fun h => absurd h (by decide)), fun h => by first | exact absurd rfl h | decide⟩
set_option maxRecDepth 100000 in
theorem xmo_118 : xmOK xmi_118 := ⟨xtb_in (List.mem_of_getElem? (i := 968) rfl) rfl, xpi_6, rfl, xpn_6, xph_6, by decide +kernel, (fun _ => xtb_in (List.mem_of_getElem? (i := 967) rfl) rfl), (fun h => absurd rfl h), (fun h => absurd h (by decide)), (fun h => absurd h (by decide)), fun h => by first | exact absurd rfl h | decide⟩
set_option maxRecDepth 100000 in
theorem xmo_119 : xmOK xmi_119 := ⟨xtb_in (List.mem_of_getElem? (i := 759) rfl) rfl, xpi_6, rfl, xpn_6, xph_6, by decide +kernel, (fun h => absurd h (by decide)), (fun _ => xtb_in (List.mem_of_getElem? (i := 758) rfl) rfl), (fun _ => xtb_in (List.mem_of_getElem? (i := 33) rfl) rfl), (fun h => absurd h (by decide)), fun h => by first | exact absurd rfl h | decide⟩
set_option maxRecDepth 100000 in
theorem xmo_120 : xmOK xmi_120 := ⟨xtb_in (List.mem_of_getElem? (i := 770) rfl) rfl, xpi_6, rfl, xpn_6, xph_6, by decide +kernel, (fun h => absurd h (by decide)), (fun _ => xtb_in (List.mem_of_getElem? (i := 769) rfl) rfl), (fun _ => xtb_in (List.mem_of_getElem? (i := 35) rfl) rfl), (fun h => absurd h (by decide)), fun h => by first | exact absurd rfl h | decide⟩
set_option maxRecDepth 100000 in
theorem xmo_121 : xmOK xmi_121 := ⟨xtb_in (List.mem_of_getElem? (i := 949) rfl) rfl, xpi_6, rfl, xpn_6, xph_6, by decide +kernel, (fun h => absurd h (by decide)), (fun _ => xtb_in (List.mem_of_getElem? (i := 948) rfl) rfl), (fun _ => xtb_in (List.mem_of_getElem? (i := 69) rfl) rfl), (fun h => absurd h (by decide)), fun h => by first | exact absurd rfl h | decide⟩
set_option maxRecDepth 100000 in
theorem xmo_122 : xmOK xmi_122 := ⟨xtb_in (List.mem_of_getElem? (i := 778) rfl) rfl, xpi_6, rfl, xpn_6, xph_6, by decide +kernel, (fun h => absurd h (by decide)), (fun _ => xtb_in (List.mem_of_getElem? (i := 777) rfl) rfl), (fun _ => xtb_in (List.mem_of_getElem? (i := 37) rfl) rfl), (fun h => absurd h (by decide)), fun h => by first | exact absurd rfl h | decide⟩
set_option maxRecDepth 100000 in
theorem xmo_123 : xmOK xmi_123 := ⟨xtb_in (List.mem_of_getElem? (i := 774) rfl) rfl, xpi_6, rfl, xpn_6, xph_6, by decide +kernel, (fun h => absurd h (by decide)), (fun _ => xtb_in (List.mem_of_getElem? (i := 773) rfl) rfl), (fun _ => xtb_in (List.mem_of_getElem? (i := 36) rfl) rfl), (fun h => absurd h (by decide)), fun h => by first | exact absurd rfl h | decide⟩
set_option maxRecDepth 100000 in
theorem xmo_124 : xmOK xmi_124 := ⟨xtb_in (List.mem_of_getElem? (i := 945) rfl) rfl, xpi_6, rfl, xpn_6, xph_6, by decide +kernel, (fun h => absurd h (by decide)), (fun _ => xtb_in (List.mem_of_getElem? (i := 944) rfl) rfl), (fun _ => xtb_in (List.mem_of_getElem? (i := 68) rfl) rfl), (fun h => absurd h (by decide)), fun h => by first | exact absurd rfl h | decide⟩
set_option maxRecDepth 100000 in
theorem xmo_125 : xmOK xmi_125 := ⟨xtb_in (List.mem_of_getElem? (i := 990) rfl) rfl, xpi_6, rfl, xpn_6, xph_6, by decide +kernel, (fun h => absurd h (by decide)), (fun _ => xtb_in (List.mem_of_getElem? (i := 989) rfl) rfl), (fun _ => xtb_in (List.mem_of_getElem? (i := 73) rfl) rfl), (fun h => absurd h (by decide)), fun h => by first | exact absurd rfl h | decide⟩
set_option maxRecDepth 100000 in
theorem xmo_126 : xmOK xmi_126 := ⟨xtb_in (List.mem_of_getElem? (i := 805) rfl) rfl, xpi_6, rfl, xpn_6, xph_6, by decide +kernel, (fun _ => xtb_in (List.mem_of_getElem? (i := 804) rfl) rfl), (fun h => absurd rfl h), (fun h => absurd h (by decide)), (fun h => absurd h (by decide)), fun h => by first | exact absurd rfl h | decide⟩
set_option maxRecDepth 100000 in
theorem xmo_127 : xmOK xmi_127 := ⟨xtb_in (List.mem_of_getElem? (i := 802) rfl) rfl, xpi_6, rfl, xpn_6, xph_6, by decide +kernel, (fun h => absurd h (by decide)), (fun _ => xtb_in (List.mem_of_getElem? (i := 801) rfl) rfl), (fun _ => xtb_in (List.mem_of_getElem? (i := 40) rfl) rfl), (fun h => absurd h (by decide)), fun h => by first | exact absurd rfl h | decide⟩
set_option maxRecDepth 100000 in
theorem xmo_128 : xmOK xmi_128 := ⟨xtb_in (List.mem_of_getElem? (i := 822) rfl) rfl, xpi_6, rfl, xpn_6, xph_6, by decide +kernel, (fun h => absurd h (by decide)), (fun _ => xtb_in (List.mem_of_getElem? (i := 821) rfl) rfl), (fun _ => xtb_in (List.mem_of_getElem? (i := 42) rfl) rfl), (fun h => absurd h (by decide)), fun h => by first | exact absurd rfl h | decide⟩
set_option maxRecDepth 100000 in
theorem xmo_129 : xmOK xmi_129 := ⟨xtb_in (List.mem_of_getElem? (i := 834) rfl) rfl, xpi_6, rfl, xpn_6, xph_6, by decide +kernel, (fun h => absurd h (by decide)), (fun _ => xtb_in (List.mem_of_getElem? (i := 833) rfl) rfl), (fun _ => xtb_in (List.mem_of_getElem? (i := 45) rfl) rfl), (fun h => absurd h (by decide)), fun h => by first | exact absurd rfl h | decide⟩
set_option maxRecDepth 100000 in
theorem xmo_130 : xmOK xmi_130 := ⟨xtb_in (List.mem_of_getElem? (i := 830) rfl) rfl, xpi_6, rfl, xpn_6, xph_6, by decide +kernel, (fun h => absurd h (by decide)), (fun _ => xtb_in (List.mem_of_getElem? (i := 829) rfl) rfl), (fun _ => xtb_in (List.mem_of_getElem? (i := 44) rfl) rfl), (fun h => absurd h (by decide)), fun h => by first | exact absurd rfl h | decide⟩
set_option maxRecDepth 100000 in
theorem xmo_131 : xmOK xmi_131 := ⟨xtb_in (List.mem_of_getElem? (i := 826) rfl) rfl, xpi_6, rfl, xpn_6, xph_6, by decide +kernel, (fun h => absurd h (by decide)), (fun _ => xtb_in (List.mem_of_getElem? (i := 825) rfl) rfl), (fun _ => xtb_in (List.mem_of_getElem? (i := 43) rfl) rfl), (fun h => absurd h (by decide)), fun h => by first | exact absurd rfl h | decide⟩
set_option maxRecDepth 100000 in
theorem xmo_132 : xmOK xmi_132 := ⟨xtb_in (List.mem_of_getElem? (i := 853) rfl) rfl, xpi_6, rfl, xpn_6, xph_6, by decide +kernel, (fun h => absurd h (by decide)), (fun _ => xtb_in (List.mem_of_getElem? (i := 852) rfl) rfl), (fun _ => xtb_in (List.mem_of_getElem? (i := 49) rfl) rfl), (fun h => absurd h (by decide)), fun h => by first | exact absurd rfl h | decide⟩
set_option maxRecDepth 100000 in
theorem xmo_133 : xmOK xmi_133 := ⟨xtb_in (List.mem_of_getElem? (i := 818) rfl) rfl, xpi_6, rfl, xpn_6, xph_6, by decide +kernel, (fun h => absurd h (by decide)), (fun _ => xtb_in (List.mem_of_getElem? (i := 817) rfl) rfl), (fun _ => xtb_in (List.mem_of_getElem? (i := 41) rfl) rfl), (fun h => absurd h (by decide)), fun h => by first | exact absurd rfl h | decide⟩
set_option maxRecDepth 100000 in
theorem xmo_134 : xmOK xmi_134 := ⟨xtb_in (List.mem_of_getElem? (i := 861) rfl) rfl, xpi_6, rfl, xpn_6, xph_6, by decide +kernel, (fun h => absurd h (by decide)), (fun _ => xtb_in (List.mem_of_getElem? (i := 860) rfl) rfl), (fun _ => xtb_in (List.mem_of_getElem? (i := 51) rfl) rfl), (fun h => absurd h (by decide)), fun h => by first | exact absurd rfl h | decide⟩
set_option maxRecDepth 100000 in
theorem xmo_135 : xmOK xmi_135 := ⟨xtb_in (List.mem_of_getElem? (i := 905) rfl) rfl, xpi_6, rfl, xpn_6, xph_6, by decide +kernel, (fun h => absurd h (by decide)), (fun _ => xtb_in (List.mem_of_getElem? (i := 904) rfl) rfl), (fun _ => xtb_in (List.mem_of_getElem? (i := 61) rfl) rfl), (fun h => absurd h (by decide)), fun h => by first | exact absurd rfl h | decide⟩
set_option maxRecDepth 100000 in
theorem xmo_136 : xmOK xmi_136 := ⟨xtb_in (List.mem_of_getElem? (i := 808) rfl) rfl, xpi_6, rfl, xpn_6, xph_6, by decide +kernel, (fun _ => xtb_in (List.mem_of_getElem? (i := 807) rfl) rfl), (fun h => absurd rfl h), (fun h => absurd h (by decide)), (fun h => absurd h (by decide)), fun h => by first | exact absurd rfl h | decide⟩
set_option maxRecDepth 100000 in
theorem xmo_137 : xmOK xmi_137 := ⟨xtb_in (List.mem_of_getElem? (i := 798) rfl) rfl, xpi_6, rfl, xpn_6, xph_6, by decide +kernel, (fun h => absurd h (by decide)), (fun _ => xtb_in (List.mem_of_getElem? (i := 797) rfl) rfl), (fun _ => xtb_in (List.mem_of_getElem? (i := 39) rfl) rfl), (fun h => absurd h (by decide)), fun h => by first | exact absurd rfl h | decide⟩
set_option maxRecDepth 100000 in
theorem xmo_138 : xmOK xmi_138 := ⟨xtb_in (List.mem_of_getElem? (i := 846) rfl) rfl, xpi_6, rfl, xpn_6, xph_6, by decide +kernel, (fun h => absurd h (by decide)), (fun _ => xtb_in (List.mem_of_getElem? (i := 845) rfl) rfl), (fun _ => xtb_in (List.mem_of_getElem? (i := 48) rfl) rfl), (fun h => absurd h (by decide)), fun h => by first | exact absurd rfl h | decide⟩
set_option maxRecDepth 100000 in
theorem xmo_139 : xmOK xmi_139 := ⟨xtb_in (List.mem_of_getElem? (i := 857) rfl) rfl, xpi_6, rfl, xpn_6, xph_6, by decide +kernel, (fun h => absurd h (by decide)), (fun _ => xtb_in (List.mem_of_getElem? (i := 856) rfl) rfl), (fun _ => xtb_in (List.mem_of_getElem? (i := 50) rfl) rfl), (fun h => absurd h (by decide)), fun h => by first | exact absurd rfl h | decide⟩
set_option maxRecDepth 100000 in
theorem xmo_140 : xmOK xmi_140 := ⟨xtb_in (List.mem_of_getElem? (i := 842) rfl) rfl, xpi_6, rfl, xpn_6, xph_6, by decide +kernel, (fun h => absurd h (by decide)), (fun _ => xtb_in (List.mem_of_getElem? (i := 841) rfl) rfl), (fun _ => xtb_in (List.mem_of_getElem? (i := 47) rfl) rfl), (fun h => absurd h (by decide)), fun h => by first | exact absurd rfl h | decide⟩
set_option maxRecDepth 100000 in
theorem xmo_141 : xmOK xmi_141 := ⟨xtb_in (List.mem_of_getElem? (i := 838) rfl) rfl, xpi_6, rfl, xpn_6, xph_6, by decide +kernel, (fun h => absurd h (by decide)), (fun _ => xtb_in (List.mem_of_getElem? (i := 837) rfl) rfl), (fun _ => xtb_in (List.mem_of_getElem? (i := 46) rfl) rfl), (fun h => absurd h (by decide)), fun h => by first | exact absurd rfl h | decide⟩
set_option maxRecDepth 100000 in
theorem xmo_142 : xmOK xmi_142 := ⟨xtb_in (List.mem_of_getElem? (i := 794) rfl) rfl, xpi_6, rfl, xpn_6, xph_6, by decide +kernel, (fun h => absurd h (by decide)), (fun _ => xtb_in (List.mem_of_getElem? (i := 793) rfl) rfl), (fun _ => xtb_in (List.mem_of_getElem? (i := 38) rfl) rfl), (fun h => absurd h (by decide)), fun h => by first | exact absurd rfl h | decide⟩
set_option maxRecDepth 100000 in
theorem xmo_143 : xmOK xmi_143 := ⟨xtb_in (List.mem_of_getElem? (i := 913) rfl) rfl, xpi_6, rfl, xpn_6, xph_6, by decide +kernel, (fun h => absurd h (by decide)), (fun _ => xtb_in (List.mem_of_getElem? (i := 912) rfl) rfl), (fun _ => xtb_in (List.mem_of_getElem? (i := 63) rfl) rfl), (fun h => absurd h (by decide)), fun h => by first | exact absurd rfl h | decide⟩
set_option maxRecDepth 100000 in
theorem xmo_144 : xmOK xmi_144 := ⟨xtb_in (List.mem_of_getElem? (i := 909) rfl) rfl, xpi_6, rfl, xpn_6, xph_6, by decide +kernel, (fun h => absurd h (by decide)), (fun _ => xtb_in (List.mem_of_getElem? (i := 908) rfl) rfl), (fun _ => xtb_in (List.mem_of_getElem? (i := 62) rfl) rfl), (fun h => absurd h (by decide)), fun h => by first | exact absurd rfl h | decide⟩
set_option maxRecDepth 100000 in
theorem xmo_145 : xmOK xmi_145 := ⟨xtb_in (List.mem_of_getElem? (i := 901) rfl) rfl, xpi_6, rfl, xpn_6, xph_6, by decide +kernel, (fun h => absurd h (by decide)), (fun _ => xtb_in (List.mem_of_getElem? (i := 900) rfl) rfl), (fun _ => xtb_in (List.mem_of_getElem? (i := 60) rfl) rfl), (fun h => absurd h (by decide)), fun h => by first | exact absurd rfl h | decide⟩
set_option maxRecDepth 100000 in
theorem xmo_146 : xmOK xmi_146 := ⟨xtb_in (List.mem_of_getElem? (i := 897) rfl) rfl, xpi_6, rfl, xpn_6, xph_6, by decide +kernel, (fun h => absurd h (by decide)), (fun _ => xtb_in (List.mem_of_getElem? (i := 896) rfl) rfl), (fun _ => xtb_in (List.mem_of_getElem? (i := 59) rfl) rfl), (fun h => absurd h (by decide)), fun h => by first | exact absurd rfl h | decide⟩
set_option maxRecDepth 100000 in
theorem xmo_147 : xmOK xmi_147 := ⟨xtb_in (List.mem_of_getElem? (i := 766) rfl) rfl, xpi_6, rfl, xpn_6, xph_6, by decide +kernel, (fun h => absurd h (by decide)), (fun _ => xtb_in (List.mem_of_getElem? (i := 765) rfl) rfl), (fun _ => xtb_in (List.mem_of_getElem? (i := 34) rfl) rfl), (fun h => absurd h (by decide)), fun h => by first | exact absurd rfl h | decide⟩
set_option maxRecDepth 100000 in
theorem xmo_148 : xmOK xmi_148 := ⟨xtb_in (List.mem_of_getElem? (i := 873) rfl) rfl, xpi_6, rfl, xpn_6, xph_6, by decide +kernel, (fun h => absurd h (by decide)), (fun _ => xtb_in (List.mem_of_getElem? (i := 872) rfl) rfl), (fun _ => xtb_in (List.mem_of_getElem? (i := 54) rfl) rfl), (fun h => absurd h (by decide)), fun h => by first | exact absurd rfl h | decide⟩
set_option maxRecDepth 100000 in
theorem xmo_149 : xmOK xmi_149 := ⟨xtb_in (List.mem_of_getElem? (i := 877) rfl) rfl, xpi_6, rfl, xpn_6, xph_6, by decide +kernel, (fun h => absurd h (by decide)), (fun _ => xtb_in (List.mem_of_getElem? (i := 876) rfl) rfl), (fun _ => xtb_in (List.mem_of_getElem? (i := 55) rfl) rfl), (fun h => absurd h (by decide)), fun h => by first | exact absurd rfl h | decide⟩
set_option maxRecDepth 100000 in
theorem xmo_150 : xmOK xmi_150 := ⟨xtb_in (List.mem_of_getElem? (i := 869) rfl) rfl, xpi_6, rfl, xpn_6, xph_6, by decide +kernel, (fun h => absurd h (by decide)), (fun _ => xtb_in (List.mem_of_getElem? (i := 868) rfl) rfl), (fun _ => xtb_in (List.mem_of_getElem? (i := 53) rfl) rfl), (fun h => absurd h (by decide)), fun h => by first | exact absurd rfl h | decide⟩
set_option maxRecDepth 100000 in
theorem xmo_151 : xmOK xmi_151 := ⟨xtb_in (List.mem_of_getElem? (i := 865) rfl) rfl, xpi_6, rfl, xpn_6, xph_6, by decide +kernel, (fun h => absurd h (by decide)), (fun _ => xtb_in (List.mem_of_getElem? (i := 864) rfl) rfl), (fun _ => xtb_in (List.mem_of_getElem? (i := 52) rfl) rfl), (fun h => absurd h (by decide)), fun h => by first | exact absurd rfl h | decide⟩
set_option maxRecDepth 100000 in
theorem xmo_152 : xmOK xmi_152 := ⟨xtb_in (List.mem_of_getElem? (i := 917) rfl) rfl, xpi_6, rfl, xpn_6, xph_6, by decide +kernel, (fun h => absurd h (by decide)), (fun _ => xtb_in (List.mem_of_getElem? (i := 916) rfl) rfl), (fun _ => xtb_in (List.mem_of_getElem? (i := 64) rfl) rfl), (fun h => absurd h (by decide)), fun h => by first | exact absurd rfl h | decide⟩
set_option maxRecDepth 100000 in
theorem xmo_153 : xmOK xmi_153 := ⟨xtb_in (List.mem_of_getElem? (i := 749) rfl) rfl, xpi_6, rfl, xpn_6, xph_6, by decide +kernel, (fun h => absurd h (by decide)), (fun _ => xtb_in (List.mem_of_getElem? (i := 748) rfl) rfl), (fun _ => xtb_in (List.mem_of_getElem? (i := 32) rfl) rfl), (fun h => absurd h (by decide)), fun h => by first | exact absurd rfl h | decide⟩
set_option maxRecDepth 100000 in
theorem xmo_154 : xmOK xmi_154 := ⟨xtb_in (List.mem_of_getElem? (i := 893) rfl) rfl, xpi_6, rfl, xpn_6, xph_6, by decide +kernel, (fun h => absurd h (by decide)), (fun _ => xtb_in (List.mem_of_getElem? (i := 892) rfl) rfl), (fun _ => xtb_in (List.mem_of_getElem? (i := 58) rfl) rfl), (fun h => absurd h (by decide)), fun h => by first | exact absurd rfl h | decide⟩
set_option maxRecDepth 100000 in
theorem xmo_155 : xmOK xmi_155 := ⟨xtb_in (List.mem_of_getElem? (i := 925) rfl) rfl, xpi_6, rfl, xpn_6, xph_6, by decide +kernel, (fun h => absurd h (by decide)), (fun _ => xtb_in (List.mem_of_getElem? (i := 924) rfl) rfl), (fun _ => xtb_in (List.mem_of_getElem? (i := 65) rfl) rfl), (fun h => absurd h (by decide)), fun h => by first | exact absurd rfl h | decide⟩
set_option maxRecDepth 100000 in
theorem xmo_156 : xmOK xmi_156 := ⟨xtb_in (List.mem_of_getElem? (i := 933) rfl) rfl, xpi_6, rfl, xpn_6, xph_6, by decide +kernel, (fun h => absurd h (by decide)), (fun _ => xtb_in (List.mem_of_getElem? (i := 932) rfl) rfl), (fun _ => xtb_in (List.mem_of_getElem? (i := 66) rfl) rfl), (fun h => absurd h (by decide)), fun h => by first | exact absurd rfl h | decide⟩
set_option maxRecDepth 100000 in
theorem xmo_157 : xmOK xmi_157 := ⟨xtb_in (List.mem_of_getElem? (i := 941) rfl) rfl, xpi_6, rfl, xpn_6, xph_6, by decide +kernel, (fun h => absurd h (by decide)), (fun _ => xtb_in (List.mem_of_getElem? (i := 940) rfl) rfl), (fun _ => xtb_in (List.mem_of_getElem? (i := 67) rfl) rfl), (fun h => absurd h (by decide)), fun h => by first | exact absurd rfl h | decide⟩
set_option maxRecDepth 100000 in
theorem xmo_158 : xmOK xmi_158 := ⟨xtb_in (List.mem_of_getElem? (i := 957) rfl) rfl, xpi_6, rfl, xpn_6, xph_6, by decide +kernel, (fun h => absurd h (by decide)), (fun _ => xtb_in (List.mem_of_getElem? (i := 956) rfl) rfl), (fun _ => xtb_in (List.mem_of_getElem? (i := 70) rfl) rfl), (fun h => absurd h (by decide)), fun h => by first | exact absurd rfl h | decide⟩
set_option maxRecDepth 100000 in
theorem xmo_159 : xmOK xmi_159 := ⟨xtb_in (List.mem_of_getElem? (i := 741) rfl) rfl, xpi_6, rfl, xpn_6, xph_6, by decide +kernel, (fun h => absurd h (by decide)), (fun _ => xtb_in (List.mem_of_getElem? (i := 739) rfl) rfl), (fun _ => xtb_in (List.mem_of_getElem? (i := 740) rfl) rfl), (fun h => absurd h (by decide)), fun h => by first | exact absurd rfl h | decide⟩
set_option maxRecDepth 100000 in
theorem xmo_160 : xmOK xmi_160 := ⟨xtb_in (List.mem_of_getElem? (i := 889) rfl) rfl, xpi_6, rfl, xpn_6, xph_6, by decide +kernel, (fun h => absurd h (by decide)), (fun _ => xtb_in (List.mem_of_getElem? (i := 887) rfl) rfl), (fun _ => xtb_in (List.mem_of_getElem? (i := 888) rfl) rfl), (fun h => absurd h (by decide)), fun h => by first | exact absurd rfl h | decide⟩
set_option maxRecDepth 100000 in
theorem xmo_161 : xmOK xmi_161 := ⟨xtb_in (List.mem_of_getElem? (i := 921) rfl) rfl, xpi_6, rfl, xpn_6, xph_6, by decide +kernel, (fun h => absurd h (by decide)), (fun _ => xtb_in (List.mem_of_getElem? (i := 919) rfl) rfl), (fun _ => xtb_in (List.mem_of_getElem? (i := 920) rfl) rfl), (fun h => absurd h (by decide)), fun h => by first | exact absurd rfl h | decide⟩
set_option maxRecDepth 100000 in
theorem xmo_162 : xmOK xmi_162 := ⟨xtb_in (List.mem_of_getElem? (i := 929) rfl) rfl, xpi_6, rfl, xpn_6, xph_6, by decide +kernel, (fun h => absurd h (by decide)), (fun _ => xtb_in (List.mem_of_getElem? (i := 927) rfl) rfl), (fun _ => xtb_in (List.mem_of_getElem? (i := 928) rfl) rfl), (fun h => absurd h (by decide)), fun h => by first | exact absurd rfl h | decide⟩
set_option maxRecDepth 100000 in
theorem xmo_163 : xmOK xmi_163 := ⟨xtb_in (List.mem_of_getElem? (i := 937) rfl) rfl, xpi_6, rfl, xpn_6, xph_6, by decide +kernel, (fun h => absurd h (by decide)), (fun _ => xtb_in (List.mem_of_getElem? (i := 935) rfl) rfl), (fun _ => xtb_in (List.mem_of_getElem? (i := 936) rfl) rfl), (fun h => absurd h (by decide)), fun h => by first | exact absurd rfl h | decide⟩
set_option maxRecDepth 100000 in
theorem xmo_164 : xmOK xmi_164 := ⟨xtb_in (List.mem_of_getElem? (i := 953) rfl) rfl, xpi_6, rfl, xpn_6, xph_6, by decide +kernel, (fun h => absurd h (by decide)), (fun _ => xtb_in (List.mem_of_getElem? (i := 951) rfl) rfl), (fun _ => xtb_in (List.mem_of_getElem? (i := 952) rfl) rfl), (fun h => absurd h (by decide)), fun h => by first | exact absurd rfl h | decide⟩
set_option maxRecDepth 100000 in
theorem xmo_165 : xmOK xmi_165 := ⟨xtb_in (List.mem_of_getElem? (i := 965) rfl) rfl, xpi_6, rfl, xpn_6, xph_6, by decide +kernel, (fun h => absurd h (by decide)), (fun _ => xtb_in (List.mem_of_getElem? (i := 964) rfl) rfl), (fun _ => xtb_in (List.mem_of_getElem? (i := 71) rfl) rfl), (fun h => absurd h (by decide)), fun h => by first | exact absurd rfl h | decide⟩
set_option maxRecDepth 100000 in
theorem xmo_166 : xmOK xmi_166 := ⟨xtb_in (List.mem_of_getElem? (i := 961) rfl) rfl, xpi_6, rfl, xpn_6, xph_6, by decide +kernel, (fun h => absurd h (by decide)), (fun _ => xtb_in (List.mem_of_getElem? (i := 959) rfl) rfl), (fun _ => xtb_in (List.mem_of_getElem? (i := 960) rfl) rfl), (fun h => absurd h (by decide)), fun h => by first | exact absurd rfl h | decide⟩
set_option maxRecDepth 100000 in
theorem xmo_167 : xmOK xmi_167 := ⟨xtb_in (List.mem_of_getElem? (i := 972) rfl) rfl, xpi_6, rfl, xpn_6, xph_6, by decide +kernel, (fun h => absurd h (by decide)), (fun _ => xtb_in (List.mem_of_getElem? (i := 970) rfl) rfl), (fun _ => xtb_in (List.mem_of_getElem? (i := 971) rfl) rfl), (fun h => absurd h (by decide)), fun h => by first | exact absurd rfl h | decide⟩
set_option maxRecDepth 100000 in
theorem xmo_168 : xmOK xmi_168 := ⟨xtb_in (List.mem_of_getElem? (i := 979) rfl) rfl, xpi_6, rfl, xpn_6, xph_6, by decide +kernel, (fun _ => xtb_in (List.mem_of_getElem? (i := 978) rfl) rfl), (fun h => absurd rfl h), (fun h => absurd h (by decide)), (fun h => absurd h (by decide)), fun h => by first | exact absurd rfl h | decide⟩
set_option maxRecDepth 100000 in
theorem xmo_169 : xmOK xmi_169 := ⟨xtb_in (List.mem_of_getElem? (i := 986) rfl) rfl, xpi_6, rfl, xpn_6, xph_6, by decide +kernel, (fun _ => xtb_in (List.mem_of_getElem? (i := 985) rfl) rfl), (fun h => absurd rfl h), (fun h => absurd h (by decide)), (fun h => absurd h (by decide)), fun h => by first | exact absurd rfl h | decide⟩
set_option maxRecDepth 100000 in
theorem xmo_170 : xmOK xmi_170 := ⟨xtb_in (List.mem_of_getElem? (i := 983) rfl) rfl, xpi_6, rfl, xpn_6, xph_6, by decide +kernel, (fun h => absurd h (by decide)), (fun _ => xtb_in (List.mem_of_getElem? (i := 982) rfl) rfl), (fun _ => xtb_in (List.mem_of_getElem? (i := 72) rfl) rfl), (fun h => absurd h (by decide)), fun h => by first | exact absurd rfl h | decide⟩
set_option maxRecDepth 100000 in
theorem xmo_171 : xmOK xmi_171 := ⟨xtb_in (List.mem_of_getElem? (i := 976) rfl) rfl, xpi_6, rfl, xpn_6, xph_6, by decide +kernel, (fun h => absurd h (by decide)), (fun _ => xtb_in (List.mem_of_getElem? (i := 974) rfl) rfl), (fun _ => xtb_in (List.mem_of_getElem? (i := 975) rfl) rfl), (fun h => absurd h (by decide)), fun h => by first | exact absurd rfl h | decide⟩
set_option maxRecDepth 100000 in
theorem xmo_172 : xmOK xmi_172 := ⟨xtb_in (List.mem_of_getElem? (i := 994) rfl) rfl, xpi_6, rfl, xpn_6, xph_6, by decide +kernel, (fun h => absurd h (by decide)), (fun _ => xtb_in (List.mem_of_getElem? (i := 992) rfl) rfl), (fun _ => xtb_in (List.mem_of_getElem? (i := 993) rfl) rfl), (fun h => absurd h (by decide)), fun h => by first | exact absurd rfl h | decide⟩
set_option maxRecDepth 100000 in
theorem xmo_173 : xmOK xmi_173 := ⟨xtb_in (List.mem_of_getElem? (i := 1005) rfl) rfl, xpi_6, rfl, xpn_6, xph_6, by decide +kernel, (fun _ => xtb_in (List.mem_of_getElem? (i := 1004) rfl) rfl), (fun h => absurd rfl h), (fun h => absurd h (by decide)), (fun h => absurd h (by decide)), fun h => by first | exact absurd rfl h | decide⟩
set_option maxRecDepth 100000 in
theorem xmo_174 : xmOK xmi_174 := ⟨xtb_in (List.mem_of_getElem? (i := 1002) rfl) rfl, xpi_6, rfl, xpn_6, xph_6, by decide +kernel, (fun h => absurd h (by decide)), (fun _ => xtb_in (List.mem_of_getElem? (i := 1001) rfl) rfl), (fun _ => xtb_in (List.mem_of_getElem? (i := 74) rfl) rfl), (fun h => absurd h (by decide)), fun h => by first | exact absurd rfl h | decide⟩
set_option maxRecDepth 100000 in
theorem xmo_175 : xmOK xmi_175 := ⟨xtb_in (List.mem_of_getElem? (i := 998) rfl) rfl, xpi_6, rfl, xpn_6, xph_6, by decide +kernel, (fun h => absurd h (by decide)), (fun _ => xtb_in (List.mem_of_getElem? (i := 996) rfl) rfl), (fun _ => xtb_in (List.mem_of_getElem? (i := 997) rfl) rfl), (fun h => absurd h (by decide)), fun h => by first | exact absurd rfl h | decide⟩
set_option maxRecDepth 100000 in
theorem xmo_176 : xmOK xmi_176 := ⟨xtb_in (List.mem_of_getElem? (i := 1009) rfl) rfl, xpi_6, rfl, xpn_6, xph_6, by decide +kernel, (fun h => absurd h (by decide)), (fun _ => xtb_in (List.mem_of_getElem? (i := 1007) rfl) rfl), (fun _ => xtb_in (List.mem_of_getElem? (i := 1008) rfl) rfl), (fun h => absurd h (by decide)), fun h => by first | exact absurd rfl h | decide⟩
set_option maxRecDepth 100000 in
theorem xmo_177 : xmOK xmi_177 := ⟨xtb_in (List.mem_of_getElem? (i := 1017) rfl) rfl, xpi_6, rfl, xpn_6, xph_6, by decide +kernel, (fun h => absurd h (by decide)), (fun _ => xtb_in (List.mem_of_getElem? (i := 1016) rfl) rfl), (fun _ => xtb_in (List.mem_of_getElem? (i := 75) rfl) rfl), (fun h => absurd h (by decide)), fun h => by first | exact absurd rfl h | decide⟩
set_option maxRecDepth 100000 in
theorem xmo_178 : xmOK xmi_178 := ⟨xtb_in (List.mem_of_getElem? (i := 1013) rfl) rfl, xpi_6, rfl, xpn_6, xph_6, by decide +kernel, (fun h => absurd h (by decide)), (fun _ => xtb_in (List.mem_of_getElem? (i := 1011) rfl) rfl), (fun _ => xtb_in (List.mem_of_getElem? (i := 1012) rfl) rfl), (fun h => absurd h (by decide)), fun h => by first | exact absurd rfl h | decide⟩
set_option maxRecDepth 100000 in
theorem xmo_179 : xmOK xmi_179 := ⟨xtb_in (List.mem_of_getElem? (i := 1025) rfl) rfl, xpi_6, rfl, xpn_6, xph_6, by decide +kernel, (fun h => absurd h (by decide)), (fun _ => xtb_in (List.mem_of_getElem? (i := 1024) rfl) rfl), (fun _ => xtb_in (List.mem_of_getElem? (i := 76) rfl) rfl), (fun h => absurd h (by decide)), fun h => by first | exact absurd rfl h | decide⟩
set_option maxRecDepth 100000 in
theorem xmo_180 : xmOK xmi_180 := ⟨xtb_in (List.mem_of_getElem? (i := 1021) rfl) rfl, xpi_6, rfl, xpn_6, xph_6, by decide +kernel, (fun h => absurd h (by decide)), (fun _ => xtb_in (List.mem_of_getElem? (i := 1019) rfl) rfl), (fun _ => xtb_in (List.mem_of_getElem? (i := 1020) rfl) rfl), (fun h => absurd h (by decide)), fun h => by first | exact absurd rfl h | decide⟩
set_option maxRecDepth 100000 in
theorem xmo_181 : xmOK xmi_181 := ⟨xtb_in (List.mem_of_getElem? (i := 1029) rfl) rfl, xpi_6, rfl, xpn_6, xph_6, by decide +kernel, (fun h => absurd h (by decide)), (fun _ => xtb_in (List.mem_of_getElem? (i := 1027) rfl) rfl), (fun _ => xtb_in (List.mem_of_getElem? (i := 1028) rfl) rfl), (fun h => absurd h (by decide)), fun h => by first | exact absurd rfl h | decide⟩
set_option maxRecDepth 100000 in
theorem xmo_182 : xmOK xmi_182 := ⟨xtb_in (List.mem_of_getElem? (i := 1033) rfl) rfl, xpi_6, rfl, xpn_6, xph_6, by decide +kernel, (fun h => absurd h (by decide)), (fun _ => xtb_in (List.mem_of_getElem? (i := 1031) rfl) rfl), (fun _ => xtb_in (List.mem_of_getElem? (i := 1032) rfl) rfl), (fun h => absurd h (by decide)), fun h => by first | exact absurd rfl h | decide⟩
set_option maxRecDepth 100000 in
theorem xmo_183 : xmOK xmi_183 := ⟨xtb_in (List.mem_of_getElem? (i := 1037) rfl) rfl, xpi_6, rfl, xpn_6, xph_6, by decide +kernel, (fun h => absurd h (by decide)), (fun _ => xtb_in (List.mem_of_getElem? (i := 1035) rfl) rfl), (fun _ => xtb_in (List.mem_of_getElem? (i := 1036) rfl) rfl), (fun h => absurd h (by decide)), fun h => by first | exact absurd rfl h | decide⟩
set_option maxRecDepth 100000 in
theorem xmo_184 : xmOK xmi_184 := ⟨xtb_in (List.mem_of_getElem? (i := 1053) rfl) rfl, xpi_6, rfl, xpn_6, xph_6, by decide +kernel, (fun h => absurd h (by decide)), (fun _ => xtb_in (List.mem_of_getElem? (i := 1052) rfl) rfl), (fun _ => xtb_in (List.mem_of_getElem? (i := 79) rfl) rfl), (fun h => absurd h (by decide)), fun h => by first | exact absurd rfl h | decide⟩
set_option maxRecDepth 100000 in
theorem xmo_185 : xmOK xmi_185 := ⟨xtb_in (List.mem_of_getElem? (i := 1049) rfl) rfl, xpi_6, rfl, xpn_6, xph_6, by decide +kernel, (fun h => absurd h (by decide)), (fun _ => xtb_in (List.mem_of_getElem? (i := 1048) rfl) rfl), (fun _ => xtb_in (List.mem_of_getElem? (i := 78) rfl) rfl), (fun h => absurd h (by decide)), fun h => by first | exact absurd rfl h | decide⟩
set_option maxRecDepth 100000 in
theorem xmo_186 : xmOK xmi_186 := ⟨xtb_in (List.mem_of_getElem? (i := 1064) rfl) rfl, xpi_6, rfl, xpn_6, xph_6, by decide +kernel, (fun h => absurd h (by decide)), (fun _ => xtb_in (List.mem_of_getElem? (i := 1063) rfl) rfl), (fun _ => xtb_in (List.mem_of_getElem? (i := 81) rfl) rfl), (fun h => absurd h (by decide)), fun h => by first | exact absurd rfl h | decide⟩
set_option maxRecDepth 100000 in
theorem xmo_187 : xmOK xmi_187 := ⟨xtb_in (List.mem_of_getElem? (i := 1060) rfl) rfl, xpi_6, rfl, xpn_6, xph_6, by decide +kernel, (fun _ => xtb_in (List.mem_of_getElem? (i := 1059) rfl) rfl), (fun h => absurd rfl h), (fun h => absurd h (by decide)), (fun h => absurd h (by decide)), fun h => by first | exact absurd rfl h | decide⟩
set_option maxRecDepth 100000 in
theorem xmo_188 : xmOK xmi_188 := ⟨xtb_in (List.mem_of_getElem? (i := 1068) rfl) rfl, xpi_6, rfl, xpn_6, xph_6, by decide +kernel, (fun h => absurd h (by decide)), (fun _ => xtb_in (List.mem_of_getElem? (i := 1067) rfl) rfl), (fun _ => xtb_in (List.mem_of_getElem? (i := 82) rfl) rfl), (fun h => absurd h (by decide)), fun h => by first | exact absurd rfl h | decide⟩
set_option maxRecDepth 100000 in
theorem xmo_189 : xmOK xmi_189 := ⟨xtb_in (List.mem_of_getElem? (i := 1057) rfl) rfl, xpi_6, rfl, xpn_6, xph_6, by decide +kernel, (fun h => absurd h (by decide)), (fun _ => xtb_in (List.mem_of_getElem? (i := 1056) rfl) rfl), (fun _ => xtb_in (List.mem_of_getElem? (i := 80) rfl) rfl), (fun h => absurd h (by decide)), fun h => by first | exact absurd rfl h | decide⟩
set_option maxRecDepth 100000 in
theorem xmo_190 : xmOK xmi_190 := ⟨xtb_in (List.mem_of_getElem? (i := 1045) rfl) rfl, xpi_6, rfl, xpn_6, xph_6, by decide +kernel, (fun h => absurd h (by decide)), (fun _ => xtb_in (List.mem_of_getElem? (i := 1044) rfl) rfl), (fun _ => xtb_in (List.mem_of_getElem? (i := 77) rfl) rfl), (fun h => absurd h (by decide)), fun h => by first | exact absurd rfl h | decide⟩
set_option maxRecDepth 100000 in
theorem xmo_191 : xmOK xmi_191 := ⟨xtb_in (List.mem_of_getElem? (i := 1072) rfl) rfl, xpi_6, rfl, xpn_6, xph_6, by decide +kernel, (fun h => absurd h (by decide)), (fun _ => xtb_in (List.mem_of_getElem? (i := 1071) rfl) rfl), (fun _ => xtb_in (List.mem_of_getElem? (i := 83) rfl) rfl), (fun h => absurd h (by decide)), fun h => by first | exact absurd rfl h | decide⟩
set_option maxRecDepth 100000 in
theorem xmo_192 : xmOK xmi_192 := ⟨xtb_in (List.mem_of_getElem? (i := 1041) rfl) rfl, xpi_6, rfl, xpn_6, xph_6, by decide +kernel, (fun h => absurd h (by decide)), (fun _ => xtb_in (List.mem_of_getElem? (i := 1039) rfl) rfl), (fun _ => xtb_in (List.mem_of_getElem? (i := 1040) rfl) rfl), (fun h => absurd h (by decide)), fun h => by first | exact absurd rfl h | decide⟩
set_option maxRecDepth 100000 in
theorem xmo_193 : xmOK xmi_193 := ⟨xtb_in (List.mem_of_getElem? (i := 1080) rfl) rfl, xpi_6, rfl, xpn_6, xph_6, by decide +kernel, (fun h => absurd h (by decide)), (fun _ => xtb_in (List.mem_of_getElem? (i := 1079) rfl) rfl), (fun _ => xtb_in (List.mem_of_getElem? (i := 84) rfl) rfl), (fun h => absurd h (by decide)), fun h => by first | exact absurd rfl h | decide⟩
set_option maxRecDepth 100000 in
theorem xmo_194 : xmOK xmi_194 := ⟨xtb_in (List.mem_of_getElem? (i := 1076) rfl) rfl, xpi_6, rfl, xpn_6, xph_6, by decide +kernel, (fun h => absurd h (by decide)), (fun _ => xtb_in (List.mem_of_getElem? (i := 1074) rfl) rfl), (fun _ => xtb_in (List.mem_of_getElem? (i := 1075) rfl) rfl), (fun h => absurd h (by decide)), fun h => by first | exact absurd rfl h | decide⟩
set_option maxRecDepth 100000 in
theorem xmo_195 : xmOK xmi_195 := ⟨xtb_in (List.mem_of_getElem? (i := 1089) rfl) rfl, xpi_6, rfl, xpn_6, xph_6, by decide +kernel, (fun h => absurd h (by decide)), (fun _ => xtb_in (List.mem_of_getElem? (i := 1088) rfl) rfl), (fun _ => xtb_in (List.mem_of_getElem? (i := 85) rfl) rfl), (fun h => absurd h (by decide)), fun h => by first | exact absurd rfl h | decide⟩
set_option maxRecDepth 100000 in
theorem xmo_196 : xmOK xmi_196 := ⟨xtb_in (List.mem_of_getElem? (i := 1084) rfl) rfl, xpi_6, rfl, xpn_6, xph_6, by decide +kernel, (fun h => absurd h (by decide)), (fun _ => xtb_in (List.mem_of_getElem? (i := 1082) rfl) rfl), (fun _ => xtb_in (List.mem_of_getElem? (i := 1083) rfl) rfl), (fun h => absurd h (by decide)), fun h => by first | exact absurd rfl h | decide⟩
set_option maxRecDepth 100000 in
theorem xmos : ∀ q ∈ xmis, xmOK q := List.forall_mem_cons.mpr ⟨xmo_0, List.forall_mem_cons.mpr ⟨xmo_1, List.forall_mem_cons.mpr ⟨xmo_2, List.forall_mem_cons.mpr ⟨xmo_3, List.forall_mem_cons.mpr ⟨xmo_4, List.forall_mem_cons.mpr ⟨xmo_5, List.forall_mem_cons.mpr ⟨xmo_6, List.forall_mem_cons.mpr ⟨xmo_7, List.forall_mem_cons.mpr ⟨xmo_8, List.forall_mem_cons.mpr ⟨xmo_9, List.forall_mem_cons.mpr ⟨xmo_10, List.forall_mem_cons.mpr ⟨xmo_11, List.forall_mem_cons.mpr ⟨xmo_12, List.forall_mem_cons.mpr ⟨xmo_13, List.forall_mem_cons.mpr ⟨xmo_14, List.forall_mem_cons.mpr ⟨xmo_15, List.forall_mem_cons.mpr ⟨xmo_16, List.forall_mem_cons.mpr ⟨xmo_17, List.forall_mem_cons.mpr ⟨xmo_18, List.forall_mem_cons.mpr ⟨xmo_19, List.forall_mem_cons.mpr ⟨xmo_20, List.forall_mem_cons.mpr ⟨xmo_21, List.forall_mem_cons.mpr ⟨xmo_22, List.forall_mem_cons.mpr ⟨xmo_23, List.forall_mem_cons.mpr ⟨xmo_24, List.forall_mem_cons.mpr ⟨xmo_25, List.forall_mem_cons.mpr ⟨xmo_26, List.forall_mem_cons.mpr ⟨xmo_27, List.forall_mem_cons.mpr ⟨xmo_28, List.forall_mem_cons.mpr ⟨xmo_29, List.forall_mem_cons.mpr ⟨xmo_30, List.forall_mem_cons.mpr ⟨xmo_31, List.forall_mem_cons.mpr ⟨xmo_32, List.forall_mem_cons.mpr ⟨xmo_33, List.forall_mem_cons.mpr ⟨xmo_34, List.forall_mem_cons.mpr ⟨xmo_35, List.forall_mem_cons.mpr ⟨xmo_36, List.forall_mem_cons.mpr ⟨xmo_37, List.forall_mem_cons.mpr ⟨xmo_38, List.forall_mem_cons.mpr ⟨xmo_39, List.forall_mem_cons.mpr ⟨xmo_40, List.forall_mem_cons.mpr ⟨xmo_41, List.forall_mem_cons.mpr ⟨xmo_42, List.forall_mem_cons.mpr ⟨xmo_43, List.forall_mem_cons.mpr ⟨xmo_44, List.forall_mem_cons.mpr ⟨xmo_45, List.forall_mem_cons.mpr ⟨xmo_46, List.forall_mem_cons.mpr ⟨xmo_47, List.forall_mem_cons.mpr ⟨xmo_48, List.forall_mem_cons.mpr ⟨xmo_49, List.forall_mem_cons.mpr ⟨xmo_50, List.forall_mem_cons.mpr ⟨xmo_51, List.forall_mem_cons.mpr ⟨xmo_52, List.forall_mem_cons.mpr ⟨xmo_53, List.forall_mem_cons.mpr ⟨xmo_54, List.forall_mem_cons.mpr ⟨xmo_55, List.forall_mem_cons.mpr ⟨xmo_56, List.forall_mem_cons.mpr ⟨xmo_57, List.forall_mem_cons.mpr ⟨xmo_58, List.forall_mem_cons.mpr ⟨xmo_59, List.forall_mem_cons.mpr ⟨xmo_60, List.forall_mem_cons.mpr ⟨xmo_61, List.forall_mem_cons.mpr ⟨xmo_62, List.forall_mem_cons.mpr ⟨xmo_63, List.forall_mem_cons.mpr ⟨xmo_64, List.forall_mem_cons.mpr ⟨xmo_65, List.forall_mem_cons.mpr ⟨xmo_66, List.forall_mem_cons.mpr ⟨xmo_67, List.forall_mem_cons.mpr ⟨xmo_68, List.forall_mem_cons.mpr ⟨xmo_69, List.forall_mem_cons.mpr ⟨xmo_70, List.forall_mem_cons.mpr ⟨xmo_71, List.forall_mem_cons.mpr ⟨xmo_72, List.forall_mem_cons.mpr ⟨xmo_73, List.forall_mem_cons.mpr ⟨xmo_74, List.forall_mem_cons.mpr ⟨xmo_75, List.forall_mem_cons.mpr ⟨xmo_76, List.forall_mem_cons.mpr ⟨xmo_77, List.forall_mem_cons.mpr ⟨xmo_78, List.forall_mem_cons.mpr ⟨xmo_79, List.forall_mem_cons.mpr ⟨xmo_80, List.forall_mem_cons.mpr ⟨xmo_81, List.forall_mem_cons.mpr ⟨xmo_82, List.forall_mem_cons.mpr ⟨xmo_83, List.forall_mem_cons.mpr ⟨xmo_84, List.forall_mem_cons.mpr ⟨xmo_85, List.forall_mem_cons.mpr ⟨xmo_86, List.forall_mem_cons.mpr ⟨xmo_87, List.forall_mem_cons.mpr ⟨xmo_88, List.forall_mem_cons.mpr ⟨xmo_89, List.forall_mem_cons.mpr ⟨xmo_90, List.forall_mem_cons.mpr ⟨xmo_91, List.forall_mem_cons.mpr ⟨xmo_92, List.forall_mem_cons.mpr ⟨xmo_93, List.forall_mem_cons.mpr ⟨xmo_94, List.forall_mem_cons.mpr ⟨xmo_95, List.forall_mem_cons.mpr ⟨xmo_96, List.forall_mem_cons.mpr ⟨xmo_97, List.forall_mem_cons.mpr ⟨xmo_98, List.forall_mem_cons.mpr ⟨xmo_99, List.forall_mem_cons.mpr ⟨xmo_100, List.forall_mem_cons.mpr ⟨xmo_101, List.forall_mem_cons.mpr ⟨xmo_102, List.forall_mem_cons.mpr ⟨xmo_103, List.forall_mem_cons.mpr ⟨xmo_104, List.forall_mem_cons.mpr ⟨xmo_105, List.forall_mem_cons.mpr ⟨xmo_106, List.forall_mem_cons.mpr ⟨xmo_107, List.forall_mem_cons.mpr ⟨xmo_108, List.forall_mem_cons.mpr ⟨xmo_109, List.forall_mem_cons.mpr ⟨xmo_110, List.forall_mem_cons.mpr ⟨xmo_111, List.forall_mem_cons.mpr ⟨xmo_112, List.forall_mem_cons.mpr ⟨xmo_113, List.forall_mem_cons.mpr ⟨xmo_114, List.forall_mem_cons.mpr ⟨xmo_115, List.forall_mem_cons.mpr ⟨xmo_116, List.forall_mem_cons.mpr ⟨xmo_117, List.forall_mem_cons.mpr ⟨xmo_118, List.forall_mem_cons.mpr ⟨xmo_119, List.forall_mem_cons.mpr ⟨xmo_120, List.forall_mem_cons.mpr ⟨xmo_121, List.forall_mem_cons.mpr ⟨xmo_122, List.forall_mem_cons.mpr ⟨xmo_123, List.forall_mem_cons.mpr ⟨xmo_124, List.forall_mem_cons.mpr ⟨xmo_125, List.forall_mem_cons.mpr ⟨xmo_126, List.forall_mem_cons.mpr ⟨xmo_127, List.forall_mem_cons.mpr ⟨xmo_128, List.forall_mem_cons.mpr ⟨xmo_129, List.forall_mem_cons.mpr ⟨xmo_130, List.forall_mem_cons.mpr ⟨xmo_131, List.forall_mem_cons.mpr ⟨xmo_132, List.forall_mem_cons.mpr ⟨xmo_133, List.forall_mem_cons.mpr ⟨xmo_134, List.forall_mem_cons.mpr ⟨xmo_135, List.forall_mem_cons.mpr ⟨xmo_136, List.forall_mem_cons.mpr ⟨xmo_137, List.forall_mem_cons.mpr ⟨xmo_138, List.forall_mem_cons.mpr ⟨xmo_139, List.forall_mem_cons.mpr ⟨xmo_140, List.forall_mem_cons.mpr ⟨xmo_141, List.forall_mem_cons.mpr ⟨xmo_142, List.forall_mem_cons.mpr ⟨xmo_143, List.forall_mem_cons.mpr ⟨xmo_144, List.forall_mem_cons.mpr ⟨xmo_145, List.forall_mem_cons.mpr ⟨xmo_146, List.forall_mem_cons.mpr ⟨xmo_147, List.forall_mem_cons.mpr ⟨xmo_148, List.forall_mem_cons.mpr ⟨xmo_149, List.forall_mem_cons.mpr ⟨xmo_150, List.forall_mem_cons.mpr ⟨xmo_151, List.forall_mem_cons.mpr ⟨xmo_152, List.forall_mem_cons.mpr ⟨xmo_153, List.forall_mem_cons.mpr ⟨xmo_154, List.forall_mem_cons.mpr ⟨xmo_155, List.forall_mem_cons.mpr ⟨xmo_156, List.forall_mem_cons.mpr ⟨xmo_157, List.forall_mem_cons.mpr ⟨xmo_158, List.forall_mem_cons.mpr ⟨xmo_159, List.forall_mem_cons.mpr ⟨xmo_160, List.forall_mem_cons.mpr ⟨xmo_161, List.forall_mem_cons.mpr ⟨xmo_162, List.forall_mem_cons.mpr ⟨xmo_163, List.forall_mem_cons.mpr ⟨xmo_164, List.forall_mem_cons.mpr ⟨xmo_165, List.forall_mem_cons.mpr ⟨xmo_166, List.forall_mem_cons.mpr ⟨xmo_167, List.forall_mem_cons.mpr ⟨xmo_168, List.forall_mem_cons.mpr ⟨xmo_169, List.forall_mem_cons.mpr ⟨xmo_170, List.forall_mem_cons.mpr ⟨xmo_171, List.forall_mem_cons.mpr ⟨xmo_172, List.forall_mem_cons.mpr ⟨xmo_173, List.forall_mem_cons.mpr ⟨xmo_174, List.forall_mem_cons.mpr ⟨xmo_175, List.forall_mem_cons.mpr ⟨xmo_176, List.forall_mem_cons.mpr ⟨xmo_177, List.forall_mem_cons.mpr ⟨xmo_178, List.forall_mem_cons.mpr ⟨xmo_179, List.forall_mem_cons.mpr ⟨xmo_180, List.forall_mem_cons.mpr ⟨xmo_181, List.forall_mem_cons.mpr ⟨xmo_182, List.forall_mem_cons.mpr ⟨xmo_183, List.forall_mem_cons.mpr ⟨xmo_184, List.forall_mem_cons.mpr ⟨xmo_185, List.forall_mem_cons.mpr ⟨xmo_186, List.forall_mem_cons.mpr ⟨xmo_187, List.forall_mem_cons.mpr ⟨xmo_188, List.forall_mem_cons.mpr ⟨xmo_189, List.forall_mem_cons.mpr ⟨xmo_190, List.forall_mem_cons.mpr ⟨xmo_191, List.forall_mem_cons.mpr ⟨xmo_192, List.forall_mem_cons.mpr ⟨xmo_193, List.forall_mem_cons.mpr ⟨xmo_194, List.forall_mem_cons.mpr ⟨xmo_195, List.forall_mem_cons.mpr ⟨xmo_196, fun _ h => absurd h List.not_mem_nil⟩⟩⟩⟩⟩⟩⟩⟩⟩⟩⟩⟩⟩⟩⟩⟩⟩⟩⟩⟩⟩⟩⟩⟩⟩⟩⟩⟩⟩⟩⟩⟩⟩⟩⟩⟩⟩⟩⟩⟩⟩⟩⟩⟩⟩⟩⟩⟩⟩⟩⟩⟩⟩⟩⟩⟩⟩⟩⟩⟩⟩⟩⟩⟩⟩⟩⟩⟩⟩⟩⟩⟩⟩⟩⟩⟩⟩⟩⟩⟩⟩⟩⟩⟩⟩⟩⟩⟩⟩⟩⟩⟩⟩⟩⟩⟩⟩⟩⟩⟩⟩⟩⟩⟩⟩⟩⟩⟩⟩⟩⟩⟩⟩⟩⟩⟩⟩⟩⟩⟩⟩⟩⟩⟩⟩⟩⟩⟩⟩⟩⟩⟩⟩⟩⟩⟩⟩⟩⟩⟩⟩⟩⟩⟩⟩⟩⟩⟩⟩⟩⟩⟩⟩⟩⟩⟩⟩⟩⟩⟩⟩⟩⟩⟩⟩⟩⟩⟩⟩⟩⟩⟩⟩⟩⟩⟩⟩⟩⟩⟩⟩⟩⟩⟩⟩⟩⟩⟩⟩⟩⟩⟩⟩⟩⟩⟩⟩
