theorem pd_of {s : String} {L : List Char} {t : FieldType} (e : s = String.ofList L) (h : (match fieldTypePrefix 0 L with | some (t, []) => some t | _ => none) = some t) : parseFieldDescriptor s = some t := by
  rw [e]; unfold parseFieldDescriptor; rw [String.toList_ofList]; exact h
/-! ===== BEGIN printed: names, fields, word lists, decode rows ===== -/
def RX0 : String := "PlaneColumn$Climbs"
def TX0 : u_T := fun k => match k with
  | 0 => ("PlaneColumn$Climbs", "lengths", "[I", true)
  | 1 => ("PlaneColumn$Climbs", "ways", "[J", true)
  | _ => ("PlaneColumn$Climbs", "longest", "I", false)
def tyX0 : Nat → FieldType := fun k => match k with
  | 0 => .array .int
  | 1 => .array .long
  | _ => .int
abbrev wsX00 : List Cond := u_ws RX0 TX0 3
def LX0 : Nat → List Char := fun k => match k with
  | 0 => ['l', 'e', 'n', 'g', 't', 'h', 's']
  | 1 => ['w', 'a', 'y', 's']
  | _ => ['l', 'o', 'n', 'g', 'e', 's', 't']
theorem nmX0_d : ∀ a, a < 3 → ∀ b, b < 3 → a ≠ b → LX0 a ≠ LX0 b := by decide +kernel
theorem nmX0_l : ∀ a, a < 3 → (TX0 a).2.1 = String.ofList (LX0 a)
  | 0, _ => rfl
  | 1, _ => rfl
  | 2, _ => rfl
  | k + 3, h => absurd h (by omega)
theorem nmX0 : ∀ a, a < 3 → ∀ b, b < 3 → a ≠ b → (TX0 a).2.1 ≠ (TX0 b).2.1 := fun a ha b hb hab h => nmX0_d a ha b hb hab (String.ofList_injective (((nmX0_l a ha).symm.trans h).trans (nmX0_l b hb)))
theorem tyX0_ok : ∀ k, k < 3 → parseFieldDescriptor (TX0 k).2.2.1 = some (tyX0 k)
  | 0, _ => pd_of (L := ['[', 'I']) rfl rfl
  | 1, _ => pd_of (L := ['[', 'J']) rfl rfl
  | 2, _ => pd_of (L := ['I']) rfl rfl
  | k + 3, h => absurd h (by omega)
abbrev cX0_init : ByteArray := prog_2_method_1_code
def yX0_init : MethodName := ⟨RX0, "<init>", "()V"⟩
abbrev cX0_take : ByteArray := prog_2_method_2_code
def yX0_take : MethodName := ⟨RX0, "take", "([III)V"⟩
abbrev cX0_goOn : ByteArray := prog_2_method_3_code
def yX0_goOn : MethodName := ⟨RX0, "goOn", "(II)V"⟩
abbrev cX0_leastEnd : ByteArray := prog_2_method_4_code
def yX0_leastEnd : MethodName := ⟨RX0, "leastEnd", "([III)I"⟩
abbrev cX0_waysToLongest : ByteArray := prog_2_method_5_code
def yX0_waysToLongest : MethodName := ⟨RX0, "waysToLongest", "(II)J"⟩
def RX1 : String := "PlaneColumn$Levels"
def TX1 : u_T := fun k => match k with
  | 0 => ("PlaneColumn$Levels", "bits", "[J", true)
  | 1 => ("PlaneColumn$Levels", "order", "[I", true)
  | 2 => ("PlaneColumn$Levels", "ones", "[I", true)
  | _ => ("PlaneColumn$Levels", "size", "I", false)
def tyX1 : Nat → FieldType := fun k => match k with
  | 0 => .array .long
  | 1 => .array .int
  | 2 => .array .int
  | _ => .int
abbrev wsX10 : List Cond := u_ws RX1 TX1 4
def LX1 : Nat → List Char := fun k => match k with
  | 0 => ['b', 'i', 't', 's']
  | 1 => ['o', 'r', 'd', 'e', 'r']
  | 2 => ['o', 'n', 'e', 's']
  | _ => ['s', 'i', 'z', 'e']
theorem nmX1_d : ∀ a, a < 4 → ∀ b, b < 4 → a ≠ b → LX1 a ≠ LX1 b := by decide +kernel
theorem nmX1_l : ∀ a, a < 4 → (TX1 a).2.1 = String.ofList (LX1 a)
  | 0, _ => rfl
  | 1, _ => rfl
  | 2, _ => rfl
  | 3, _ => rfl
  | k + 4, h => absurd h (by omega)
theorem nmX1 : ∀ a, a < 4 → ∀ b, b < 4 → a ≠ b → (TX1 a).2.1 ≠ (TX1 b).2.1 := fun a ha b hb hab h => nmX1_d a ha b hb hab (String.ofList_injective (((nmX1_l a ha).symm.trans h).trans (nmX1_l b hb)))
theorem tyX1_ok : ∀ k, k < 4 → parseFieldDescriptor (TX1 k).2.2.1 = some (tyX1 k)
  | 0, _ => pd_of (L := ['[', 'J']) rfl rfl
  | 1, _ => pd_of (L := ['[', 'I']) rfl rfl
  | 2, _ => pd_of (L := ['[', 'I']) rfl rfl
  | 3, _ => pd_of (L := ['I']) rfl rfl
  | k + 4, h => absurd h (by omega)
abbrev cX1_init : ByteArray := prog_3_method_1_code
def yX1_init : MethodName := ⟨RX1, "<init>", "()V"⟩
abbrev cX1_remake : ByteArray := prog_3_method_2_code
def yX1_remake : MethodName := ⟨RX1, "remake", "([II)I"⟩
abbrev cX1_placeAt : ByteArray := prog_3_method_3_code
def yX1_placeAt : MethodName := ⟨RX1, "placeAt", "(II)I"⟩
abbrev cX1_startOrder : ByteArray := prog_3_method_4_code
def yX1_startOrder : MethodName := ⟨RX1, "startOrder", "()V"⟩
abbrev cX1_bitsInOrder : ByteArray := prog_3_method_5_code
def yX1_bitsInOrder : MethodName := ⟨RX1, "bitsInOrder", "([II)J"⟩
abbrev cX1_part : ByteArray := prog_3_method_6_code
def yX1_part : MethodName := ⟨RX1, "part", "(J)V"⟩
def RX2 : String := "PlaneColumn$OrderSearch"
def TX2 : u_T := fun k => match k with
  | 0 => ("PlaneColumn$OrderSearch", "lines", "[[J", true)
  | 1 => ("PlaneColumn$OrderSearch", "ones", "[J", true)
  | 2 => ("PlaneColumn$OrderSearch", "tried", "[I", true)
  | 3 => ("PlaneColumn$OrderSearch", "best", "[I", true)
  | 4 => ("PlaneColumn$OrderSearch", "order", "[I", true)
  | 5 => ("PlaneColumn$OrderSearch", "size", "I", false)
  | 6 => ("PlaneColumn$OrderSearch", "variedCount", "I", false)
  | 7 => ("PlaneColumn$OrderSearch", "fewest", "I", false)
  | _ => ("PlaneColumn$OrderSearch", "known", "Z", false)
def tyX2 : Nat → FieldType := fun k => match k with
  | 0 => .array (.array .long)
  | 1 => .array .long
  | 2 => .array .int
  | 3 => .array .int
  | 4 => .array .int
  | 5 => .int
  | 6 => .int
  | 7 => .int
  | _ => .boolean
abbrev wsX20 : List Cond := u_ws RX2 TX2 9
def LX2 : Nat → List Char := fun k => match k with
  | 0 => ['l', 'i', 'n', 'e', 's']
  | 1 => ['o', 'n', 'e', 's']
  | 2 => ['t', 'r', 'i', 'e', 'd']
  | 3 => ['b', 'e', 's', 't']
  | 4 => ['o', 'r', 'd', 'e', 'r']
  | 5 => ['s', 'i', 'z', 'e']
  | 6 => ['v', 'a', 'r', 'i', 'e', 'd', 'C', 'o', 'u', 'n', 't']
  | 7 => ['f', 'e', 'w', 'e', 's', 't']
  | _ => ['k', 'n', 'o', 'w', 'n']
theorem nmX2_d : ∀ a, a < 9 → ∀ b, b < 9 → a ≠ b → LX2 a ≠ LX2 b := by decide +kernel
theorem nmX2_l : ∀ a, a < 9 → (TX2 a).2.1 = String.ofList (LX2 a)
  | 0, _ => rfl
  | 1, _ => rfl
  | 2, _ => rfl
  | 3, _ => rfl
  | 4, _ => rfl
  | 5, _ => rfl
  | 6, _ => rfl
  | 7, _ => rfl
  | 8, _ => rfl
  | k + 9, h => absurd h (by omega)
theorem nmX2 : ∀ a, a < 9 → ∀ b, b < 9 → a ≠ b → (TX2 a).2.1 ≠ (TX2 b).2.1 := fun a ha b hb hab h => nmX2_d a ha b hb hab (String.ofList_injective (((nmX2_l a ha).symm.trans h).trans (nmX2_l b hb)))
theorem tyX2_ok : ∀ k, k < 9 → parseFieldDescriptor (TX2 k).2.2.1 = some (tyX2 k)
  | 0, _ => pd_of (L := ['[', '[', 'J']) rfl rfl
  | 1, _ => pd_of (L := ['[', 'J']) rfl rfl
  | 2, _ => pd_of (L := ['[', 'I']) rfl rfl
  | 3, _ => pd_of (L := ['[', 'I']) rfl rfl
  | 4, _ => pd_of (L := ['[', 'I']) rfl rfl
  | 5, _ => pd_of (L := ['I']) rfl rfl
  | 6, _ => pd_of (L := ['I']) rfl rfl
  | 7, _ => pd_of (L := ['I']) rfl rfl
  | 8, _ => pd_of (L := ['Z']) rfl rfl
  | k + 9, h => absurd h (by omega)
abbrev cX2_init : ByteArray := prog_4_method_1_code
def yX2_init : MethodName := ⟨RX2, "<init>", "()V"⟩
abbrev cX2_forget : ByteArray := prog_4_method_2_code
def yX2_forget : MethodName := ⟨RX2, "forget", "()V"⟩
abbrev cX2_search : ByteArray := prog_4_method_3_code
def yX2_search : MethodName := ⟨RX2, "search", "([II)I"⟩
abbrev cX2_takeLine : ByteArray := prog_4_method_4_code
def yX2_takeLine : MethodName := ⟨RX2, "takeLine", "([I)I"⟩
abbrev cX2_lanesOf : ByteArray := prog_4_method_5_code
def yX2_lanesOf : MethodName := ⟨RX2, "lanesOf", "(I)J"⟩
abbrev cX2_tryBits : ByteArray := prog_4_method_6_code
def yX2_tryBits : MethodName := ⟨RX2, "tryBits", "(III)V"⟩
abbrev cX2_takeBit : ByteArray := prog_4_method_7_code
def yX2_takeBit : MethodName := ⟨RX2, "takeBit", "(III)V"⟩
abbrev cX2_changesOf : ByteArray := prog_4_method_8_code
def yX2_changesOf : MethodName := ⟨RX2, "changesOf", "([J)J"⟩
abbrev cX2_part : ByteArray := prog_4_method_9_code
def yX2_part : MethodName := ⟨RX2, "part", "([J[JI)V"⟩
abbrev cX2_fillOrder : ByteArray := prog_4_method_10_code
def yX2_fillOrder : MethodName := ⟨RX2, "fillOrder", "(I)V"⟩
def RX3 : String := "PlaneColumn$PartReader"
def TX3 : u_T := fun k => match k with
  | 0 => ("PlaneColumn$PartReader", "numbers", "[I", true)
  | 1 => ("PlaneColumn$PartReader", "size", "I", false)
  | _ => ("PlaneColumn$PartReader", "at", "I", false)
def tyX3 : Nat → FieldType := fun k => match k with
  | 0 => .array .int
  | 1 => .int
  | _ => .int
abbrev wsX30 : List Cond := u_ws RX3 TX3 3
def LX3 : Nat → List Char := fun k => match k with
  | 0 => ['n', 'u', 'm', 'b', 'e', 'r', 's']
  | 1 => ['s', 'i', 'z', 'e']
  | _ => ['a', 't']
theorem nmX3_d : ∀ a, a < 3 → ∀ b, b < 3 → a ≠ b → LX3 a ≠ LX3 b := by decide +kernel
theorem nmX3_l : ∀ a, a < 3 → (TX3 a).2.1 = String.ofList (LX3 a)
  | 0, _ => rfl
  | 1, _ => rfl
  | 2, _ => rfl
  | k + 3, h => absurd h (by omega)
theorem nmX3 : ∀ a, a < 3 → ∀ b, b < 3 → a ≠ b → (TX3 a).2.1 ≠ (TX3 b).2.1 := fun a ha b hb hab h => nmX3_d a ha b hb hab (String.ofList_injective (((nmX3_l a ha).symm.trans h).trans (nmX3_l b hb)))
theorem tyX3_ok : ∀ k, k < 3 → parseFieldDescriptor (TX3 k).2.2.1 = some (tyX3 k)
  | 0, _ => pd_of (L := ['[', 'I']) rfl rfl
  | 1, _ => pd_of (L := ['I']) rfl rfl
  | 2, _ => pd_of (L := ['I']) rfl rfl
  | k + 3, h => absurd h (by omega)
abbrev cX3_init : ByteArray := prog_5_method_1_code
def yX3_init : MethodName := ⟨RX3, "<init>", "()V"⟩
abbrev cX3_read : ByteArray := prog_5_method_2_code
def yX3_read : MethodName := ⟨RX3, "read", "(LPlaneColumn$Signs;)I"⟩
abbrev cX3_readPart : ByteArray := prog_5_method_3_code
def yX3_readPart : MethodName := ⟨RX3, "readPart", "(LPlaneColumn$Signs;)I"⟩
abbrev cX3_readDigits : ByteArray := prog_5_method_4_code
def yX3_readDigits : MethodName := ⟨RX3, "readDigits", "(LPlaneColumn$Signs;III)I"⟩
abbrev cX3_isDigit : ByteArray := prog_5_method_5_code
def yX3_isDigit : MethodName := ⟨RX3, "isDigit", "(I)Z"⟩
def RX4 : String := "PlaneColumn$PlaneReader"
def TX4 : u_T := fun k => match k with
  | 0 => ("PlaneColumn$PlaneReader", "bits", "[J", true)
  | _ => ("PlaneColumn$PlaneReader", "width", "I", false)
def tyX4 : Nat → FieldType := fun k => match k with
  | 0 => .array .long
  | _ => .int
abbrev wsX40 : List Cond := u_ws RX4 TX4 2
def LX4 : Nat → List Char := fun k => match k with
  | 0 => ['b', 'i', 't', 's']
  | _ => ['w', 'i', 'd', 't', 'h']
theorem nmX4_d : ∀ a, a < 2 → ∀ b, b < 2 → a ≠ b → LX4 a ≠ LX4 b := by decide +kernel
theorem nmX4_l : ∀ a, a < 2 → (TX4 a).2.1 = String.ofList (LX4 a)
  | 0, _ => rfl
  | 1, _ => rfl
  | k + 2, h => absurd h (by omega)
theorem nmX4 : ∀ a, a < 2 → ∀ b, b < 2 → a ≠ b → (TX4 a).2.1 ≠ (TX4 b).2.1 := fun a ha b hb hab h => nmX4_d a ha b hb hab (String.ofList_injective (((nmX4_l a ha).symm.trans h).trans (nmX4_l b hb)))
theorem tyX4_ok : ∀ k, k < 2 → parseFieldDescriptor (TX4 k).2.2.1 = some (tyX4 k)
  | 0, _ => pd_of (L := ['[', 'J']) rfl rfl
  | 1, _ => pd_of (L := ['I']) rfl rfl
  | k + 2, h => absurd h (by omega)
abbrev cX4_init : ByteArray := prog_6_method_1_code
def yX4_init : MethodName := ⟨RX4, "<init>", "()V"⟩
abbrev cX4_read : ByteArray := prog_6_method_2_code
def yX4_read : MethodName := ⟨RX4, "read", "(LPlaneColumn$Signs;)I"⟩
abbrev cX4_readBits : ByteArray := prog_6_method_3_code
def yX4_readBits : MethodName := ⟨RX4, "readBits", "(LPlaneColumn$Signs;III)I"⟩
abbrev cX4_isBit : ByteArray := prog_6_method_4_code
def yX4_isBit : MethodName := ⟨RX4, "isBit", "(I)Z"⟩
def RX5 : String := "PlaneColumn$Signs"
def TX5 : u_T := fun k => match k with
  | 0 => ("PlaneColumn$Signs", "codes", "[I", true)
  | _ => ("PlaneColumn$Signs", "size", "I", false)
def tyX5 : Nat → FieldType := fun k => match k with
  | 0 => .array .int
  | _ => .int
abbrev wsX50 : List Cond := u_ws RX5 TX5 2
def LX5 : Nat → List Char := fun k => match k with
  | 0 => ['c', 'o', 'd', 'e', 's']
  | _ => ['s', 'i', 'z', 'e']
theorem nmX5_d : ∀ a, a < 2 → ∀ b, b < 2 → a ≠ b → LX5 a ≠ LX5 b := by decide +kernel
theorem nmX5_l : ∀ a, a < 2 → (TX5 a).2.1 = String.ofList (LX5 a)
  | 0, _ => rfl
  | 1, _ => rfl
  | k + 2, h => absurd h (by omega)
theorem nmX5 : ∀ a, a < 2 → ∀ b, b < 2 → a ≠ b → (TX5 a).2.1 ≠ (TX5 b).2.1 := fun a ha b hb hab h => nmX5_d a ha b hb hab (String.ofList_injective (((nmX5_l a ha).symm.trans h).trans (nmX5_l b hb)))
theorem tyX5_ok : ∀ k, k < 2 → parseFieldDescriptor (TX5 k).2.2.1 = some (tyX5 k)
  | 0, _ => pd_of (L := ['[', 'I']) rfl rfl
  | 1, _ => pd_of (L := ['I']) rfl rfl
  | k + 2, h => absurd h (by omega)
abbrev cX5_init : ByteArray := prog_7_method_1_code
def yX5_init : MethodName := ⟨RX5, "<init>", "()V"⟩
abbrev cX5_add : ByteArray := prog_7_method_2_code
def yX5_add : MethodName := ⟨RX5, "add", "(I)Z"⟩
abbrev cX5_keep : ByteArray := prog_7_method_3_code
def yX5_keep : MethodName := ⟨RX5, "keep", "(I)Z"⟩
abbrev cX5_at : ByteArray := prog_7_method_4_code
def yX5_at : MethodName := ⟨RX5, "at", "(I)I"⟩
def RX6 : String := "PlaneColumn$Tally"
def TX6 : u_T := fun k => match k with
  | 0 => ("PlaneColumn$Tally", "nodes", "[I", true)
  | 1 => ("PlaneColumn$Tally", "sorted", "[I", true)
  | _ => ("PlaneColumn$Tally", "size", "I", false)
def tyX6 : Nat → FieldType := fun k => match k with
  | 0 => .array .int
  | 1 => .array .int
  | _ => .int
abbrev wsX60 : List Cond := u_ws RX6 TX6 3
def LX6 : Nat → List Char := fun k => match k with
  | 0 => ['n', 'o', 'd', 'e', 's']
  | 1 => ['s', 'o', 'r', 't', 'e', 'd']
  | _ => ['s', 'i', 'z', 'e']
theorem nmX6_d : ∀ a, a < 3 → ∀ b, b < 3 → a ≠ b → LX6 a ≠ LX6 b := by decide +kernel
theorem nmX6_l : ∀ a, a < 3 → (TX6 a).2.1 = String.ofList (LX6 a)
  | 0, _ => rfl
  | 1, _ => rfl
  | 2, _ => rfl
  | k + 3, h => absurd h (by omega)
theorem nmX6 : ∀ a, a < 3 → ∀ b, b < 3 → a ≠ b → (TX6 a).2.1 ≠ (TX6 b).2.1 := fun a ha b hb hab h => nmX6_d a ha b hb hab (String.ofList_injective (((nmX6_l a ha).symm.trans h).trans (nmX6_l b hb)))
theorem tyX6_ok : ∀ k, k < 3 → parseFieldDescriptor (TX6 k).2.2.1 = some (tyX6 k)
  | 0, _ => pd_of (L := ['[', 'I']) rfl rfl
  | 1, _ => pd_of (L := ['[', 'I']) rfl rfl
  | 2, _ => pd_of (L := ['I']) rfl rfl
  | k + 3, h => absurd h (by omega)
abbrev cX6_init : ByteArray := prog_8_method_1_code
def yX6_init : MethodName := ⟨RX6, "<init>", "()V"⟩
abbrev cX6_take : ByteArray := prog_8_method_2_code
def yX6_take : MethodName := ⟨RX6, "take", "([III)V"⟩
abbrev cX6_sort : ByteArray := prog_8_method_3_code
def yX6_sort : MethodName := ⟨RX6, "sort", "()V"⟩
abbrev cX6_timesOf : ByteArray := prog_8_method_4_code
def yX6_timesOf : MethodName := ⟨RX6, "timesOf", "(I)I"⟩
abbrev cX6_inNode : ByteArray := prog_8_method_5_code
def yX6_inNode : MethodName := ⟨RX6, "inNode", "(II)I"⟩
abbrev cX6_sortedAt : ByteArray := prog_8_method_6_code
def yX6_sortedAt : MethodName := ⟨RX6, "sortedAt", "(I)I"⟩
abbrev cX6_nodesWith : ByteArray := prog_8_method_7_code
def yX6_nodesWith : MethodName := ⟨RX6, "nodesWith", "(I)I"⟩
abbrev cX6_nodesSharedWith : ByteArray := prog_8_method_8_code
def yX6_nodesSharedWith : MethodName := ⟨RX6, "nodesSharedWith", "(LPlaneColumn$Tally;)I"⟩
abbrev cX6_visitsOfBand : ByteArray := prog_8_method_9_code
def yX6_visitsOfBand : MethodName := ⟨RX6, "visitsOfBand", "(II)I"⟩
abbrev cX6_isWithin : ByteArray := prog_8_method_10_code
def yX6_isWithin : MethodName := ⟨RX6, "isWithin", "(IIII)Z"⟩
def RX7 : String := "PlaneColumn$Told"
def TX7 : u_T := fun k => match k with
  | 0 => ("PlaneColumn$Told", "values", "[J", true)
  | _ => ("PlaneColumn$Told", "size", "I", false)
def tyX7 : Nat → FieldType := fun k => match k with
  | 0 => .array .long
  | _ => .int
abbrev wsX70 : List Cond := u_ws RX7 TX7 2
def LX7 : Nat → List Char := fun k => match k with
  | 0 => ['v', 'a', 'l', 'u', 'e', 's']
  | _ => ['s', 'i', 'z', 'e']
theorem nmX7_d : ∀ a, a < 2 → ∀ b, b < 2 → a ≠ b → LX7 a ≠ LX7 b := by decide +kernel
theorem nmX7_l : ∀ a, a < 2 → (TX7 a).2.1 = String.ofList (LX7 a)
  | 0, _ => rfl
  | 1, _ => rfl
  | k + 2, h => absurd h (by omega)
theorem nmX7 : ∀ a, a < 2 → ∀ b, b < 2 → a ≠ b → (TX7 a).2.1 ≠ (TX7 b).2.1 := fun a ha b hb hab h => nmX7_d a ha b hb hab (String.ofList_injective (((nmX7_l a ha).symm.trans h).trans (nmX7_l b hb)))
theorem tyX7_ok : ∀ k, k < 2 → parseFieldDescriptor (TX7 k).2.2.1 = some (tyX7 k)
  | 0, _ => pd_of (L := ['[', 'J']) rfl rfl
  | 1, _ => pd_of (L := ['I']) rfl rfl
  | k + 2, h => absurd h (by omega)
abbrev cX7_init : ByteArray := prog_9_method_1_code
def yX7_init : MethodName := ⟨RX7, "<init>", "()V"⟩
abbrev cX7_begin : ByteArray := prog_9_method_2_code
def yX7_begin : MethodName := ⟨RX7, "begin", "()V"⟩
abbrev cX7_add : ByteArray := prog_9_method_3_code
def yX7_add : MethodName := ⟨RX7, "add", "(J)V"⟩
def RX8 : String := "PlaneColumn"
def TX8 : u_T := fun k => match k with
  | 0 => ("PlaneColumn", "numbers", "[I", true)
  | 1 => ("PlaneColumn", "size", "I", false)
  | 2 => ("PlaneColumn", "levels", "LPlaneColumn$Levels;", true)
  | 3 => ("PlaneColumn", "text", "LPlaneColumn$Signs;", true)
  | 4 => ("PlaneColumn", "told", "LPlaneColumn$Told;", true)
  | 5 => ("PlaneColumn", "first", "LPlaneColumn$Tally;", true)
  | 6 => ("PlaneColumn", "second", "LPlaneColumn$Tally;", true)
  | 7 => ("PlaneColumn", "partReader", "LPlaneColumn$PartReader;", true)
  | 8 => ("PlaneColumn", "planeReader", "LPlaneColumn$PlaneReader;", true)
  | 9 => ("PlaneColumn", "orderSearch", "LPlaneColumn$OrderSearch;", true)
  | _ => ("PlaneColumn", "climbs", "LPlaneColumn$Climbs;", true)
def tyX8 : Nat → FieldType := fun k => match k with
  | 0 => .array .int
  | 1 => .int
  | 2 => .object "PlaneColumn$Levels"
  | 3 => .object "PlaneColumn$Signs"
  | 4 => .object "PlaneColumn$Told"
  | 5 => .object "PlaneColumn$Tally"
  | 6 => .object "PlaneColumn$Tally"
  | 7 => .object "PlaneColumn$PartReader"
  | 8 => .object "PlaneColumn$PlaneReader"
  | 9 => .object "PlaneColumn$OrderSearch"
  | _ => .object "PlaneColumn$Climbs"
abbrev wsX80 : List Cond := u_ws RX8 TX8 11
def LX8 : Nat → List Char := fun k => match k with
  | 0 => ['n', 'u', 'm', 'b', 'e', 'r', 's']
  | 1 => ['s', 'i', 'z', 'e']
  | 2 => ['l', 'e', 'v', 'e', 'l', 's']
  | 3 => ['t', 'e', 'x', 't']
  | 4 => ['t', 'o', 'l', 'd']
  | 5 => ['f', 'i', 'r', 's', 't']
  | 6 => ['s', 'e', 'c', 'o', 'n', 'd']
  | 7 => ['p', 'a', 'r', 't', 'R', 'e', 'a', 'd', 'e', 'r']
  | 8 => ['p', 'l', 'a', 'n', 'e', 'R', 'e', 'a', 'd', 'e', 'r']
  | 9 => ['o', 'r', 'd', 'e', 'r', 'S', 'e', 'a', 'r', 'c', 'h']
  | _ => ['c', 'l', 'i', 'm', 'b', 's']
theorem nmX8_d : ∀ a, a < 11 → ∀ b, b < 11 → a ≠ b → LX8 a ≠ LX8 b := by decide +kernel
theorem nmX8_l : ∀ a, a < 11 → (TX8 a).2.1 = String.ofList (LX8 a)
  | 0, _ => rfl
  | 1, _ => rfl
  | 2, _ => rfl
  | 3, _ => rfl
  | 4, _ => rfl
  | 5, _ => rfl
  | 6, _ => rfl
  | 7, _ => rfl
  | 8, _ => rfl
  | 9, _ => rfl
  | 10, _ => rfl
  | k + 11, h => absurd h (by omega)
theorem nmX8 : ∀ a, a < 11 → ∀ b, b < 11 → a ≠ b → (TX8 a).2.1 ≠ (TX8 b).2.1 := fun a ha b hb hab h => nmX8_d a ha b hb hab (String.ofList_injective (((nmX8_l a ha).symm.trans h).trans (nmX8_l b hb)))
theorem tyX8_ok : ∀ k, k < 11 → parseFieldDescriptor (TX8 k).2.2.1 = some (tyX8 k) := by decide +kernel
abbrev cX8_init : ByteArray := prog_1_method_1_code
def yX8_init : MethodName := ⟨RX8, "<init>", "()V"⟩
abbrev cX8_column : ByteArray := prog_1_method_2_code
def yX8_column : MethodName := ⟨RX8, "column", "()I"⟩
abbrev cX8_planes : ByteArray := prog_1_method_3_code
def yX8_planes : MethodName := ⟨RX8, "planes", "()I"⟩
abbrev cX8_adds : ByteArray := prog_1_method_4_code
def yX8_adds : MethodName := ⟨RX8, "adds", "(I)I"⟩
abbrev cX8_puts : ByteArray := prog_1_method_5_code
def yX8_puts : MethodName := ⟨RX8, "puts", "(II)I"⟩
abbrev cX8_cuts : ByteArray := prog_1_method_6_code
def yX8_cuts : MethodName := ⟨RX8, "cuts", "(I)I"⟩
abbrev cX8_swaps : ByteArray := prog_1_method_7_code
def yX8_swaps : MethodName := ⟨RX8, "swaps", "(II)I"⟩
abbrev cX8_reverses : ByteArray := prog_1_method_8_code
def yX8_reverses : MethodName := ⟨RX8, "reverses", "(II)I"⟩
abbrev cX8_sign : ByteArray := prog_1_method_9_code
def yX8_sign : MethodName := ⟨RX8, "sign", "(I)I"⟩
abbrev cX8_end : ByteArray := prog_1_method_10_code
def yX8_end : MethodName := ⟨RX8, "end", "(I)Z"⟩
abbrev cX8_level : ByteArray := prog_1_method_11_code
def yX8_level : MethodName := ⟨RX8, "level", "(I)I"⟩
abbrev cX8_spot : ByteArray := prog_1_method_12_code
def yX8_spot : MethodName := ⟨RX8, "spot", "(II)I"⟩
abbrev cX8_from : ByteArray := prog_1_method_13_code
def yX8_from : MethodName := ⟨RX8, "from", "(II)I"⟩
abbrev cX8_runs : ByteArray := prog_1_method_14_code
def yX8_runs : MethodName := ⟨RX8, "runs", "()I"⟩
abbrev cX8_thrift : ByteArray := prog_1_method_15_code
def yX8_thrift : MethodName := ⟨RX8, "thrift", "()I"⟩
abbrev cX8_kth : ByteArray := prog_1_method_16_code
def yX8_kth : MethodName := ⟨RX8, "kth", "(III)I"⟩
abbrev cX8_rank : ByteArray := prog_1_method_17_code
def yX8_rank : MethodName := ⟨RX8, "rank", "(II)I"⟩
abbrev cX8_select : ByteArray := prog_1_method_18_code
def yX8_select : MethodName := ⟨RX8, "select", "(II)I"⟩
abbrev cX8_band : ByteArray := prog_1_method_19_code
def yX8_band : MethodName := ⟨RX8, "band", "(IIII)I"⟩
abbrev cX8_below : ByteArray := prog_1_method_20_code
def yX8_below : MethodName := ⟨RX8, "below", "(III)I"⟩
abbrev cX8_above : ByteArray := prog_1_method_21_code
def yX8_above : MethodName := ⟨RX8, "above", "(III)I"⟩
abbrev cX8_sums : ByteArray := prog_1_method_22_code
def yX8_sums : MethodName := ⟨RX8, "sums", "(III)I"⟩
abbrev cX8_often : ByteArray := prog_1_method_23_code
def yX8_often : MethodName := ⟨RX8, "often", "(III)I"⟩
abbrev cX8_mode : ByteArray := prog_1_method_24_code
def yX8_mode : MethodName := ⟨RX8, "mode", "(II)I"⟩
abbrev cX8_across : ByteArray := prog_1_method_25_code
def yX8_across : MethodName := ⟨RX8, "across", "(IIII)I"⟩
abbrev cX8_turned : ByteArray := prog_1_method_26_code
def yX8_turned : MethodName := ⟨RX8, "turned", "(II)I"⟩
abbrev cX8_spread : ByteArray := prog_1_method_27_code
def yX8_spread : MethodName := ⟨RX8, "spread", "(III)I"⟩
abbrev cX8_nearest : ByteArray := prog_1_method_28_code
def yX8_nearest : MethodName := ⟨RX8, "nearest", "(II)I"⟩
abbrev cX8_dense : ByteArray := prog_1_method_29_code
def yX8_dense : MethodName := ⟨RX8, "dense", "(III)I"⟩
abbrev cX8_farthest : ByteArray := prog_1_method_30_code
def yX8_farthest : MethodName := ⟨RX8, "farthest", "(III)I"⟩
abbrev cX8_fit : ByteArray := prog_1_method_31_code
def yX8_fit : MethodName := ⟨RX8, "fit", "(III)I"⟩
abbrev cX8_gap : ByteArray := prog_1_method_32_code
def yX8_gap : MethodName := ⟨RX8, "gap", "(II)I"⟩
abbrev cX8_narrow : ByteArray := prog_1_method_33_code
def yX8_narrow : MethodName := ⟨RX8, "narrow", "(II)I"⟩
abbrev cX8_lone : ByteArray := prog_1_method_34_code
def yX8_lone : MethodName := ⟨RX8, "lone", "(II)I"⟩
abbrev cX8_rises : ByteArray := prog_1_method_35_code
def yX8_rises : MethodName := ⟨RX8, "rises", "(II)I"⟩
abbrev cX8_marks : ByteArray := prog_1_method_36_code
def yX8_marks : MethodName := ⟨RX8, "marks", "(III)I"⟩
abbrev cX8_common : ByteArray := prog_1_method_37_code
def yX8_common : MethodName := ⟨RX8, "common", "(IIII)I"⟩
abbrev cX8_lacking : ByteArray := prog_1_method_38_code
def yX8_lacking : MethodName := ⟨RX8, "lacking", "(IIII)I"⟩
abbrev cX8_both : ByteArray := prog_1_method_39_code
def yX8_both : MethodName := ⟨RX8, "both", "(IIIII)I"⟩
abbrev cX8_same : ByteArray := prog_1_method_40_code
def yX8_same : MethodName := ⟨RX8, "same", "(IIII)I"⟩
abbrev cX8_count : ByteArray := prog_1_method_41_code
def yX8_count : MethodName := ⟨RX8, "count", "(I)I"⟩
abbrev cX8_row : ByteArray := prog_1_method_42_code
def yX8_row : MethodName := ⟨RX8, "row", "(I)J"⟩
abbrev cX8_isNumber : ByteArray := prog_1_method_43_code
def yX8_isNumber : MethodName := ⟨RX8, "isNumber", "(I)Z"⟩
abbrev cX8_isTimes : ByteArray := prog_1_method_44_code
def yX8_isTimes : MethodName := ⟨RX8, "isTimes", "(I)Z"⟩
abbrev cX8_isPlace : ByteArray := prog_1_method_45_code
def yX8_isPlace : MethodName := ⟨RX8, "isPlace", "(I)Z"⟩
abbrev cX8_isSpan : ByteArray := prog_1_method_46_code
def yX8_isSpan : MethodName := ⟨RX8, "isSpan", "(II)Z"⟩
abbrev cX8_settle : ByteArray := prog_1_method_47_code
def yX8_settle : MethodName := ⟨RX8, "settle", "()I"⟩
abbrev cX8_tell : ByteArray := prog_1_method_48_code
def yX8_tell : MethodName := ⟨RX8, "tell", "(J)V"⟩
abbrev cX8_tell_ : ByteArray := prog_1_method_49_code
def yX8_tell_ : MethodName := ⟨RX8, "tell", "(JJ)V"⟩
abbrev cX8_exchange : ByteArray := prog_1_method_50_code
def yX8_exchange : MethodName := ⟨RX8, "exchange", "(II)V"⟩
abbrev cX8_takeBoth : ByteArray := prog_1_method_51_code
def yX8_takeBoth : MethodName := ⟨RX8, "takeBoth", "(IIII)Z"⟩
abbrev cX8_timesIn : ByteArray := prog_1_method_52_code
def yX8_timesIn : MethodName := ⟨RX8, "timesIn", "(III)I"⟩
abbrev cX8_nextPlaceOf : ByteArray := prog_1_method_53_code
def yX8_nextPlaceOf : MethodName := ⟨RX8, "nextPlaceOf", "(II)I"⟩
abbrev cX8_lengthWith : ByteArray := prog_1_method_54_code
def yX8_lengthWith : MethodName := ⟨RX8, "lengthWith", "(III)I"⟩
abbrev cX8_apart : ByteArray := prog_1_method_55_code
def yX8_apart : MethodName := ⟨RX8, "apart", "(I)I"⟩
abbrev cX8_step : ByteArray := prog_1_method_56_code
def yX8_step : MethodName := ⟨RX8, "step", "(I)I"⟩
abbrev cX8_reachFrom : ByteArray := prog_1_method_57_code
def yX8_reachFrom : MethodName := ⟨RX8, "reachFrom", "(II)I"⟩
abbrev cX8_unlikeNumbers : ByteArray := prog_1_method_58_code
def yX8_unlikeNumbers : MethodName := ⟨RX8, "unlikeNumbers", "()I"⟩
abbrev cX8_sumOfAll : ByteArray := prog_1_method_59_code
def yX8_sumOfAll : MethodName := ⟨RX8, "sumOfAll", "()I"⟩
abbrev cX8_onesOfAll : ByteArray := prog_1_method_60_code
def yX8_onesOfAll : MethodName := ⟨RX8, "onesOfAll", "()I"⟩
abbrev cX8_lowest : ByteArray := prog_1_method_61_code
def yX8_lowest : MethodName := ⟨RX8, "lowest", "(I)J"⟩
abbrev cX8_bitAt : ByteArray := prog_1_method_62_code
def yX8_bitAt : MethodName := ⟨RX8, "bitAt", "(JI)I"⟩
abbrev cX8_runsOf : ByteArray := prog_1_method_63_code
def yX8_runsOf : MethodName := ⟨RX8, "runsOf", "(JI)I"⟩
abbrev cX8_nextSpot : ByteArray := prog_1_method_64_code
def yX8_nextSpot : MethodName := ⟨RX8, "nextSpot", "(JII)I"⟩
abbrev cX8_spotIn : ByteArray := prog_1_method_65_code
def yX8_spotIn : MethodName := ⟨RX8, "spotIn", "([JIII)I"⟩
abbrev cX8_numberIn : ByteArray := prog_1_method_66_code
def yX8_numberIn : MethodName := ⟨RX8, "numberIn", "([JII)I"⟩
def RX9 : String := "PlaneColumnModel"
def TX9 : u_T := fun k => match k with
  | 0 => ("PlaneColumnModel", "thrown", "I", false)
  | 1 => ("PlaneColumnModel", "told", "I", false)
  | 2 => ("PlaneColumnModel", "row", "[J", true)
  | 3 => ("PlaneColumnModel", "tape", "[I", true)
  | 4 => ("PlaneColumnModel", "taped", "I", false)
  | 5 => ("PlaneColumnModel", "at", "I", false)
  | 6 => ("PlaneColumnModel", "to", "I", false)
  | 7 => ("PlaneColumnModel", "many", "I", false)
  | 8 => ("PlaneColumnModel", "number", "[I", true)
  | 9 => ("PlaneColumnModel", "read", "[I", true)
  | 10 => ("PlaneColumnModel", "readMany", "I", false)
  | 11 => ("PlaneColumnModel", "readBits", "[I", true)
  | 12 => ("PlaneColumnModel", "stands", "[I", true)
  | 13 => ("PlaneColumnModel", "parted", "[I", true)
  | 14 => ("PlaneColumnModel", "bitsWere", "[I", true)
  | 15 => ("PlaneColumnModel", "stood", "[I", true)
  | 16 => ("PlaneColumnModel", "chosen", "[I", true)
  | 17 => ("PlaneColumnModel", "bestChosen", "[I", true)
  | 18 => ("PlaneColumnModel", "fewest", "I", false)
  | 19 => ("PlaneColumnModel", "often", "[I", true)
  | 20 => ("PlaneColumnModel", "sorted", "[I", true)
  | 21 => ("PlaneColumnModel", "size", "I", false)
  | 22 => ("PlaneColumnModel", "risen", "[I", true)
  | _ => ("PlaneColumnModel", "risenWays", "[J", true)
def tyX9 : Nat → FieldType := fun k => match k with
  | 0 => .int
  | 1 => .int
  | 2 => .array .long
  | 3 => .array .int
  | 4 => .int
  | 5 => .int
  | 6 => .int
  | 7 => .int
  | 8 => .array .int
  | 9 => .array .int
  | 10 => .int
  | 11 => .array .int
  | 12 => .array .int
  | 13 => .array .int
  | 14 => .array .int
  | 15 => .array .int
  | 16 => .array .int
  | 17 => .array .int
  | 18 => .int
  | 19 => .array .int
  | 20 => .array .int
  | 21 => .int
  | 22 => .array .int
  | _ => .array .long
abbrev wsX90 : List Cond := u_ws RX9 TX9 24
def LX9 : Nat → List Char := fun k => match k with
  | 0 => ['t', 'h', 'r', 'o', 'w', 'n']
  | 1 => ['t', 'o', 'l', 'd']
  | 2 => ['r', 'o', 'w']
  | 3 => ['t', 'a', 'p', 'e']
  | 4 => ['t', 'a', 'p', 'e', 'd']
  | 5 => ['a', 't']
  | 6 => ['t', 'o']
  | 7 => ['m', 'a', 'n', 'y']
  | 8 => ['n', 'u', 'm', 'b', 'e', 'r']
  | 9 => ['r', 'e', 'a', 'd']
  | 10 => ['r', 'e', 'a', 'd', 'M', 'a', 'n', 'y']
  | 11 => ['r', 'e', 'a', 'd', 'B', 'i', 't', 's']
  | 12 => ['s', 't', 'a', 'n', 'd', 's']
  | 13 => ['p', 'a', 'r', 't', 'e', 'd']
  | 14 => ['b', 'i', 't', 's', 'W', 'e', 'r', 'e']
  | 15 => ['s', 't', 'o', 'o', 'd']
  | 16 => ['c', 'h', 'o', 's', 'e', 'n']
  | 17 => ['b', 'e', 's', 't', 'C', 'h', 'o', 's', 'e', 'n']
  | 18 => ['f', 'e', 'w', 'e', 's', 't']
  | 19 => ['o', 'f', 't', 'e', 'n']
  | 20 => ['s', 'o', 'r', 't', 'e', 'd']
  | 21 => ['s', 'i', 'z', 'e']
  | 22 => ['r', 'i', 's', 'e', 'n']
  | _ => ['r', 'i', 's', 'e', 'n', 'W', 'a', 'y', 's']
theorem nmX9_d : ∀ a, a < 24 → ∀ b, b < 24 → a ≠ b → LX9 a ≠ LX9 b := by decide +kernel
theorem nmX9_l : ∀ a, a < 24 → (TX9 a).2.1 = String.ofList (LX9 a)
  | 0, _ => rfl
  | 1, _ => rfl
  | 2, _ => rfl
  | 3, _ => rfl
  | 4, _ => rfl
  | 5, _ => rfl
  | 6, _ => rfl
  | 7, _ => rfl
  | 8, _ => rfl
  | 9, _ => rfl
  | 10, _ => rfl
  | 11, _ => rfl
  | 12, _ => rfl
  | 13, _ => rfl
  | 14, _ => rfl
  | 15, _ => rfl
  | 16, _ => rfl
  | 17, _ => rfl
  | 18, _ => rfl
  | 19, _ => rfl
  | 20, _ => rfl
  | 21, _ => rfl
  | 22, _ => rfl
  | 23, _ => rfl
  | k + 24, h => absurd h (by omega)
theorem nmX9 : ∀ a, a < 24 → ∀ b, b < 24 → a ≠ b → (TX9 a).2.1 ≠ (TX9 b).2.1 := fun a ha b hb hab h => nmX9_d a ha b hb hab (String.ofList_injective (((nmX9_l a ha).symm.trans h).trans (nmX9_l b hb)))
theorem tyX9_ok : ∀ k, k < 24 → parseFieldDescriptor (TX9 k).2.2.1 = some (tyX9 k)
  | 0, _ => pd_of (L := ['I']) rfl rfl
  | 1, _ => pd_of (L := ['I']) rfl rfl
  | 2, _ => pd_of (L := ['[', 'J']) rfl rfl
  | 3, _ => pd_of (L := ['[', 'I']) rfl rfl
  | 4, _ => pd_of (L := ['I']) rfl rfl
  | 5, _ => pd_of (L := ['I']) rfl rfl
  | 6, _ => pd_of (L := ['I']) rfl rfl
  | 7, _ => pd_of (L := ['I']) rfl rfl
  | 8, _ => pd_of (L := ['[', 'I']) rfl rfl
  | 9, _ => pd_of (L := ['[', 'I']) rfl rfl
  | 10, _ => pd_of (L := ['I']) rfl rfl
  | 11, _ => pd_of (L := ['[', 'I']) rfl rfl
  | 12, _ => pd_of (L := ['[', 'I']) rfl rfl
  | 13, _ => pd_of (L := ['[', 'I']) rfl rfl
  | 14, _ => pd_of (L := ['[', 'I']) rfl rfl
  | 15, _ => pd_of (L := ['[', 'I']) rfl rfl
  | 16, _ => pd_of (L := ['[', 'I']) rfl rfl
  | 17, _ => pd_of (L := ['[', 'I']) rfl rfl
  | 18, _ => pd_of (L := ['I']) rfl rfl
  | 19, _ => pd_of (L := ['[', 'I']) rfl rfl
  | 20, _ => pd_of (L := ['[', 'I']) rfl rfl
  | 21, _ => pd_of (L := ['I']) rfl rfl
  | 22, _ => pd_of (L := ['[', 'I']) rfl rfl
  | 23, _ => pd_of (L := ['[', 'J']) rfl rfl
  | k + 24, h => absurd h (by omega)
abbrev cX9_in : ByteArray := prog_11_method_2_code
def yX9_in : MethodName := ⟨RX9, "in", "(JJJ)Z"⟩
abbrev cX9_flag : ByteArray := prog_11_method_3_code
def yX9_flag : MethodName := ⟨RX9, "flag", "(Z)I"⟩
abbrev cX9_enters : ByteArray := prog_11_method_4_code
def yX9_enters : MethodName := ⟨RX9, "enters", "(J)V"⟩
abbrev cX9_sign : ByteArray := prog_11_method_5_code
def yX9_sign : MethodName := ⟨RX9, "sign", "(I)I"⟩
abbrev cX9_end : ByteArray := prog_11_method_6_code
def yX9_end : MethodName := ⟨RX9, "end", "(I)Z"⟩
abbrev cX9_reads : ByteArray := prog_11_method_7_code
def yX9_reads : MethodName := ⟨RX9, "reads", "()V"⟩
abbrev cX9_takes : ByteArray := prog_11_method_8_code
def yX9_takes : MethodName := ⟨RX9, "takes", "(I)Z"⟩
abbrev cX9_isDigit : ByteArray := prog_11_method_9_code
def yX9_isDigit : MethodName := ⟨RX9, "isDigit", "()Z"⟩
abbrev cX9_number : ByteArray := prog_11_method_10_code
def yX9_number : MethodName := ⟨RX9, "number", "(III)I"⟩
abbrev cX9_init : ByteArray := prog_11_method_11_code
def yX9_init : MethodName := ⟨RX9, "<init>", "()V"⟩
abbrev cX9_isNumber : ByteArray := prog_11_method_12_code
def yX9_isNumber : MethodName := ⟨RX9, "isNumber", "(I)Z"⟩
abbrev cX9_isPlace : ByteArray := prog_11_method_13_code
def yX9_isPlace : MethodName := ⟨RX9, "isPlace", "(I)Z"⟩
abbrev cX9_isSpan : ByteArray := prog_11_method_14_code
def yX9_isSpan : MethodName := ⟨RX9, "isSpan", "(II)Z"⟩
abbrev cX9_becomesRead : ByteArray := prog_11_method_15_code
def yX9_becomesRead : MethodName := ⟨RX9, "becomesRead", "()V"⟩
abbrev cX9_readsPart : ByteArray := prog_11_method_16_code
def yX9_readsPart : MethodName := ⟨RX9, "readsPart", "()Z"⟩
abbrev cX9_column : ByteArray := prog_11_method_17_code
def yX9_column : MethodName := ⟨RX9, "column", "()I"⟩
abbrev cX9_readsRow : ByteArray := prog_11_method_18_code
def yX9_readsRow : MethodName := ⟨RX9, "readsRow", "(I)Z"⟩
abbrev cX9_planes : ByteArray := prog_11_method_19_code
def yX9_planes : MethodName := ⟨RX9, "planes", "()I"⟩
abbrev cX9_bitOf : ByteArray := prog_11_method_20_code
def yX9_bitOf : MethodName := ⟨RX9, "bitOf", "(II)I"⟩
abbrev cX9_parts : ByteArray := prog_11_method_21_code
def yX9_parts : MethodName := ⟨RX9, "parts", "(I)V"⟩
abbrev cX9_begins : ByteArray := prog_11_method_22_code
def yX9_begins : MethodName := ⟨RX9, "begins", "()V"⟩
abbrev cX9_laysLevel : ByteArray := prog_11_method_23_code
def yX9_laysLevel : MethodName := ⟨RX9, "laysLevel", "(I)V"⟩
abbrev cX9_runsOf : ByteArray := prog_11_method_24_code
def yX9_runsOf : MethodName := ⟨RX9, "runsOf", "(I)I"⟩
abbrev cX9_keepsBits : ByteArray := prog_11_method_25_code
def yX9_keepsBits : MethodName := ⟨RX9, "keepsBits", "()V"⟩
abbrev cX9_otherBits : ByteArray := prog_11_method_26_code
def yX9_otherBits : MethodName := ⟨RX9, "otherBits", "()I"⟩
abbrev cX9_adds : ByteArray := prog_11_method_27_code
def yX9_adds : MethodName := ⟨RX9, "adds", "(I)I"⟩
abbrev cX9_puts : ByteArray := prog_11_method_28_code
def yX9_puts : MethodName := ⟨RX9, "puts", "(II)I"⟩
abbrev cX9_cuts : ByteArray := prog_11_method_29_code
def yX9_cuts : MethodName := ⟨RX9, "cuts", "(I)I"⟩
abbrev cX9_exchanges : ByteArray := prog_11_method_30_code
def yX9_exchanges : MethodName := ⟨RX9, "exchanges", "(II)V"⟩
abbrev cX9_swaps : ByteArray := prog_11_method_31_code
def yX9_swaps : MethodName := ⟨RX9, "swaps", "(II)I"⟩
abbrev cX9_reverses : ByteArray := prog_11_method_32_code
def yX9_reverses : MethodName := ⟨RX9, "reverses", "(II)I"⟩
abbrev cX9_level : ByteArray := prog_11_method_33_code
def yX9_level : MethodName := ⟨RX9, "level", "(I)I"⟩
abbrev cX9_spot : ByteArray := prog_11_method_34_code
def yX9_spot : MethodName := ⟨RX9, "spot", "(II)I"⟩
abbrev cX9_from : ByteArray := prog_11_method_35_code
def yX9_from : MethodName := ⟨RX9, "from", "(II)I"⟩
abbrev cX9_runs : ByteArray := prog_11_method_36_code
def yX9_runs : MethodName := ⟨RX9, "runs", "()I"⟩
abbrev cX9_triesBits : ByteArray := prog_11_method_37_code
def yX9_triesBits : MethodName := ⟨RX9, "triesBits", "(III)V"⟩
abbrev cX9_thrift : ByteArray := prog_11_method_38_code
def yX9_thrift : MethodName := ⟨RX9, "thrift", "()I"⟩
abbrev cX9_counts : ByteArray := prog_11_method_39_code
def yX9_counts : MethodName := ⟨RX9, "counts", "(III)V"⟩
abbrev cX9_times : ByteArray := prog_11_method_40_code
def yX9_times : MethodName := ⟨RX9, "times", "(II)I"⟩
abbrev cX9_sorts : ByteArray := prog_11_method_41_code
def yX9_sorts : MethodName := ⟨RX9, "sorts", "(II)V"⟩
abbrev cX9_kth : ByteArray := prog_11_method_42_code
def yX9_kth : MethodName := ⟨RX9, "kth", "(III)I"⟩
abbrev cX9_rank : ByteArray := prog_11_method_43_code
def yX9_rank : MethodName := ⟨RX9, "rank", "(II)I"⟩
abbrev cX9_select : ByteArray := prog_11_method_44_code
def yX9_select : MethodName := ⟨RX9, "select", "(II)I"⟩
abbrev cX9_within : ByteArray := prog_11_method_45_code
def yX9_within : MethodName := ⟨RX9, "within", "(III)I"⟩
abbrev cX9_visits : ByteArray := prog_11_method_46_code
def yX9_visits : MethodName := ⟨RX9, "visits", "(IIII)I"⟩
abbrev cX9_band : ByteArray := prog_11_method_47_code
def yX9_band : MethodName := ⟨RX9, "band", "(IIII)I"⟩
abbrev cX9_below : ByteArray := prog_11_method_48_code
def yX9_below : MethodName := ⟨RX9, "below", "(III)I"⟩
abbrev cX9_above : ByteArray := prog_11_method_49_code
def yX9_above : MethodName := ⟨RX9, "above", "(III)I"⟩
abbrev cX9_sums : ByteArray := prog_11_method_50_code
def yX9_sums : MethodName := ⟨RX9, "sums", "(III)I"⟩
abbrev cX9_nodes : ByteArray := prog_11_method_51_code
def yX9_nodes : MethodName := ⟨RX9, "nodes", "(IZ)I"⟩
abbrev cX9_often : ByteArray := prog_11_method_52_code
def yX9_often : MethodName := ⟨RX9, "often", "(III)I"⟩
abbrev cX9_mode : ByteArray := prog_11_method_53_code
def yX9_mode : MethodName := ⟨RX9, "mode", "(II)I"⟩
abbrev cX9_across : ByteArray := prog_11_method_54_code
def yX9_across : MethodName := ⟨RX9, "across", "(IIII)I"⟩
abbrev cX9_turned : ByteArray := prog_11_method_55_code
def yX9_turned : MethodName := ⟨RX9, "turned", "(II)I"⟩
abbrev cX9_spread : ByteArray := prog_11_method_56_code
def yX9_spread : MethodName := ⟨RX9, "spread", "(III)I"⟩
abbrev cX9_nearest : ByteArray := prog_11_method_57_code
def yX9_nearest : MethodName := ⟨RX9, "nearest", "(II)I"⟩
abbrev cX9_dense : ByteArray := prog_11_method_58_code
def yX9_dense : MethodName := ⟨RX9, "dense", "(III)I"⟩
abbrev cX9_farthest : ByteArray := prog_11_method_59_code
def yX9_farthest : MethodName := ⟨RX9, "farthest", "(III)I"⟩
abbrev cX9_fit : ByteArray := prog_11_method_60_code
def yX9_fit : MethodName := ⟨RX9, "fit", "(III)I"⟩
abbrev cX9_gap : ByteArray := prog_11_method_61_code
def yX9_gap : MethodName := ⟨RX9, "gap", "(II)I"⟩
abbrev cX9_narrow : ByteArray := prog_11_method_62_code
def yX9_narrow : MethodName := ⟨RX9, "narrow", "(II)I"⟩
abbrev cX9_lone : ByteArray := prog_11_method_63_code
def yX9_lone : MethodName := ⟨RX9, "lone", "(II)I"⟩
abbrev cX9_rises : ByteArray := prog_11_method_64_code
def yX9_rises : MethodName := ⟨RX9, "rises", "(II)I"⟩
abbrev cX9_marks : ByteArray := prog_11_method_65_code
def yX9_marks : MethodName := ⟨RX9, "marks", "(III)I"⟩
abbrev cX9_counts_ : ByteArray := prog_11_method_66_code
def yX9_counts_ : MethodName := ⟨RX9, "counts", "(IIII)Z"⟩
abbrev cX9_common : ByteArray := prog_11_method_67_code
def yX9_common : MethodName := ⟨RX9, "common", "(IIII)I"⟩
abbrev cX9_lacking : ByteArray := prog_11_method_68_code
def yX9_lacking : MethodName := ⟨RX9, "lacking", "(IIII)I"⟩
abbrev cX9_both : ByteArray := prog_11_method_69_code
def yX9_both : MethodName := ⟨RX9, "both", "(IIIII)I"⟩
abbrev cX9_same : ByteArray := prog_11_method_70_code
def yX9_same : MethodName := ⟨RX9, "same", "(IIII)I"⟩
abbrev cX9_unlike : ByteArray := prog_11_method_71_code
def yX9_unlike : MethodName := ⟨RX9, "unlike", "()I"⟩
abbrev cX9_together : ByteArray := prog_11_method_72_code
def yX9_together : MethodName := ⟨RX9, "together", "(Z)I"⟩
abbrev cX9_count : ByteArray := prog_11_method_73_code
def yX9_count : MethodName := ⟨RX9, "count", "(I)I"⟩
abbrev cX9_row : ByteArray := prog_11_method_74_code
def yX9_row : MethodName := ⟨RX9, "row", "(I)J"⟩
def RJ6 : String := "java/lang/Integer"
abbrev cJ6_bitCount_0f7a4 : ByteArray := prog_14_method_49_code
def yJ6_bitCount_0f7a4 : MethodName := ⟨RJ6, "bitCount", "(I)I"⟩
def RJ13 : String := "java/lang/Long"
abbrev cJ13_bitCount_95d88 : ByteArray := prog_15_method_50_code
def yJ13_bitCount_95d88 : MethodName := ⟨RJ13, "bitCount", "(J)I"⟩
def RJ7 : String := "java/util/Arrays"
abbrev cJ7_fill_53178 : ByteArray := prog_21_method_103_code
def yJ7_fill_53178 : MethodName := ⟨RJ7, "fill", "([II)V"⟩
def RL : String := "PlaneColumnLaw"
abbrev cL_row : ByteArray := method_3_code
def yL_row : MethodName := ⟨RL, "row", "(LPlaneColumn;I[J)I"⟩
abbrev cL_law : ByteArray := code