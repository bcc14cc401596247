def RX0 : String := "VectorBench$Circuit"
def TX0 : u_T := fun k => match k with
  | 0 => ("VectorBench$Circuit", "kinds", "[I", false)
  | 1 => ("VectorBench$Circuit", "lefts", "[I", false)
  | 2 => ("VectorBench$Circuit", "rights", "[I", false)
  | 3 => ("VectorBench$Circuit", "states", "[I", false)
  | 4 => ("VectorBench$Circuit", "count", "I", false)
  | _ => ("VectorBench$Circuit", "settled", "I", false)
def tyX0 : Nat → FieldType := fun k => match k with
  | 0 => .array .int
  | 1 => .array .int
  | 2 => .array .int
  | 3 => .array .int
  | 4 => .int
  | _ => .int
theorem nmX0 : ∀ a, a < 6 → ∀ b, b < 6 → a ≠ b → (TX0 a).2.1 ≠ (TX0 b).2.1 := by decide +kernel
theorem tyX0_ok : ∀ k, k < 6 → parseFieldDescriptor (TX0 k).2.2.1 = some (tyX0 k) := by decide +kernel
abbrev cX0_init : ByteArray := prog_2_method_1_code
def yX0_init : MethodName := ⟨RX0, "<init>", "()V"⟩
abbrev cX0_source : ByteArray := prog_2_method_2_code
def yX0_source : MethodName := ⟨RX0, "source", "()I"⟩
abbrev cX0_and : ByteArray := prog_2_method_3_code
def yX0_and : MethodName := ⟨RX0, "and", "(II)I"⟩
abbrev cX0_or : ByteArray := prog_2_method_4_code
def yX0_or : MethodName := ⟨RX0, "or", "(II)I"⟩
abbrev cX0_xor : ByteArray := prog_2_method_5_code
def yX0_xor : MethodName := ⟨RX0, "xor", "(II)I"⟩
abbrev cX0_not : ByteArray := prog_2_method_6_code
def yX0_not : MethodName := ⟨RX0, "not", "(I)I"⟩
abbrev cX0_gate : ByteArray := prog_2_method_7_code
def yX0_gate : MethodName := ⟨RX0, "gate", "(III)I"⟩
abbrev cX0_put : ByteArray := prog_2_method_8_code
def yX0_put : MethodName := ⟨RX0, "put", "(II)I"⟩
abbrev cX0_read : ByteArray := prog_2_method_9_code
def yX0_read : MethodName := ⟨RX0, "read", "(I)I"⟩
abbrev cX0_settle : ByteArray := prog_2_method_10_code
def yX0_settle : MethodName := ⟨RX0, "settle", "(I)V"⟩
def RX1 : String := "VectorBench$Reckoner"
def TX1 : u_T := fun k => match k with
  | _ => ("VectorBench$Reckoner", "circuit", "LVectorBench$Circuit;", true)
def tyX1 : Nat → FieldType := fun k => match k with
  | _ => .object "VectorBench$Circuit"
theorem nmX1 : ∀ a, a < 1 → ∀ b, b < 1 → a ≠ b → (TX1 a).2.1 ≠ (TX1 b).2.1 := by decide +kernel
theorem tyX1_ok : ∀ k, k < 1 → parseFieldDescriptor (TX1 k).2.2.1 = some (tyX1 k) := by decide +kernel
abbrev cX1_init : ByteArray := prog_3_method_1_code
def yX1_init : MethodName := ⟨RX1, "<init>", "()V"⟩
abbrev cX1_inverted : ByteArray := prog_3_method_2_code
def yX1_inverted : MethodName := ⟨RX1, "inverted", "([I)[I"⟩
abbrev cX1_negatedIf : ByteArray := prog_3_method_3_code
def yX1_negatedIf : MethodName := ⟨RX1, "negatedIf", "(I[I)[I"⟩
abbrev cX1_joined : ByteArray := prog_3_method_4_code
def yX1_joined : MethodName := ⟨RX1, "joined", "(I[I[I)[I"⟩
abbrev cX1_sum : ByteArray := prog_3_method_5_code
def yX1_sum : MethodName := ⟨RX1, "sum", "([I[II)[I"⟩
abbrev cX1_withoutCarry : ByteArray := prog_3_method_6_code
def yX1_withoutCarry : MethodName := ⟨RX1, "withoutCarry", "([I)[I"⟩
abbrev cX1_picked : ByteArray := prog_3_method_7_code
def yX1_picked : MethodName := ⟨RX1, "picked", "(I[I[I)[I"⟩
abbrev cX1_product : ByteArray := prog_3_method_8_code
def yX1_product : MethodName := ⟨RX1, "product", "([I[I)[I"⟩
abbrev cX1_divided : ByteArray := prog_3_method_9_code
def yX1_divided : MethodName := ⟨RX1, "divided", "([I[IZ)[I"⟩
abbrev cX1_dividedWithSign : ByteArray := prog_3_method_10_code
def yX1_dividedWithSign : MethodName := ⟨RX1, "dividedWithSign", "([I[IZ)[I"⟩
abbrev cX1_shifted : ByteArray := prog_3_method_11_code
def yX1_shifted : MethodName := ⟨RX1, "shifted", "([I[IZI)[I"⟩
abbrev cX1_moved : ByteArray := prog_3_method_12_code
def yX1_moved : MethodName := ⟨RX1, "moved", "([IIZI)[I"⟩
abbrev cX1_same : ByteArray := prog_3_method_13_code
def yX1_same : MethodName := ⟨RX1, "same", "([I[I)I"⟩
abbrev cX1_atLeast : ByteArray := prog_3_method_14_code
def yX1_atLeast : MethodName := ⟨RX1, "atLeast", "([I[I)I"⟩
abbrev cX1_signTurned : ByteArray := prog_3_method_15_code
def yX1_signTurned : MethodName := ⟨RX1, "signTurned", "([I)[I"⟩
def RX2 : String := "VectorBench$Vector"
def TX2 : u_T := fun k => match k with
  | 0 => ("VectorBench$Vector", "bits", "[I", true)
  | _ => ("VectorBench$Vector", "settable", "Z", true)
def tyX2 : Nat → FieldType := fun k => match k with
  | 0 => .array .int
  | _ => .boolean
theorem nmX2 : ∀ a, a < 2 → ∀ b, b < 2 → a ≠ b → (TX2 a).2.1 ≠ (TX2 b).2.1 := by decide +kernel
theorem tyX2_ok : ∀ k, k < 2 → parseFieldDescriptor (TX2 k).2.2.1 = some (tyX2 k) := by decide +kernel
abbrev cX2_init : ByteArray := prog_4_method_1_code
def yX2_init : MethodName := ⟨RX2, "<init>", "([IZ)V"⟩
def RX3 : String := "VectorBench"
def TX3 : u_T := fun k => match k with
  | 0 => ("VectorBench", "reckoner", "LVectorBench$Reckoner;", true)
  | 1 => ("VectorBench", "circuit", "LVectorBench$Circuit;", true)
  | 2 => ("VectorBench", "made", "Ljava/util/ArrayList;", true)
  | _ => ("VectorBench", "weighed", "I", false)
def tyX3 : Nat → FieldType := fun k => match k with
  | 0 => .object "VectorBench$Reckoner"
  | 1 => .object "VectorBench$Circuit"
  | 2 => .object "java/util/ArrayList"
  | _ => .int
theorem nmX3 : ∀ a, a < 4 → ∀ b, b < 4 → a ≠ b → (TX3 a).2.1 ≠ (TX3 b).2.1 := by decide +kernel
theorem tyX3_ok : ∀ k, k < 4 → parseFieldDescriptor (TX3 k).2.2.1 = some (tyX3 k) := by decide +kernel
abbrev cX3_init : ByteArray := prog_1_method_1_code
def yX3_init : MethodName := ⟨RX3, "<init>", "()V"⟩
abbrev cX3_input : ByteArray := prog_1_method_2_code
def yX3_input : MethodName := ⟨RX3, "input", "(I)I"⟩
abbrev cX3_constant : ByteArray := prog_1_method_3_code
def yX3_constant : MethodName := ⟨RX3, "constant", "(IJ)I"⟩
abbrev cX3_one : ByteArray := prog_1_method_4_code
def yX3_one : MethodName := ⟨RX3, "one", "(II)I"⟩
abbrev cX3_two : ByteArray := prog_1_method_5_code
def yX3_two : MethodName := ⟨RX3, "two", "(III)I"⟩
abbrev cX3_compare : ByteArray := prog_1_method_6_code
def yX3_compare : MethodName := ⟨RX3, "compare", "(III)I"⟩
abbrev cX3_choose : ByteArray := prog_1_method_7_code
def yX3_choose : MethodName := ⟨RX3, "choose", "(III)I"⟩
abbrev cX3_concat : ByteArray := prog_1_method_8_code
def yX3_concat : MethodName := ⟨RX3, "concat", "(II)I"⟩
abbrev cX3_extract : ByteArray := prog_1_method_9_code
def yX3_extract : MethodName := ⟨RX3, "extract", "(III)I"⟩
abbrev cX3_extend : ByteArray := prog_1_method_10_code
def yX3_extend : MethodName := ⟨RX3, "extend", "(IIZ)I"⟩
abbrev cX3_set : ByteArray := prog_1_method_11_code
def yX3_set : MethodName := ⟨RX3, "set", "(IJ)J"⟩
abbrev cX3_value : ByteArray := prog_1_method_12_code
def yX3_value : MethodName := ⟨RX3, "value", "(I)J"⟩
abbrev cX3_width : ByteArray := prog_1_method_13_code
def yX3_width : MethodName := ⟨RX3, "width", "(I)I"⟩
abbrev cX3_weight : ByteArray := prog_1_method_14_code
def yX3_weight : MethodName := ⟨RX3, "weight", "()I"⟩
abbrev cX3_vectors : ByteArray := prog_1_method_15_code
def yX3_vectors : MethodName := ⟨RX3, "vectors", "()I"⟩
abbrev cX3_bitOf : ByteArray := prog_1_method_16_code
def yX3_bitOf : MethodName := ⟨RX3, "bitOf", "(JI)I"⟩
abbrev cX3_needWidth : ByteArray := prog_1_method_17_code
def yX3_needWidth : MethodName := ⟨RX3, "needWidth", "(I)V"⟩
abbrev cX3_needKind : ByteArray := prog_1_method_18_code
def yX3_needKind : MethodName := ⟨RX3, "needKind", "(II)V"⟩
abbrev cX3_needSameWidth : ByteArray := prog_1_method_19_code
def yX3_needSameWidth : MethodName := ⟨RX3, "needSameWidth", "([I[I)V"⟩
abbrev cX3_needRoom : ByteArray := prog_1_method_20_code
def yX3_needRoom : MethodName := ⟨RX3, "needRoom", "(I)V"⟩
abbrev cX3_bitsOf : ByteArray := prog_1_method_21_code
def yX3_bitsOf : MethodName := ⟨RX3, "bitsOf", "(I)[I"⟩
abbrev cX3_keep : ByteArray := prog_1_method_22_code
def yX3_keep : MethodName := ⟨RX3, "keep", "(LVectorBench$Vector;I)I"⟩
abbrev cX3_weightOfTwo : ByteArray := prog_1_method_23_code
def yX3_weightOfTwo : MethodName := ⟨RX3, "weightOfTwo", "(II)I"⟩
abbrev cX3_reckonTwo : ByteArray := prog_1_method_24_code
def yX3_reckonTwo : MethodName := ⟨RX3, "reckonTwo", "(I[I[I)[I"⟩
abbrev cX3_reckonComparison : ByteArray := prog_1_method_25_code
def yX3_reckonComparison : MethodName := ⟨RX3, "reckonComparison", "(I[I[I)I"⟩
def RX4 : String := "VectorBenchModel"
def TX4 : u_T := fun k => match k with
  | 0 => ("VectorBenchModel", "code", "I", false)
  | 1 => ("VectorBenchModel", "count", "I", false)
  | 2 => ("VectorBenchModel", "weight", "I", false)
  | 3 => ("VectorBenchModel", "kind", "[B", true)
  | 4 => ("VectorBenchModel", "first", "[I", true)
  | 5 => ("VectorBenchModel", "second", "[I", true)
  | 6 => ("VectorBenchModel", "third", "[I", true)
  | 7 => ("VectorBenchModel", "width", "[I", true)
  | _ => ("VectorBenchModel", "value", "[J", true)
def tyX4 : Nat → FieldType := fun k => match k with
  | 0 => .int
  | 1 => .int
  | 2 => .int
  | 3 => .array .byte
  | 4 => .array .int
  | 5 => .array .int
  | 6 => .array .int
  | 7 => .array .int
  | _ => .array .long
theorem nmX4 : ∀ a, a < 9 → ∀ b, b < 9 → a ≠ b → (TX4 a).2.1 ≠ (TX4 b).2.1 := by decide +kernel
theorem tyX4_ok : ∀ k, k < 9 → parseFieldDescriptor (TX4 k).2.2.1 = some (tyX4 k) := by decide +kernel
abbrev cX4_init : ByteArray := prog_6_method_1_code
def yX4_init : MethodName := ⟨RX4, "<init>", "()V"⟩
abbrev cX4_thrown : ByteArray := prog_6_method_2_code
def yX4_thrown : MethodName := ⟨RX4, "thrown", "()I"⟩
abbrev cX4_is : ByteArray := prog_6_method_3_code
def yX4_is : MethodName := ⟨RX4, "is", "(I)Z"⟩
abbrev cX4_areAlike : ByteArray := prog_6_method_4_code
def yX4_areAlike : MethodName := ⟨RX4, "areAlike", "(II)Z"⟩
abbrev cX4_mask : ByteArray := prog_6_method_5_code
def yX4_mask : MethodName := ⟨RX4, "mask", "(I)J"⟩
abbrev cX4_add : ByteArray := prog_6_method_6_code
def yX4_add : MethodName := ⟨RX4, "add", "(ZIIIIII)I"⟩
abbrev cX4_input : ByteArray := prog_6_method_7_code
def yX4_input : MethodName := ⟨RX4, "input", "(I)I"⟩
abbrev cX4_constant : ByteArray := prog_6_method_8_code
def yX4_constant : MethodName := ⟨RX4, "constant", "(IJ)I"⟩
abbrev cX4_one : ByteArray := prog_6_method_9_code
def yX4_one : MethodName := ⟨RX4, "one", "(II)I"⟩
abbrev cX4_heavy : ByteArray := prog_6_method_10_code
def yX4_heavy : MethodName := ⟨RX4, "heavy", "(II)I"⟩
abbrev cX4_two : ByteArray := prog_6_method_11_code
def yX4_two : MethodName := ⟨RX4, "two", "(III)I"⟩
abbrev cX4_compare : ByteArray := prog_6_method_12_code
def yX4_compare : MethodName := ⟨RX4, "compare", "(III)I"⟩
abbrev cX4_choose : ByteArray := prog_6_method_13_code
def yX4_choose : MethodName := ⟨RX4, "choose", "(III)I"⟩
abbrev cX4_concat : ByteArray := prog_6_method_14_code
def yX4_concat : MethodName := ⟨RX4, "concat", "(II)I"⟩
abbrev cX4_extract : ByteArray := prog_6_method_15_code
def yX4_extract : MethodName := ⟨RX4, "extract", "(III)I"⟩
abbrev cX4_extend : ByteArray := prog_6_method_16_code
def yX4_extend : MethodName := ⟨RX4, "extend", "(IIZ)I"⟩
abbrev cX4_signed : ByteArray := prog_6_method_17_code
def yX4_signed : MethodName := ⟨RX4, "signed", "(JI)J"⟩
abbrev cX4_isBelow : ByteArray := prog_6_method_18_code
def yX4_isBelow : MethodName := ⟨RX4, "isBelow", "(JJ)Z"⟩
abbrev cX4_divide : ByteArray := prog_6_method_19_code
def yX4_divide : MethodName := ⟨RX4, "divide", "(JJZ)J"⟩
abbrev cX4_divided : ByteArray := prog_6_method_20_code
def yX4_divided : MethodName := ⟨RX4, "divided", "(IJJI)J"⟩
abbrev cX4_shifted : ByteArray := prog_6_method_21_code
def yX4_shifted : MethodName := ⟨RX4, "shifted", "(IJJI)J"⟩
abbrev cX4_both : ByteArray := prog_6_method_22_code
def yX4_both : MethodName := ⟨RX4, "both", "(IJJI)J"⟩
abbrev cX4_holds : ByteArray := prog_6_method_23_code
def yX4_holds : MethodName := ⟨RX4, "holds", "(IJJI)Z"⟩
abbrev cX4_reckon : ByteArray := prog_6_method_24_code
def yX4_reckon : MethodName := ⟨RX4, "reckon", "(I)J"⟩
abbrev cX4_reckonAll : ByteArray := prog_6_method_25_code
def yX4_reckonAll : MethodName := ⟨RX4, "reckonAll", "()V"⟩
abbrev cX4_set : ByteArray := prog_6_method_26_code
def yX4_set : MethodName := ⟨RX4, "set", "(IJ)J"⟩
abbrev cX4_value : ByteArray := prog_6_method_27_code
def yX4_value : MethodName := ⟨RX4, "value", "(I)J"⟩
abbrev cX4_width : ByteArray := prog_6_method_28_code
def yX4_width : MethodName := ⟨RX4, "width", "(I)I"⟩
abbrev cX4_weight : ByteArray := prog_6_method_29_code
def yX4_weight : MethodName := ⟨RX4, "weight", "()I"⟩
abbrev cX4_vectors : ByteArray := prog_6_method_30_code
def yX4_vectors : MethodName := ⟨RX4, "vectors", "()I"⟩
def RJ9 : String := "java/lang/Math"
def TJ9 : u_T := fun k => match k with
  | _ => ("", "", "", false)
def tyJ9 : Nat → FieldType := fun k => match k with
  | _ => .int
theorem nmJ9 : ∀ a, a < 0 → ∀ b, b < 0 → a ≠ b → (TJ9 a).2.1 ≠ (TJ9 b).2.1 := by decide +kernel
theorem tyJ9_ok : ∀ k, k < 0 → parseFieldDescriptor (TJ9 k).2.2.1 = some (tyJ9 k) := by decide +kernel
abbrev cJ9_max_7cf53 : ByteArray := prog_15_method_65_code
def yJ9_max_7cf53 : MethodName := ⟨RJ9, "max", "(II)I"⟩
abbrev cJ9_min_7cf53 : ByteArray := prog_15_method_69_code
def yJ9_min_7cf53 : MethodName := ⟨RJ9, "min", "(II)I"⟩
def RJxa1e45 : String := "java/util/AbstractCollection"
def TJxa1e45 : u_T := fun k => match k with
  | _ => ("", "", "", false)
def tyJxa1e45 : Nat → FieldType := fun k => match k with
  | _ => .int
theorem nmJxa1e45 : ∀ a, a < 0 → ∀ b, b < 0 → a ≠ b → (TJxa1e45 a).2.1 ≠ (TJxa1e45 b).2.1 := by decide +kernel
theorem tyJxa1e45_ok : ∀ k, k < 0 → parseFieldDescriptor (TJxa1e45 k).2.2.1 = some (tyJxa1e45 k) := by decide +kernel
abbrev cJxa1e45_init_da8c8 : ByteArray := prog_23_method_1_code
def yJxa1e45_init_da8c8 : MethodName := ⟨RJxa1e45, "<init>", "()V"⟩
def RJxc12de : String := "java/util/AbstractList"
def TJxc12de : u_T := fun k => match k with
  | _ => ("", "", "", false)
def tyJxc12de : Nat → FieldType := fun k => match k with
  | _ => .int
theorem nmJxc12de : ∀ a, a < 0 → ∀ b, b < 0 → a ≠ b → (TJxc12de a).2.1 ≠ (TJxc12de b).2.1 := by decide +kernel
theorem tyJxc12de_ok : ∀ k, k < 0 → parseFieldDescriptor (TJxc12de k).2.2.1 = some (tyJxc12de k) := by decide +kernel
abbrev cJxc12de_init_da8c8 : ByteArray := prog_24_method_1_code
def yJxc12de_init_da8c8 : MethodName := ⟨RJxc12de, "<init>", "()V"⟩
def RJx4a65c : String := "java/util/ArrayList"
def TJx4a65c : u_T := fun k => match k with
  | 0 => ("java/util/AbstractList", "modCount", "I", false)
  | 1 => ("java/util/ArrayList", "elementData", "[Ljava/lang/Object;", false)
  | _ => ("java/util/ArrayList", "size", "I", false)
def tyJx4a65c : Nat → FieldType := fun k => match k with
  | 0 => .int
  | 1 => .array (.object "java/lang/Object")
  | _ => .int
theorem nmJx4a65c : ∀ a, a < 3 → ∀ b, b < 3 → a ≠ b → (TJx4a65c a).2.1 ≠ (TJx4a65c b).2.1 := by decide +kernel
theorem tyJx4a65c_ok : ∀ k, k < 3 → parseFieldDescriptor (TJx4a65c k).2.2.1 = some (tyJx4a65c k) := by decide +kernel
abbrev cJx4a65c_init_da8c8 : ByteArray := prog_25_method_2_code
def yJx4a65c_init_da8c8 : MethodName := ⟨RJx4a65c, "<init>", "()V"⟩
abbrev cJx4a65c_grow_92f84 : ByteArray := prog_25_method_6_code
def yJx4a65c_grow_92f84 : MethodName := ⟨RJx4a65c, "grow", "(I)[Ljava/lang/Object;"⟩
abbrev cJx4a65c_grow_d5877 : ByteArray := prog_25_method_7_code
def yJx4a65c_grow_d5877 : MethodName := ⟨RJx4a65c, "grow", "()[Ljava/lang/Object;"⟩
abbrev cJx4a65c_size_8abf5 : ByteArray := prog_25_method_8_code
def yJx4a65c_size_8abf5 : MethodName := ⟨RJx4a65c, "size", "()I"⟩
abbrev cJx4a65c_elementData_915e3 : ByteArray := prog_25_method_18_code
def yJx4a65c_elementData_915e3 : MethodName := ⟨RJx4a65c, "elementData", "(I)Ljava/lang/Object;"⟩
abbrev cJx4a65c_get_915e3 : ByteArray := prog_25_method_20_code
def yJx4a65c_get_915e3 : MethodName := ⟨RJx4a65c, "get", "(I)Ljava/lang/Object;"⟩
abbrev cJx4a65c_add_72be8 : ByteArray := prog_25_method_24_code
def yJx4a65c_add_72be8 : MethodName := ⟨RJx4a65c, "add", "(Ljava/lang/Object;[Ljava/lang/Object;I)V"⟩
abbrev cJx4a65c_add_9ea2d : ByteArray := prog_25_method_25_code
def yJx4a65c_add_9ea2d : MethodName := ⟨RJx4a65c, "add", "(Ljava/lang/Object;)Z"⟩
def RJ7 : String := "java/util/Arrays"
def TJ7 : u_T := fun k => match k with
  | _ => ("", "", "", false)
def tyJ7 : Nat → FieldType := fun k => match k with
  | _ => .int
theorem nmJ7 : ∀ a, a < 0 → ∀ b, b < 0 → a ≠ b → (TJ7 a).2.1 ≠ (TJ7 b).2.1 := by decide +kernel
theorem tyJ7_ok : ∀ k, k < 0 → parseFieldDescriptor (TJ7 k).2.2.1 = some (tyJ7 k) := by decide +kernel
abbrev cJ7_rangeCheck_23922 : ByteArray := prog_26_method_30_code
def yJ7_rangeCheck_23922 : MethodName := ⟨RJ7, "rangeCheck", "(III)V"⟩
abbrev cJ7_fill_fda19 : ByteArray := prog_26_method_104_code
def yJ7_fill_fda19 : MethodName := ⟨RJ7, "fill", "([IIII)V"⟩
abbrev cJ7_copyOf_1904c : ByteArray := prog_26_method_119_code
def yJ7_copyOf_1904c : MethodName := ⟨RJ7, "copyOf", "([Ljava/lang/Object;I)[Ljava/lang/Object;"⟩
abbrev cJ7_copyOf_6403c : ByteArray := prog_26_method_120_code
def yJ7_copyOf_6403c : MethodName := ⟨RJ7, "copyOf", "([Ljava/lang/Object;ILjava/lang/Class;)[Ljava/lang/Object;"⟩
abbrev cJ7_copyOf_9075b : ByteArray := prog_26_method_121_code
def yJ7_copyOf_9075b : MethodName := ⟨RJ7, "copyOf", "([BI)[B"⟩
abbrev cJ7_copyOf_59c91 : ByteArray := prog_26_method_123_code
def yJ7_copyOf_59c91 : MethodName := ⟨RJ7, "copyOf", "([II)[I"⟩
abbrev cJ7_checkLength_df160 : ByteArray := prog_26_method_131_code
def yJ7_checkLength_df160 : MethodName := ⟨RJ7, "checkLength", "(II)V"⟩
abbrev cJ7_copyOfRange_39247 : ByteArray := prog_26_method_132_code
def yJ7_copyOfRange_39247 : MethodName := ⟨RJ7, "copyOfRange", "([BII)[B"⟩
abbrev cJ7_copyOfRangeByte_39247 : ByteArray := prog_26_method_133_code
def yJ7_copyOfRangeByte_39247 : MethodName := ⟨RJ7, "copyOfRangeByte", "([BII)[B"⟩
abbrev cJ7_copyOfRange_feecc : ByteArray := prog_26_method_136_code
def yJ7_copyOfRange_feecc : MethodName := ⟨RJ7, "copyOfRange", "([III)[I"⟩
abbrev cJ7_copyOfRangeInt_feecc : ByteArray := prog_26_method_137_code
def yJ7_copyOfRangeInt_feecc : MethodName := ⟨RJ7, "copyOfRangeInt", "([III)[I"⟩
def RJ15 : String := "java/util/Objects"
def TJ15 : u_T := fun k => match k with
  | _ => ("", "", "", false)
def tyJ15 : Nat → FieldType := fun k => match k with
  | _ => .int
theorem nmJ15 : ∀ a, a < 0 → ∀ b, b < 0 → a ≠ b → (TJ15 a).2.1 ≠ (TJ15 b).2.1 := by decide +kernel
theorem tyJ15_ok : ∀ k, k < 0 → parseFieldDescriptor (TJ15 k).2.2.1 = some (tyJ15 k) := by decide +kernel
abbrev cJ15_checkIndex_7cf53 : ByteArray := prog_29_method_17_code
def yJ15_checkIndex_7cf53 : MethodName := ⟨RJ15, "checkIndex", "(II)I"⟩
def RJ8 : String := "jdk/internal/util/ArraysSupport"
def TJ8 : u_T := fun k => match k with
  | _ => ("", "", "", false)
def tyJ8 : Nat → FieldType := fun k => match k with
  | _ => .int
theorem nmJ8 : ∀ a, a < 0 → ∀ b, b < 0 → a ≠ b → (TJ8 a).2.1 ≠ (TJ8 b).2.1 := by decide +kernel
theorem tyJ8_ok : ∀ k, k < 0 → parseFieldDescriptor (TJ8 k).2.2.1 = some (tyJ8 k) := by decide +kernel
abbrev cJ8_newLength_cabcc : ByteArray := prog_32_method_27_code
def yJ8_newLength_cabcc : MethodName := ⟨RJ8, "newLength", "(III)I"⟩
abbrev cJ8_hugeLength_7cf53 : ByteArray := prog_32_method_28_code
def yJ8_hugeLength_7cf53 : MethodName := ⟨RJ8, "hugeLength", "(II)I"⟩
def RJ3 : String := "jdk/internal/util/Preconditions"
def TJ3 : u_T := fun k => match k with
  | _ => ("", "", "", false)
def tyJ3 : Nat → FieldType := fun k => match k with
  | _ => .int
theorem nmJ3 : ∀ a, a < 0 → ∀ b, b < 0 → a ≠ b → (TJ3 a).2.1 ≠ (TJ3 b).2.1 := by decide +kernel
theorem tyJ3_ok : ∀ k, k < 0 → parseFieldDescriptor (TJ3 k).2.2.1 = some (tyJ3 k) := by decide +kernel
abbrev cJ3_checkIndex_8e157 : ByteArray := prog_33_method_11_code
def yJ3_checkIndex_8e157 : MethodName := ⟨RJ3, "checkIndex", "(IILjava/util/function/BiFunction;)I"⟩
abbrev cJ3_checkFromToIndex_8c36e : ByteArray := prog_33_method_12_code
def yJ3_checkFromToIndex_8c36e : MethodName := ⟨RJ3, "checkFromToIndex", "(IIILjava/util/function/BiFunction;)I"⟩
abbrev cJ3_checkFromIndexSize_8c36e : ByteArray := prog_33_method_13_code
def yJ3_checkFromIndexSize_8c36e : MethodName := ⟨RJ3, "checkFromIndexSize", "(IIILjava/util/function/BiFunction;)I"⟩
def RL : String := "VectorBenchLaw"
abbrev cL_input : ByteArray := method_3_code
def yL_input : MethodName := ⟨RL, "input", "(LVectorBench;I[J)I"⟩
abbrev cL_constant : ByteArray := method_4_code
def yL_constant : MethodName := ⟨RL, "constant", "(LVectorBench;IJ[J)I"⟩
abbrev cL_one : ByteArray := method_5_code
def yL_one : MethodName := ⟨RL, "one", "(LVectorBench;II[J)I"⟩
abbrev cL_two : ByteArray := method_6_code
def yL_two : MethodName := ⟨RL, "two", "(LVectorBench;III[J)I"⟩
abbrev cL_compare : ByteArray := method_7_code
def yL_compare : MethodName := ⟨RL, "compare", "(LVectorBench;III[J)I"⟩
abbrev cL_choose : ByteArray := method_8_code
def yL_choose : MethodName := ⟨RL, "choose", "(LVectorBench;III[J)I"⟩
abbrev cL_concat : ByteArray := method_9_code
def yL_concat : MethodName := ⟨RL, "concat", "(LVectorBench;II[J)I"⟩
abbrev cL_extract : ByteArray := method_10_code
def yL_extract : MethodName := ⟨RL, "extract", "(LVectorBench;III[J)I"⟩
abbrev cL_extend : ByteArray := method_11_code
def yL_extend : MethodName := ⟨RL, "extend", "(LVectorBench;IIZ[J)I"⟩
abbrev cL_set : ByteArray := method_12_code
def yL_set : MethodName := ⟨RL, "set", "(LVectorBench;IJ[J)I"⟩
abbrev cL_value : ByteArray := method_13_code
def yL_value : MethodName := ⟨RL, "value", "(LVectorBench;I[J)I"⟩
abbrev cL_width : ByteArray := method_14_code
def yL_width : MethodName := ⟨RL, "width", "(LVectorBench;I[J)I"⟩
abbrev cL_law : ByteArray := code
def yL_law : MethodName := ⟨RL, "law", "([I)Z"⟩
