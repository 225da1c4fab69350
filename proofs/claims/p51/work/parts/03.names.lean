def RX0 : String := "ThoughtBetterOf$Bride"
def TX0 : u_T := fun k => match k with
  | 0 => ("ThoughtBetterOf$Plain", "kind", "I", true)
  | _ => ("ThoughtBetterOf$Plain", "figure", "I", true)
def tyX0 : Nat → FieldType := fun k => match k with
  | 0 => .int
  | _ => .int
abbrev wsX00 : List Cond := u_ws RX0 TX0 2
theorem nmX0 : ∀ a, a < 2 → ∀ b, b < 2 → a ≠ b → (TX0 a).2.1 ≠ (TX0 b).2.1 := by decide +kernel
theorem tyX0_ok : ∀ k, k < 2 → parseFieldDescriptor (TX0 k).2.2.1 = some (tyX0 k) := by decide +kernel
abbrev cX0_init : ByteArray := prog_2_method_1_code
def yX0_init : MethodName := ⟨RX0, "<init>", "(II)V"⟩
abbrev cX0_dueWhenTold : ByteArray := prog_2_method_2_code
def yX0_dueWhenTold : MethodName := ⟨RX0, "dueWhenTold", "(I)I"⟩
def RX1 : String := "ThoughtBetterOf$Child"
def TX1 : u_T := fun k => match k with
  | 0 => ("ThoughtBetterOf$Plain", "kind", "I", true)
  | _ => ("ThoughtBetterOf$Plain", "figure", "I", true)
def tyX1 : Nat → FieldType := fun k => match k with
  | 0 => .int
  | _ => .int
abbrev wsX10 : List Cond := u_ws RX1 TX1 2
theorem nmX1 : ∀ a, a < 2 → ∀ b, b < 2 → a ≠ b → (TX1 a).2.1 ≠ (TX1 b).2.1 := by decide +kernel
theorem tyX1_ok : ∀ k, k < 2 → parseFieldDescriptor (TX1 k).2.2.1 = some (tyX1 k) := by decide +kernel
abbrev cX1_init : ByteArray := prog_3_method_1_code
def yX1_init : MethodName := ⟨RX1, "<init>", "(II)V"⟩
abbrev cX1_buysOf : ByteArray := prog_3_method_2_code
def yX1_buysOf : MethodName := ⟨RX1, "buysOf", "(II)Z"⟩
abbrev cX1_priceOf : ByteArray := prog_3_method_3_code
def yX1_priceOf : MethodName := ⟨RX1, "priceOf", "(II)I"⟩
def RX2 : String := "ThoughtBetterOf$Day"
def TX2 : u_T := fun k => match k with
  | 0 => ("ThoughtBetterOf$Day", "town", "LThoughtBetterOf$Town;", false)
  | 1 => ("ThoughtBetterOf$Day", "there", "I", false)
  | 2 => ("ThoughtBetterOf$Day", "due", "[I", true)
  | 3 => ("ThoughtBetterOf$Day", "firstSum", "[I", true)
  | 4 => ("ThoughtBetterOf$Day", "choice", "[I", true)
  | 5 => ("ThoughtBetterOf$Day", "bought", "[I", true)
  | 6 => ("ThoughtBetterOf$Day", "paid", "[I", true)
  | 7 => ("ThoughtBetterOf$Day", "side", "[I", true)
  | 8 => ("ThoughtBetterOf$Day", "strength", "[I", true)
  | 9 => ("ThoughtBetterOf$Day", "from", "[I", true)
  | 10 => ("ThoughtBetterOf$Day", "fades", "[I", true)
  | _ => ("ThoughtBetterOf$Day", "buyer", "[I", true)
def tyX2 : Nat → FieldType := fun k => match k with
  | 0 => .object "ThoughtBetterOf$Town"
  | 1 => .int
  | 2 => .array .int
  | 3 => .array .int
  | 4 => .array .int
  | 5 => .array .int
  | 6 => .array .int
  | 7 => .array .int
  | 8 => .array .int
  | 9 => .array .int
  | 10 => .array .int
  | _ => .array .int
abbrev wsX20 : List Cond := u_ws RX2 TX2 12
theorem nmX2 : ∀ a, a < 12 → ∀ b, b < 12 → a ≠ b → (TX2 a).2.1 ≠ (TX2 b).2.1 := by decide +kernel
theorem tyX2_ok : ∀ k, k < 12 → parseFieldDescriptor (TX2 k).2.2.1 = some (tyX2 k) := by decide +kernel
abbrev cX2_init : ByteArray := prog_4_method_1_code
def yX2_init : MethodName := ⟨RX2, "<init>", "(LThoughtBetterOf$Town;)V"⟩
abbrev cX2_run : ByteArray := prog_4_method_2_code
def yX2_run : MethodName := ⟨RX2, "run", "(LThoughtBetterOf$Town;I)V"⟩
abbrev cX2_offer : ByteArray := prog_4_method_3_code
def yX2_offer : MethodName := ⟨RX2, "offer", "(IIIII)V"⟩
abbrev cX2_thinkFirst : ByteArray := prog_4_method_4_code
def yX2_thinkFirst : MethodName := ⟨RX2, "thinkFirst", "(I)V"⟩
abbrev cX2_choose : ByteArray := prog_4_method_5_code
def yX2_choose : MethodName := ⟨RX2, "choose", "(I)V"⟩
abbrev cX2_thinkAgain : ByteArray := prog_4_method_6_code
def yX2_thinkAgain : MethodName := ⟨RX2, "thinkAgain", "(I)V"⟩
abbrev cX2_buyBest : ByteArray := prog_4_method_7_code
def yX2_buyBest : MethodName := ⟨RX2, "buyBest", "(I)V"⟩
abbrev cX2_caseOf : ByteArray := prog_4_method_8_code
def yX2_caseOf : MethodName := ⟨RX2, "caseOf", "(I)I"⟩
abbrev cX2_leftOf : ByteArray := prog_4_method_9_code
def yX2_leftOf : MethodName := ⟨RX2, "leftOf", "(II)I"⟩
abbrev cX2_isForSale : ByteArray := prog_4_method_10_code
def yX2_isForSale : MethodName := ⟨RX2, "isForSale", "(II)Z"⟩
abbrev cX2_toldChoice : ByteArray := prog_4_method_11_code
def yX2_toldChoice : MethodName := ⟨RX2, "toldChoice", "(I)I"⟩
abbrev cX2_choices : ByteArray := prog_4_method_12_code
def yX2_choices : MethodName := ⟨RX2, "choices", "()I"⟩
abbrev cX2_sayYes : ByteArray := prog_4_method_13_code
def yX2_sayYes : MethodName := ⟨RX2, "sayYes", "()I"⟩
abbrev cX2_coinsAt : ByteArray := prog_4_method_14_code
def yX2_coinsAt : MethodName := ⟨RX2, "coinsAt", "(II)I"⟩
abbrev cX2_fateOf : ByteArray := prog_4_method_15_code
def yX2_fateOf : MethodName := ⟨RX2, "fateOf", "(II)I"⟩
abbrev cX2_countOf : ByteArray := prog_4_method_16_code
def yX2_countOf : MethodName := ⟨RX2, "countOf", "(I)I"⟩
abbrev cX2_howManyChoose : ByteArray := prog_4_method_17_code
def yX2_howManyChoose : MethodName := ⟨RX2, "howManyChoose", "(I)I"⟩
abbrev cX2_howManySold : ByteArray := prog_4_method_18_code
def yX2_howManySold : MethodName := ⟨RX2, "howManySold", "()I"⟩
abbrev cX2_allPaid : ByteArray := prog_4_method_19_code
def yX2_allPaid : MethodName := ⟨RX2, "allPaid", "()I"⟩
abbrev cX2_howManyRegret : ByteArray := prog_4_method_20_code
def yX2_howManyRegret : MethodName := ⟨RX2, "howManyRegret", "()I"⟩
abbrev cX2_chainOf : ByteArray := prog_4_method_22_code
def yX2_chainOf : MethodName := ⟨RX2, "chainOf", "(I)I"⟩
def RX3 : String := "ThoughtBetterOf$Drunk"
def TX3 : u_T := fun k => match k with
  | 0 => ("ThoughtBetterOf$Plain", "kind", "I", true)
  | _ => ("ThoughtBetterOf$Plain", "figure", "I", true)
def tyX3 : Nat → FieldType := fun k => match k with
  | 0 => .int
  | _ => .int
abbrev wsX30 : List Cond := u_ws RX3 TX3 2
theorem nmX3 : ∀ a, a < 2 → ∀ b, b < 2 → a ≠ b → (TX3 a).2.1 ≠ (TX3 b).2.1 := by decide +kernel
theorem tyX3_ok : ∀ k, k < 2 → parseFieldDescriptor (TX3 k).2.2.1 = some (tyX3 k) := by decide +kernel
abbrev cX3_init : ByteArray := prog_5_method_1_code
def yX3_init : MethodName := ⟨RX3, "<init>", "(II)V"⟩
abbrev cX3_sumOf : ByteArray := prog_5_method_2_code
def yX3_sumOf : MethodName := ⟨RX3, "sumOf", "(II)I"⟩
abbrev cX3_priceOf : ByteArray := prog_5_method_3_code
def yX3_priceOf : MethodName := ⟨RX3, "priceOf", "(II)I"⟩
abbrev cX3_fadeBy : ByteArray := prog_5_method_4_code
def yX3_fadeBy : MethodName := ⟨RX3, "fadeBy", "(I)I"⟩
def RX4 : String := "ThoughtBetterOf$Firm"
def TX4 : u_T := fun k => match k with
  | 0 => ("ThoughtBetterOf$Plain", "kind", "I", true)
  | _ => ("ThoughtBetterOf$Plain", "figure", "I", true)
def tyX4 : Nat → FieldType := fun k => match k with
  | 0 => .int
  | _ => .int
abbrev wsX40 : List Cond := u_ws RX4 TX4 2
theorem nmX4 : ∀ a, a < 2 → ∀ b, b < 2 → a ≠ b → (TX4 a).2.1 ≠ (TX4 b).2.1 := by decide +kernel
theorem tyX4_ok : ∀ k, k < 2 → parseFieldDescriptor (TX4 k).2.2.1 = some (tyX4 k) := by decide +kernel
abbrev cX4_init : ByteArray := prog_6_method_1_code
def yX4_init : MethodName := ⟨RX4, "<init>", "(II)V"⟩
abbrev cX4_strengthOf : ByteArray := prog_6_method_2_code
def yX4_strengthOf : MethodName := ⟨RX4, "strengthOf", "(I)I"⟩
abbrev cX4_fadeBy : ByteArray := prog_6_method_3_code
def yX4_fadeBy : MethodName := ⟨RX4, "fadeBy", "(I)I"⟩
def RX5 : String := "ThoughtBetterOf$General"
def TX5 : u_T := fun k => match k with
  | 0 => ("ThoughtBetterOf$Plain", "kind", "I", true)
  | _ => ("ThoughtBetterOf$Plain", "figure", "I", true)
def tyX5 : Nat → FieldType := fun k => match k with
  | 0 => .int
  | _ => .int
abbrev wsX50 : List Cond := u_ws RX5 TX5 2
theorem nmX5 : ∀ a, a < 2 → ∀ b, b < 2 → a ≠ b → (TX5 a).2.1 ≠ (TX5 b).2.1 := by decide +kernel
theorem tyX5_ok : ∀ k, k < 2 → parseFieldDescriptor (TX5 k).2.2.1 = some (tyX5 k) := by decide +kernel
abbrev cX5_init : ByteArray := prog_7_method_1_code
def yX5_init : MethodName := ⟨RX5, "<init>", "(II)V"⟩
abbrev cX5_sumOf : ByteArray := prog_7_method_2_code
def yX5_sumOf : MethodName := ⟨RX5, "sumOf", "(II)I"⟩
def RX6 : String := "ThoughtBetterOf$King"
def TX6 : u_T := fun k => match k with
  | 0 => ("ThoughtBetterOf$Plain", "kind", "I", true)
  | _ => ("ThoughtBetterOf$Plain", "figure", "I", true)
def tyX6 : Nat → FieldType := fun k => match k with
  | 0 => .int
  | _ => .int
abbrev wsX60 : List Cond := u_ws RX6 TX6 2
theorem nmX6 : ∀ a, a < 2 → ∀ b, b < 2 → a ≠ b → (TX6 a).2.1 ≠ (TX6 b).2.1 := by decide +kernel
theorem tyX6_ok : ∀ k, k < 2 → parseFieldDescriptor (TX6 k).2.2.1 = some (tyX6 k) := by decide +kernel
abbrev cX6_init : ByteArray := prog_8_method_1_code
def yX6_init : MethodName := ⟨RX6, "<init>", "(II)V"⟩
abbrev cX6_sumOf : ByteArray := prog_8_method_2_code
def yX6_sumOf : MethodName := ⟨RX6, "sumOf", "(II)I"⟩
def RX7 : String := "ThoughtBetterOf$Plain"
def TX7 : u_T := fun k => match k with
  | 0 => ("ThoughtBetterOf$Plain", "kind", "I", true)
  | _ => ("ThoughtBetterOf$Plain", "figure", "I", true)
def tyX7 : Nat → FieldType := fun k => match k with
  | 0 => .int
  | _ => .int
abbrev wsX70 : List Cond := u_ws RX7 TX7 2
theorem nmX7 : ∀ a, a < 2 → ∀ b, b < 2 → a ≠ b → (TX7 a).2.1 ≠ (TX7 b).2.1 := by decide +kernel
theorem tyX7_ok : ∀ k, k < 2 → parseFieldDescriptor (TX7 k).2.2.1 = some (tyX7 k) := by decide +kernel
abbrev cX7_init : ByteArray := prog_9_method_1_code
def yX7_init : MethodName := ⟨RX7, "<init>", "(II)V"⟩
abbrev cX7_dueWhenTold : ByteArray := prog_9_method_2_code
def yX7_dueWhenTold : MethodName := ⟨RX7, "dueWhenTold", "(I)I"⟩
abbrev cX7_sumOf : ByteArray := prog_9_method_3_code
def yX7_sumOf : MethodName := ⟨RX7, "sumOf", "(II)I"⟩
abbrev cX7_strengthOf : ByteArray := prog_9_method_4_code
def yX7_strengthOf : MethodName := ⟨RX7, "strengthOf", "(I)I"⟩
abbrev cX7_buysOf : ByteArray := prog_9_method_5_code
def yX7_buysOf : MethodName := ⟨RX7, "buysOf", "(II)Z"⟩
abbrev cX7_priceOf : ByteArray := prog_9_method_6_code
def yX7_priceOf : MethodName := ⟨RX7, "priceOf", "(II)I"⟩
abbrev cX7_fadeBy : ByteArray := prog_9_method_7_code
def yX7_fadeBy : MethodName := ⟨RX7, "fadeBy", "(I)I"⟩
def RX8 : String := "ThoughtBetterOf$Row"
def TX8 : u_T := fun k => match k with
  | 0 => ("ThoughtBetterOf$Row", "sort", "I", false)
  | 1 => ("ThoughtBetterOf$Row", "size", "I", false)
  | _ => ("ThoughtBetterOf$Row", "cells", "[I", true)
def tyX8 : Nat → FieldType := fun k => match k with
  | 0 => .int
  | 1 => .int
  | _ => .array .int
abbrev wsX80 : List Cond := u_ws RX8 TX8 3
theorem nmX8 : ∀ a, a < 3 → ∀ b, b < 3 → a ≠ b → (TX8 a).2.1 ≠ (TX8 b).2.1 := by decide +kernel
theorem tyX8_ok : ∀ k, k < 3 → parseFieldDescriptor (TX8 k).2.2.1 = some (tyX8 k) := by decide +kernel
abbrev cX8_init : ByteArray := prog_10_method_1_code
def yX8_init : MethodName := ⟨RX8, "<init>", "()V"⟩
abbrev cX8_begin : ByteArray := prog_10_method_2_code
def yX8_begin : MethodName := ⟨RX8, "begin", "(II)V"⟩
abbrev cX8_hasPlaces : ByteArray := prog_10_method_3_code
def yX8_hasPlaces : MethodName := ⟨RX8, "hasPlaces", "(II)Z"⟩
abbrev cX8_at : ByteArray := prog_10_method_4_code
def yX8_at : MethodName := ⟨RX8, "at", "(I)I"⟩
abbrev cX8_write : ByteArray := prog_10_method_5_code
def yX8_write : MethodName := ⟨RX8, "write", "(II)V"⟩
abbrev cX8_digitAt : ByteArray := prog_10_method_7_code
def yX8_digitAt : MethodName := ⟨RX8, "digitAt", "(I)I"⟩
abbrev cX8_pairAt : ByteArray := prog_10_method_8_code
def yX8_pairAt : MethodName := ⟨RX8, "pairAt", "(I)I"⟩
abbrev cX8_signAt : ByteArray := prog_10_method_9_code
def yX8_signAt : MethodName := ⟨RX8, "signAt", "(I)I"⟩
abbrev cX8_signedAt : ByteArray := prog_10_method_10_code
def yX8_signedAt : MethodName := ⟨RX8, "signedAt", "(I)I"⟩
def RX9 : String := "ThoughtBetterOf$Sworn"
def TX9 : u_T := fun k => match k with
  | 0 => ("ThoughtBetterOf$Plain", "kind", "I", true)
  | _ => ("ThoughtBetterOf$Plain", "figure", "I", true)
def tyX9 : Nat → FieldType := fun k => match k with
  | 0 => .int
  | _ => .int
abbrev wsX90 : List Cond := u_ws RX9 TX9 2
theorem nmX9 : ∀ a, a < 2 → ∀ b, b < 2 → a ≠ b → (TX9 a).2.1 ≠ (TX9 b).2.1 := by decide +kernel
theorem tyX9_ok : ∀ k, k < 2 → parseFieldDescriptor (TX9 k).2.2.1 = some (tyX9 k) := by decide +kernel
abbrev cX9_init : ByteArray := prog_11_method_1_code
def yX9_init : MethodName := ⟨RX9, "<init>", "(II)V"⟩
abbrev cX9_strengthOf : ByteArray := prog_11_method_2_code
def yX9_strengthOf : MethodName := ⟨RX9, "strengthOf", "(I)I"⟩
abbrev cX9_buysOf : ByteArray := prog_11_method_3_code
def yX9_buysOf : MethodName := ⟨RX9, "buysOf", "(II)Z"⟩
def RX10 : String := "ThoughtBetterOf$Town"
def TX10 : u_T := fun k => match k with
  | 0 => ("ThoughtBetterOf$Town", "people", "I", false)
  | 1 => ("ThoughtBetterOf$Town", "who", "[LThoughtBetterOf$Plain;", true)
  | 2 => ("ThoughtBetterOf$Town", "kase", "[I", true)
  | 3 => ("ThoughtBetterOf$Town", "hour", "[I", true)
  | 4 => ("ThoughtBetterOf$Town", "mood", "[I", true)
  | 5 => ("ThoughtBetterOf$Town", "coins", "[I", true)
  | 6 => ("ThoughtBetterOf$Town", "facts", "I", false)
  | 7 => ("ThoughtBetterOf$Town", "factCase", "[I", true)
  | 8 => ("ThoughtBetterOf$Town", "factWeight", "[I", true)
  | 9 => ("ThoughtBetterOf$Town", "factHour", "[I", true)
  | 10 => ("ThoughtBetterOf$Town", "factChance", "[I", true)
  | 11 => ("ThoughtBetterOf$Town", "plants", "I", false)
  | 12 => ("ThoughtBetterOf$Town", "plantCase", "[I", true)
  | 13 => ("ThoughtBetterOf$Town", "plantSide", "[I", true)
  | 14 => ("ThoughtBetterOf$Town", "plantStrength", "[I", true)
  | 15 => ("ThoughtBetterOf$Town", "plantPrice", "[I", true)
  | 16 => ("ThoughtBetterOf$Town", "plantHour", "[I", true)
  | 17 => ("ThoughtBetterOf$Town", "kinBits", "[I", true)
  | _ => ("ThoughtBetterOf$Town", "rule", "[I", true)
def tyX10 : Nat → FieldType := fun k => match k with
  | 0 => .int
  | 1 => .array (.object "ThoughtBetterOf$Plain")
  | 2 => .array .int
  | 3 => .array .int
  | 4 => .array .int
  | 5 => .array .int
  | 6 => .int
  | 7 => .array .int
  | 8 => .array .int
  | 9 => .array .int
  | 10 => .array .int
  | 11 => .int
  | 12 => .array .int
  | 13 => .array .int
  | 14 => .array .int
  | 15 => .array .int
  | 16 => .array .int
  | 17 => .array .int
  | _ => .array .int
abbrev wsX100 : List Cond := u_ws RX10 TX10 19
theorem nmX10 : ∀ a, a < 19 → ∀ b, b < 19 → a ≠ b → (TX10 a).2.1 ≠ (TX10 b).2.1 := by decide +kernel
theorem tyX10_ok : ∀ k, k < 19 → parseFieldDescriptor (TX10 k).2.2.1 = some (tyX10 k) := by decide +kernel
abbrev cX10_init : ByteArray := prog_12_method_1_code
def yX10_init : MethodName := ⟨RX10, "<init>", "()V"⟩
abbrev cX10_become : ByteArray := prog_12_method_2_code
def yX10_become : MethodName := ⟨RX10, "become", "(LThoughtBetterOf$Town;)V"⟩
abbrev cX10_isNoOne : ByteArray := prog_12_method_3_code
def yX10_isNoOne : MethodName := ⟨RX10, "isNoOne", "(IIII)Z"⟩
abbrev cX10_addOne : ByteArray := prog_12_method_4_code
def yX10_addOne : MethodName := ⟨RX10, "addOne", "(LThoughtBetterOf$Plain;IIII)I"⟩
abbrev cX10_addFact : ByteArray := prog_12_method_6_code
def yX10_addFact : MethodName := ⟨RX10, "addFact", "(III)I"⟩
abbrev cX10_addPlant : ByteArray := prog_12_method_7_code
def yX10_addPlant : MethodName := ⟨RX10, "addPlant", "(IIIII)I"⟩
abbrev cX10_turnKin : ByteArray := prog_12_method_8_code
def yX10_turnKin : MethodName := ⟨RX10, "turnKin", "(II)I"⟩
abbrev cX10_areKin : ByteArray := prog_12_method_9_code
def yX10_areKin : MethodName := ⟨RX10, "areKin", "(II)Z"⟩
abbrev cX10_pairsOfKin : ByteArray := prog_12_method_10_code
def yX10_pairsOfKin : MethodName := ⟨RX10, "pairsOfKin", "()I"⟩
abbrev cX10_changeRule : ByteArray := prog_12_method_11_code
def yX10_changeRule : MethodName := ⟨RX10, "changeRule", "(II)I"⟩
abbrev cX10_allCoins : ByteArray := prog_12_method_12_code
def yX10_allCoins : MethodName := ⟨RX10, "allCoins", "()I"⟩
abbrev cX10_weightOf : ByteArray := prog_12_method_13_code
def yX10_weightOf : MethodName := ⟨RX10, "weightOf", "(III)I"⟩
abbrev cX10_hear : ByteArray := prog_12_method_14_code
def yX10_hear : MethodName := ⟨RX10, "hear", "(LThoughtBetterOf$Row;)I"⟩
abbrev cX10_shapeBehind : ByteArray := prog_12_method_15_code
def yX10_shapeBehind : MethodName := ⟨RX10, "shapeBehind", "(I)Ljava/lang/String;"⟩
abbrev cX10_firstWrong : ByteArray := prog_12_method_16_code
def yX10_firstWrong : MethodName := ⟨RX10, "firstWrong", "(LThoughtBetterOf$Row;)I"⟩
abbrev cX10_fitsShape : ByteArray := prog_12_method_17_code
def yX10_fitsShape : MethodName := ⟨RX10, "fitsShape", "(CI)Z"⟩
abbrev cX10_hearStatement : ByteArray := prog_12_method_18_code
def yX10_hearStatement : MethodName := ⟨RX10, "hearStatement", "(LThoughtBetterOf$Row;I)I"⟩
def RX11 : String := "ThoughtBetterOf"
def TX11 : u_T := fun k => match k with
  | 0 => ("ThoughtBetterOf", "town", "LThoughtBetterOf$Town;", true)
  | 1 => ("ThoughtBetterOf", "trial", "LThoughtBetterOf$Town;", true)
  | 2 => ("ThoughtBetterOf", "pictured", "LThoughtBetterOf$Town;", true)
  | 3 => ("ThoughtBetterOf", "hasImage", "Z", false)
  | 4 => ("ThoughtBetterOf", "day", "LThoughtBetterOf$Day;", true)
  | 5 => ("ThoughtBetterOf", "holds", "[I", true)
  | 6 => ("ThoughtBetterOf", "kept", "[LThoughtBetterOf$Plain;", true)
  | 7 => ("ThoughtBetterOf", "rows", "[LThoughtBetterOf$Row;", true)
  | 8 => ("ThoughtBetterOf", "begun", "[[I", true)
  | 9 => ("ThoughtBetterOf", "coinsOfFirst", "[[I", true)
  | _ => ("ThoughtBetterOf", "coinsOfOther", "[[I", true)
def tyX11 : Nat → FieldType := fun k => match k with
  | 0 => .object "ThoughtBetterOf$Town"
  | 1 => .object "ThoughtBetterOf$Town"
  | 2 => .object "ThoughtBetterOf$Town"
  | 3 => .boolean
  | 4 => .object "ThoughtBetterOf$Day"
  | 5 => .array .int
  | 6 => .array (.object "ThoughtBetterOf$Plain")
  | 7 => .array (.object "ThoughtBetterOf$Row")
  | 8 => .array (.array .int)
  | 9 => .array (.array .int)
  | _ => .array (.array .int)
abbrev wsX110 : List Cond := u_ws RX11 TX11 11
theorem nmX11 : ∀ a, a < 11 → ∀ b, b < 11 → a ≠ b → (TX11 a).2.1 ≠ (TX11 b).2.1 := by decide +kernel
theorem tyX11_ok : ∀ k, k < 11 → parseFieldDescriptor (TX11 k).2.2.1 = some (tyX11 k) := by decide +kernel
abbrev cX11_init : ByteArray := prog_1_method_1_code
def yX11_init : MethodName := ⟨RX11, "<init>", "()V"⟩
abbrev cX11_town : ByteArray := prog_1_method_2_code
def yX11_town : MethodName := ⟨RX11, "town", "(I)I"⟩
abbrev cX11_person : ByteArray := prog_1_method_3_code
def yX11_person : MethodName := ⟨RX11, "person", "(II)I"⟩
abbrev cX11_strength : ByteArray := prog_1_method_5_code
def yX11_strength : MethodName := ⟨RX11, "strength", "(II)I"⟩
abbrev cX11_comes : ByteArray := prog_1_method_7_code
def yX11_comes : MethodName := ⟨RX11, "comes", "(IIIII)I"⟩
abbrev cX11_fact : ByteArray := prog_1_method_11_code
def yX11_fact : MethodName := ⟨RX11, "fact", "(III)I"⟩
abbrev cX11_chance : ByteArray := prog_1_method_13_code
def yX11_chance : MethodName := ⟨RX11, "chance", "(II)I"⟩
abbrev cX11_kin : ByteArray := prog_1_method_14_code
def yX11_kin : MethodName := ⟨RX11, "kin", "(II)I"⟩
abbrev cX11_set : ByteArray := prog_1_method_15_code
def yX11_set : MethodName := ⟨RX11, "set", "(II)I"⟩
abbrev cX11_fate : ByteArray := prog_1_method_16_code
def yX11_fate : MethodName := ⟨RX11, "fate", "(II)I"⟩
abbrev cX11_sum : ByteArray := prog_1_method_17_code
def yX11_sum : MethodName := ⟨RX11, "sum", "(I)I"⟩
abbrev cX11_sums : ByteArray := prog_1_method_18_code
def yX11_sums : MethodName := ⟨RX11, "sums", "(I)I"⟩
abbrev cX11_chain : ByteArray := prog_1_method_20_code
def yX11_chain : MethodName := ⟨RX11, "chain", "(I)I"⟩
abbrev cX11_longest : ByteArray := prog_1_method_21_code
def yX11_longest : MethodName := ⟨RX11, "longest", "()I"⟩
abbrev cX11_yes : ByteArray := prog_1_method_23_code
def yX11_yes : MethodName := ⟨RX11, "yes", "(I)I"⟩
abbrev cX11_moods : ByteArray := prog_1_method_24_code
def yX11_moods : MethodName := ⟨RX11, "moods", "(II)I"⟩
abbrev cX11_likely : ByteArray := prog_1_method_25_code
def yX11_likely : MethodName := ⟨RX11, "likely", "(II)J"⟩
abbrev cX11_mean : ByteArray := prog_1_method_26_code
def yX11_mean : MethodName := ⟨RX11, "mean", "(I)J"⟩
abbrev cX11_turn : ByteArray := prog_1_method_27_code
def yX11_turn : MethodName := ⟨RX11, "turn", "(II)I"⟩
abbrev cX11_guard : ByteArray := prog_1_method_28_code
def yX11_guard : MethodName := ⟨RX11, "guard", "(I)I"⟩
abbrev cX11_law : ByteArray := prog_1_method_29_code
def yX11_law : MethodName := ⟨RX11, "law", "(I)I"⟩
abbrev cX11_purse : ByteArray := prog_1_method_32_code
def yX11_purse : MethodName := ⟨RX11, "purse", "(I)I"⟩
abbrev cX11_again : ByteArray := prog_1_method_35_code
def yX11_again : MethodName := ⟨RX11, "again", "(I)I"⟩
abbrev cX11_count : ByteArray := prog_1_method_42_code
def yX11_count : MethodName := ⟨RX11, "count", "(I)I"⟩
abbrev cX11_keep : ByteArray := prog_1_method_43_code
def yX11_keep : MethodName := ⟨RX11, "keep", "(IIII)I"⟩
abbrev cX11_row : ByteArray := prog_1_method_44_code
def yX11_row : MethodName := ⟨RX11, "row", "(III)I"⟩
abbrev cX11_put : ByteArray := prog_1_method_45_code
def yX11_put : MethodName := ⟨RX11, "put", "(III)I"⟩
abbrev cX11_isOut : ByteArray := prog_1_method_50_code
def yX11_isOut : MethodName := ⟨RX11, "isOut", "(III)Z"⟩
abbrev cX11_sideOf : ByteArray := prog_1_method_51_code
def yX11_sideOf : MethodName := ⟨RX11, "sideOf", "(I)I"⟩
abbrev cX11_isNobody : ByteArray := prog_1_method_52_code
def yX11_isNobody : MethodName := ⟨RX11, "isNobody", "(I)Z"⟩
abbrev cX11_isNoFact : ByteArray := prog_1_method_53_code
def yX11_isNoFact : MethodName := ⟨RX11, "isNoFact", "(I)Z"⟩
abbrev cX11_isNoShelf : ByteArray := prog_1_method_54_code
def yX11_isNoShelf : MethodName := ⟨RX11, "isNoShelf", "(I)Z"⟩
abbrev cX11_everybody : ByteArray := prog_1_method_55_code
def yX11_everybody : MethodName := ⟨RX11, "everybody", "()I"⟩
abbrev cX11_shelfRefusal : ByteArray := prog_1_method_56_code
def yX11_shelfRefusal : MethodName := ⟨RX11, "shelfRefusal", "(II)I"⟩
abbrev cX11_whoDiffers : ByteArray := prog_1_method_58_code
def yX11_whoDiffers : MethodName := ⟨RX11, "whoDiffers", "(II)I"⟩
abbrev cX11_expectedYes : ByteArray := prog_1_method_59_code
def yX11_expectedYes : MethodName := ⟨RX11, "expectedYes", "(II)J"⟩
abbrev cX11_oddsOf : ByteArray := prog_1_method_60_code
def yX11_oddsOf : MethodName := ⟨RX11, "oddsOf", "(I)J"⟩
abbrev cX11_commonDivisor : ByteArray := prog_1_method_61_code
def yX11_commonDivisor : MethodName := ⟨RX11, "commonDivisor", "(JJ)J"⟩
abbrev cX11_dayBegunAlike : ByteArray := prog_1_method_63_code
def yX11_dayBegunAlike : MethodName := ⟨RX11, "dayBegunAlike", "(I)I"⟩
abbrev cX11_oneOfKind : ByteArray := prog_1_method_65_code
def yX11_oneOfKind : MethodName := ⟨RX11, "oneOfKind", "(II)LThoughtBetterOf$Plain;"⟩
def RX12 : String := "ThoughtBetterOfModel"
def TX12 : u_T := fun k => match k with
  | _ => ("", "", "", false)
def tyX12 : Nat → FieldType := fun k => match k with
  | _ => .int
abbrev wsX120 : List Cond := u_ws RX12 TX12 0
theorem nmX12 : ∀ a, a < 0 → ∀ b, b < 0 → a ≠ b → (TX12 a).2.1 ≠ (TX12 b).2.1 := by decide +kernel
theorem tyX12_ok : ∀ k, k < 0 → parseFieldDescriptor (TX12 k).2.2.1 = some (tyX12 k) := by decide +kernel
def RJxe99ae : String := "java/lang/Double"
def TJxe99ae : u_T := fun k => match k with
  | _ => ("", "", "", false)
def tyJxe99ae : Nat → FieldType := fun k => match k with
  | _ => .int
abbrev wsJxe99ae0 : List Cond := u_ws RJxe99ae TJxe99ae 0
theorem nmJxe99ae : ∀ a, a < 0 → ∀ b, b < 0 → a ≠ b → (TJxe99ae a).2.1 ≠ (TJxe99ae b).2.1 := by decide +kernel
theorem tyJxe99ae_ok : ∀ k, k < 0 → parseFieldDescriptor (TJxe99ae k).2.2.1 = some (tyJxe99ae k) := by decide +kernel
def RJ6 : String := "java/lang/Integer"
def TJ6 : u_T := fun k => match k with
  | _ => ("", "", "", false)
def tyJ6 : Nat → FieldType := fun k => match k with
  | _ => .int
abbrev wsJ60 : List Cond := u_ws RJ6 TJ6 0
theorem nmJ6 : ∀ a, a < 0 → ∀ b, b < 0 → a ≠ b → (TJ6 a).2.1 ≠ (TJ6 b).2.1 := by decide +kernel
theorem tyJ6_ok : ∀ k, k < 0 → parseFieldDescriptor (TJ6 k).2.2.1 = some (tyJ6 k) := by decide +kernel
abbrev cJ6_compare_7cf53 : ByteArray := prog_16_method_40_code
def yJ6_compare_7cf53 : MethodName := ⟨RJ6, "compare", "(II)I"⟩
abbrev cJ6_bitCount_0f7a4 : ByteArray := prog_16_method_49_code
def yJ6_bitCount_0f7a4 : MethodName := ⟨RJ6, "bitCount", "(I)I"⟩
def RJ9 : String := "java/lang/Math"
def TJ9 : u_T := fun k => match k with
  | _ => ("", "", "", false)
def tyJ9 : Nat → FieldType := fun k => match k with
  | _ => .int
abbrev wsJ90 : List Cond := u_ws RJ9 TJ9 0
theorem nmJ9 : ∀ a, a < 0 → ∀ b, b < 0 → a ≠ b → (TJ9 a).2.1 ≠ (TJ9 b).2.1 := by decide +kernel
theorem tyJ9_ok : ∀ k, k < 0 → parseFieldDescriptor (TJ9 k).2.2.1 = some (tyJ9 k) := by decide +kernel
abbrev cJ9_abs_294c1 : ByteArray := prog_17_method_64_code
def yJ9_abs_294c1 : MethodName := ⟨RJ9, "abs", "(D)D"⟩
abbrev cJ9_max_7cf53 : ByteArray := prog_17_method_65_code
def yJ9_max_7cf53 : MethodName := ⟨RJ9, "max", "(II)I"⟩
abbrev cJ9_min_7cf53 : ByteArray := prog_17_method_69_code
def yJ9_min_7cf53 : MethodName := ⟨RJ9, "min", "(II)I"⟩
def RJ0 : String := "java/lang/String"
def TJ0 : u_T := fun k => match k with
  | _ => ("", "", "", false)
def tyJ0 : Nat → FieldType := fun k => match k with
  | _ => .int
abbrev wsJ00 : List Cond := u_ws RJ0 TJ0 0
theorem nmJ0 : ∀ a, a < 0 → ∀ b, b < 0 → a ≠ b → (TJ0 a).2.1 ≠ (TJ0 b).2.1 := by decide +kernel
theorem tyJ0_ok : ∀ k, k < 0 → parseFieldDescriptor (TJ0 k).2.2.1 = some (tyJ0 k) := by decide +kernel
abbrev cJ0_length_8abf5 : ByteArray := prog_18_method_54_code
def yJ0_length_8abf5 : MethodName := ⟨RJ0, "length", "()I"⟩
abbrev cJ0_isEmpty_aae02 : ByteArray := prog_18_method_55_code
def yJ0_isEmpty_aae02 : MethodName := ⟨RJ0, "isEmpty", "()Z"⟩
abbrev cJ0_charAt_5068e : ByteArray := prog_18_method_56_code
def yJ0_charAt_5068e : MethodName := ⟨RJ0, "charAt", "(I)C"⟩
abbrev cJ0_coder_7d493 : ByteArray := prog_18_method_152_code
def yJ0_coder_7d493 : MethodName := ⟨RJ0, "coder", "()B"⟩
abbrev cJ0_isLatin1_aae02 : ByteArray := prog_18_method_154_code
def yJ0_isLatin1_aae02 : MethodName := ⟨RJ0, "isLatin1", "()Z"⟩
abbrev cJ0_checkIndex_df160 : ByteArray := prog_18_method_155_code
def yJ0_checkIndex_df160 : MethodName := ⟨RJ0, "checkIndex", "(II)V"⟩
def RJ1 : String := "java/lang/StringLatin1"
def TJ1 : u_T := fun k => match k with
  | _ => ("", "", "", false)
def tyJ1 : Nat → FieldType := fun k => match k with
  | _ => .int
abbrev wsJ10 : List Cond := u_ws RJ1 TJ1 0
theorem nmJ1 : ∀ a, a < 0 → ∀ b, b < 0 → a ≠ b → (TJ1 a).2.1 ≠ (TJ1 b).2.1 := by decide +kernel
theorem tyJ1_ok : ∀ k, k < 0 → parseFieldDescriptor (TJ1 k).2.2.1 = some (tyJ1 k) := by decide +kernel
abbrev cJ1_charAt_3b067 : ByteArray := prog_19_method_2_code
def yJ1_charAt_3b067 : MethodName := ⟨RJ1, "charAt", "([BI)C"⟩
def RJ2 : String := "java/lang/StringUTF16"
def TJ2 : u_T := fun k => match k with
  | _ => ("", "", "", false)
def tyJ2 : Nat → FieldType := fun k => match k with
  | _ => .int
abbrev wsJ20 : List Cond := u_ws RJ2 TJ2 0
theorem nmJ2 : ∀ a, a < 0 → ∀ b, b < 0 → a ≠ b → (TJ2 a).2.1 ≠ (TJ2 b).2.1 := by decide +kernel
theorem tyJ2_ok : ∀ k, k < 0 → parseFieldDescriptor (TJ2 k).2.2.1 = some (tyJ2 k) := by decide +kernel
abbrev cJ2_getChar_3b067 : ByteArray := prog_20_method_5_code
def yJ2_getChar_3b067 : MethodName := ⟨RJ2, "getChar", "([BI)C"⟩
abbrev cJ2_length_9d52b : ByteArray := prog_20_method_6_code
def yJ2_length_9d52b : MethodName := ⟨RJ2, "length", "([B)I"⟩
abbrev cJ2_charAt_3b067 : ByteArray := prog_20_method_83_code
def yJ2_charAt_3b067 : MethodName := ⟨RJ2, "charAt", "([BI)C"⟩
abbrev cJ2_checkIndex_2214a : ByteArray := prog_20_method_91_code
def yJ2_checkIndex_2214a : MethodName := ⟨RJ2, "checkIndex", "(I[B)V"⟩
def RJ10 : String := "java/lang/System"
def TJ10 : u_T := fun k => match k with
  | _ => ("", "", "", false)
def tyJ10 : Nat → FieldType := fun k => match k with
  | _ => .int
abbrev wsJ100 : List Cond := u_ws RJ10 TJ10 0
theorem nmJ10 : ∀ a, a < 0 → ∀ b, b < 0 → a ≠ b → (TJ10 a).2.1 ≠ (TJ10 b).2.1 := by decide +kernel
theorem tyJ10_ok : ∀ k, k < 0 → parseFieldDescriptor (TJ10 k).2.2.1 = some (tyJ10 k) := by decide +kernel
def RJ3 : String := "jdk/internal/util/Preconditions"
def TJ3 : u_T := fun k => match k with
  | _ => ("", "", "", false)
def tyJ3 : Nat → FieldType := fun k => match k with
  | _ => .int
abbrev wsJ30 : List Cond := u_ws RJ3 TJ3 0
theorem nmJ3 : ∀ a, a < 0 → ∀ b, b < 0 → a ≠ b → (TJ3 a).2.1 ≠ (TJ3 b).2.1 := by decide +kernel
theorem tyJ3_ok : ∀ k, k < 0 → parseFieldDescriptor (TJ3 k).2.2.1 = some (tyJ3 k) := by decide +kernel
abbrev cJ3_checkIndex_8e157 : ByteArray := prog_22_method_11_code
def yJ3_checkIndex_8e157 : MethodName := ⟨RJ3, "checkIndex", "(IILjava/util/function/BiFunction;)I"⟩
def RL : String := "ThoughtBetterOfLaw"
def TL : u_T := fun k => match k with
  | 0 => ("ThoughtBetterOfLaw", "o", "LThoughtBetterOf;", true)
  | 1 => ("ThoughtBetterOfLaw", "people", "I", false)
  | 2 => ("ThoughtBetterOfLaw", "one", "[[I", false)
  | 3 => ("ThoughtBetterOfLaw", "facts", "I", false)
  | 4 => ("ThoughtBetterOfLaw", "fact", "[[I", true)
  | 5 => ("ThoughtBetterOfLaw", "plants", "I", false)
  | 6 => ("ThoughtBetterOfLaw", "plant", "[[I", true)
  | 7 => ("ThoughtBetterOfLaw", "kin", "[[Z", true)
  | 8 => ("ThoughtBetterOfLaw", "open", "I", false)
  | 9 => ("ThoughtBetterOfLaw", "fade", "I", false)
  | 10 => ("ThoughtBetterOfLaw", "rate", "I", false)
  | 11 => ("ThoughtBetterOfLaw", "known", "I", false)
  | 12 => ("ThoughtBetterOfLaw", "shut", "Z", false)
  | 13 => ("ThoughtBetterOfLaw", "choice", "[I", false)
  | 14 => ("ThoughtBetterOfLaw", "first", "[I", false)
  | 15 => ("ThoughtBetterOfLaw", "from", "[I", false)
  | 16 => ("ThoughtBetterOfLaw", "paid", "[I", false)
  | 17 => ("ThoughtBetterOfLaw", "purse", "[I", false)
  | 18 => ("ThoughtBetterOfLaw", "hour", "[I", false)
  | 19 => ("ThoughtBetterOfLaw", "strong", "[I", false)
  | 20 => ("ThoughtBetterOfLaw", "side", "[I", false)
  | 21 => ("ThoughtBetterOfLaw", "to", "[I", false)
  | 22 => ("ThoughtBetterOfLaw", "when", "[I", false)
  | _ => ("ThoughtBetterOfLaw", "purses", "[[I", true)
def tyL : Nat → FieldType := fun k => match k with
  | 0 => .object "ThoughtBetterOf"
  | 1 => .int
  | 2 => .array (.array .int)
  | 3 => .int
  | 4 => .array (.array .int)
  | 5 => .int
  | 6 => .array (.array .int)
  | 7 => .array (.array .boolean)
  | 8 => .int
  | 9 => .int
  | 10 => .int
  | 11 => .int
  | 12 => .boolean
  | 13 => .array .int
  | 14 => .array .int
  | 15 => .array .int
  | 16 => .array .int
  | 17 => .array .int
  | 18 => .array .int
  | 19 => .array .int
  | 20 => .array .int
  | 21 => .array .int
  | 22 => .array .int
  | _ => .array (.array .int)
abbrev wsL0 : List Cond := u_ws RL TL 24
theorem nmL : ∀ a, a < 24 → ∀ b, b < 24 → a ≠ b → (TL a).2.1 ≠ (TL b).2.1 := by decide +kernel
theorem tyL_ok : ∀ k, k < 24 → parseFieldDescriptor (TL k).2.2.1 = some (tyL k) := by decide +kernel
abbrev cL_init : ByteArray := method_1_code
def yL_init : MethodName := ⟨RL, "<init>", "()V"⟩
abbrev cL_cell : ByteArray := method_2_code
def yL_cell : MethodName := ⟨RL, "cell", "([II)I"⟩
abbrev cL_some : ByteArray := method_3_code
def yL_some : MethodName := ⟨RL, "some", "([III)I"⟩
abbrev cL_tell : ByteArray := method_4_code
def yL_tell : MethodName := ⟨RL, "tell", "([II)I"⟩
abbrev cL_told : ByteArray := method_14_code
def yL_told : MethodName := ⟨RL, "told", "(I)I"⟩
abbrev cL_begin : ByteArray := method_19_code
def yL_begin : MethodName := ⟨RL, "begin", "([II)Z"⟩
abbrev cL_law : ByteArray := code
def yL_law : MethodName := ⟨RL, "law", "([I)Z"⟩
abbrev cL_holds : ByteArray := method_23_code
def yL_holds : MethodName := ⟨RL, "holds", "([I)Z"⟩
abbrev vwCl : List vw_C := [(RX0, TX0, 2), (RX1, TX1, 2), (RX2, TX2, 12), (RX3, TX3, 2), (RX4, TX4, 2), (RX5, TX5, 2), (RX6, TX6, 2), (RX7, TX7, 2), (RX8, TX8, 3), (RX9, TX9, 2), (RX10, TX10, 19), (RX11, TX11, 11), (RL, TL, 24)]
theorem inGL : ∀ w ∈ wsL0, w ∈ tG := by decide +kernel
theorem inG0 : ∀ w ∈ wsX00, w ∈ tG := by decide +kernel
theorem inG1 : ∀ w ∈ wsX10, w ∈ tG := by decide +kernel
theorem inG2 : ∀ w ∈ wsX20, w ∈ tG := by decide +kernel
theorem inG3 : ∀ w ∈ wsX30, w ∈ tG := by decide +kernel
theorem inG4 : ∀ w ∈ wsX40, w ∈ tG := by decide +kernel
theorem inG5 : ∀ w ∈ wsX50, w ∈ tG := by decide +kernel
theorem inG6 : ∀ w ∈ wsX60, w ∈ tG := by decide +kernel
theorem inG7 : ∀ w ∈ wsX70, w ∈ tG := by decide +kernel
theorem inG8 : ∀ w ∈ wsX80, w ∈ tG := by decide +kernel
theorem inG9 : ∀ w ∈ wsX90, w ∈ tG := by decide +kernel
theorem inG10 : ∀ w ∈ wsX100, w ∈ tG := by decide +kernel
theorem inG11 : ∀ w ∈ wsX110, w ∈ tG := by decide +kernel
