/-! ===== BEGIN printed: names, fields, word lists, decode rows ===== -/
def RX0 : String := "ChoirStalls$1"
def TX0 : u_T := fun k => match k with
  | _ => ("", "", "", false)
def tyX0 : Nat → FieldType := fun k => match k with
  | _ => .int
theorem nmX0 : ∀ a, a < 0 → ∀ b, b < 0 → a ≠ b → (TX0 a).2.1 ≠ (TX0 b).2.1 := by decide +kernel
theorem tyX0_ok : ∀ k, k < 0 → parseFieldDescriptor (TX0 k).2.2.1 = some (tyX0 k) := by decide +kernel
def RX1 : String := "ChoirStalls$Choir"
def TX1 : u_T := fun k => match k with
  | 0 => ("ChoirStalls$Choir", "told", "LChoirStalls$Told;", false)
  | 1 => ("ChoirStalls$Choir", "day", "I", false)
  | 2 => ("ChoirStalls$Choir", "damp", "I", false)
  | 3 => ("ChoirStalls$Choir", "coins", "I", false)
  | 4 => ("ChoirStalls$Choir", "carved", "I", false)
  | 5 => ("ChoirStalls$Choir", "absent", "I", false)
  | 6 => ("ChoirStalls$Choir", "bears", "LChoirStalls$Row;", true)
  | 7 => ("ChoirStalls$Choir", "quality", "LChoirStalls$Row;", true)
  | 8 => ("ChoirStalls$Choir", "worms", "LChoirStalls$Row;", true)
  | 9 => ("ChoirStalls$Choir", "wormsBefore", "LChoirStalls$Row;", true)
  | 10 => ("ChoirStalls$Choir", "rust", "LChoirStalls$Row;", true)
  | 11 => ("ChoirStalls$Choir", "work", "LChoirStalls$Row;", true)
  | 12 => ("ChoirStalls$Choir", "carvedBy", "LChoirStalls$Row;", true)
  | _ => ("ChoirStalls$Choir", "reckoner", "LChoirStalls$Reckoner;", true)
def tyX1 : Nat → FieldType := fun k => match k with
  | 0 => .object "ChoirStalls$Told"
  | 1 => .int
  | 2 => .int
  | 3 => .int
  | 4 => .int
  | 5 => .int
  | 6 => .object "ChoirStalls$Row"
  | 7 => .object "ChoirStalls$Row"
  | 8 => .object "ChoirStalls$Row"
  | 9 => .object "ChoirStalls$Row"
  | 10 => .object "ChoirStalls$Row"
  | 11 => .object "ChoirStalls$Row"
  | 12 => .object "ChoirStalls$Row"
  | _ => .object "ChoirStalls$Reckoner"
theorem nmX1 : ∀ a, a < 14 → ∀ b, b < 14 → a ≠ b → (TX1 a).2.1 ≠ (TX1 b).2.1 := by decide +kernel
theorem tyX1_ok : ∀ k, k < 14 → parseFieldDescriptor (TX1 k).2.2.1 = some (tyX1 k) := by decide +kernel
abbrev cX1_init : ByteArray := prog_3_method_1_code
def yX1_init : MethodName := ⟨RX1, "<init>", "(LChoirStalls$Told;)V"⟩
abbrev cX1_begin : ByteArray := prog_3_method_2_code
def yX1_begin : MethodName := ⟨RX1, "begin", "(LChoirStalls$Told;)V"⟩
abbrev cX1_become : ByteArray := prog_3_method_3_code
def yX1_become : MethodName := ⟨RX1, "become", "(LChoirStalls$Choir;)V"⟩
abbrev cX1_squeaks : ByteArray := prog_3_method_4_code
def yX1_squeaks : MethodName := ⟨RX1, "squeaks", "(I)Z"⟩
abbrev cX1_isOpen : ByteArray := prog_3_method_5_code
def yX1_isOpen : MethodName := ⟨RX1, "isOpen", "(I)Z"⟩
abbrev cX1_isDue : ByteArray := prog_3_method_6_code
def yX1_isDue : MethodName := ⟨RX1, "isDue", "(I)Z"⟩
abbrev cX1_orderToday : ByteArray := prog_3_method_7_code
def yX1_orderToday : MethodName := ⟨RX1, "orderToday", "(I)I"⟩
abbrev cX1_bishopOfDay : ByteArray := prog_3_method_8_code
def yX1_bishopOfDay : MethodName := ⟨RX1, "bishopOfDay", "()I"⟩
abbrev cX1_delightOf : ByteArray := prog_3_method_9_code
def yX1_delightOf : MethodName := ⟨RX1, "delightOf", "(II)I"⟩
abbrev cX1_squeakingCost : ByteArray := prog_3_method_10_code
def yX1_squeakingCost : MethodName := ⟨RX1, "squeakingCost", "(I)I"⟩
abbrev cX1_pleasureOf : ByteArray := prog_3_method_11_code
def yX1_pleasureOf : MethodName := ⟨RX1, "pleasureOf", "(I)I"⟩
abbrev cX1_worstFor : ByteArray := prog_3_method_12_code
def yX1_worstFor : MethodName := ⟨RX1, "worstFor", "(I)I"⟩
abbrev cX1_bearingStalls : ByteArray := prog_3_method_13_code
def yX1_bearingStalls : MethodName := ⟨RX1, "bearingStalls", "()I"⟩
abbrev cX1_stallsThatBear : ByteArray := prog_3_method_14_code
def yX1_stallsThatBear : MethodName := ⟨RX1, "stallsThatBear", "(I)I"⟩
abbrev cX1_squeakingStalls : ByteArray := prog_3_method_15_code
def yX1_squeakingStalls : MethodName := ⟨RX1, "squeakingStalls", "()I"⟩
abbrev cX1_allWorms : ByteArray := prog_3_method_16_code
def yX1_allWorms : MethodName := ⟨RX1, "allWorms", "()I"⟩
abbrev cX1_allQuality : ByteArray := prog_3_method_17_code
def yX1_allQuality : MethodName := ⟨RX1, "allQuality", "()I"⟩
abbrev cX1_openOrders : ByteArray := prog_3_method_18_code
def yX1_openOrders : MethodName := ⟨RX1, "openOrders", "()I"⟩
abbrev cX1_live : ByteArray := prog_3_method_19_code
def yX1_live : MethodName := ⟨RX1, "live", "(I)V"⟩
abbrev cX1_letCarversWork : ByteArray := prog_3_method_20_code
def yX1_letCarversWork : MethodName := ⟨RX1, "letCarversWork", "()V"⟩
abbrev cX1_workOn : ByteArray := prog_3_method_21_code
def yX1_workOn : MethodName := ⟨RX1, "workOn", "(II)V"⟩
abbrev cX1_finish : ByteArray := prog_3_method_22_code
def yX1_finish : MethodName := ⟨RX1, "finish", "(III)V"⟩
abbrev cX1_oilHinges : ByteArray := prog_3_method_23_code
def yX1_oilHinges : MethodName := ⟨RX1, "oilHinges", "()V"⟩
abbrev cX1_rustHinges : ByteArray := prog_3_method_24_code
def yX1_rustHinges : MethodName := ⟨RX1, "rustHinges", "()V"⟩
abbrev cX1_breedWorms : ByteArray := prog_3_method_25_code
def yX1_breedWorms : MethodName := ⟨RX1, "breedWorms", "()V"⟩
abbrev cX1_hasWormyNeighbour : ByteArray := prog_3_method_26_code
def yX1_hasWormyNeighbour : MethodName := ⟨RX1, "hasWormyNeighbour", "(I)Z"⟩
abbrev cX1_receiveCoins : ByteArray := prog_3_method_27_code
def yX1_receiveCoins : MethodName := ⟨RX1, "receiveCoins", "()V"⟩
def RX2 : String := "ChoirStalls$ListReader"
def TX2 : u_T := fun k => match k with
  | 0 => ("ChoirStalls$ListReader", "tokens", "LChoirStalls$Tokens;", true)
  | 1 => ("ChoirStalls$ListReader", "draft", "LChoirStalls$Told;", false)
  | 2 => ("ChoirStalls$ListReader", "found", "I", false)
  | 3 => ("ChoirStalls$ListReader", "error", "I", false)
  | 4 => ("ChoirStalls$ListReader", "errorToken", "I", false)
  | _ => ("ChoirStalls$ListReader", "errorPlace", "I", false)
def tyX2 : Nat → FieldType := fun k => match k with
  | 0 => .object "ChoirStalls$Tokens"
  | 1 => .object "ChoirStalls$Told"
  | 2 => .int
  | 3 => .int
  | 4 => .int
  | _ => .int
theorem nmX2 : ∀ a, a < 6 → ∀ b, b < 6 → a ≠ b → (TX2 a).2.1 ≠ (TX2 b).2.1 := by decide +kernel
theorem tyX2_ok : ∀ k, k < 6 → parseFieldDescriptor (TX2 k).2.2.1 = some (tyX2 k) := by decide +kernel
abbrev cX2_init : ByteArray := prog_4_method_1_code
def yX2_init : MethodName := ⟨RX2, "<init>", "(LChoirStalls$Tokens;LChoirStalls$Told;)V"⟩
abbrev cX2_read : ByteArray := prog_4_method_2_code
def yX2_read : MethodName := ⟨RX2, "read", "(ILChoirStalls$Told;)I"⟩
abbrev cX2_note : ByteArray := prog_4_method_3_code
def yX2_note : MethodName := ⟨RX2, "note", "(I)V"⟩
abbrev cX2_skip : ByteArray := prog_4_method_4_code
def yX2_skip : MethodName := ⟨RX2, "skip", "(LChoirStalls$Sign;)Z"⟩
abbrev cX2_line : ByteArray := prog_4_method_5_code
def yX2_line : MethodName := ⟨RX2, "line", "()Z"⟩
abbrev cX2_newName : ByteArray := prog_4_method_6_code
def yX2_newName : MethodName := ⟨RX2, "newName", "(LChoirStalls$Names;)Z"⟩
abbrev cX2_number : ByteArray := prog_4_method_7_code
def yX2_number : MethodName := ⟨RX2, "number", "(LChoirStalls$Sign;IILChoirStalls$Row;LChoirStalls$Names;)Z"⟩
abbrev cX2_knownName : ByteArray := prog_4_method_8_code
def yX2_knownName : MethodName := ⟨RX2, "knownName", "(LChoirStalls$Names;)Z"⟩
abbrev cX2_liking : ByteArray := prog_4_method_9_code
def yX2_liking : MethodName := ⟨RX2, "liking", "()Z"⟩
abbrev cX2_newOrder : ByteArray := prog_4_method_10_code
def yX2_newOrder : MethodName := ⟨RX2, "newOrder", "()V"⟩
abbrev cX2_carving : ByteArray := prog_4_method_11_code
def yX2_carving : MethodName := ⟨RX2, "carving", "()Z"⟩
abbrev cX2_oiling : ByteArray := prog_4_method_12_code
def yX2_oiling : MethodName := ⟨RX2, "oiling", "()Z"⟩
abbrev cX2_condition : ByteArray := prog_4_method_13_code
def yX2_condition : MethodName := ⟨RX2, "condition", "()Z"⟩
abbrev cX2_test : ByteArray := prog_4_method_14_code
def yX2_test : MethodName := ⟨RX2, "test", "(I)Z"⟩
abbrev cX2_both : ByteArray := prog_4_method_15_code
def yX2_both : MethodName := ⟨RX2, "both", "(I)Z"⟩
abbrev cX2_single : ByteArray := prog_4_method_16_code
def yX2_single : MethodName := ⟨RX2, "single", "(I)Z"⟩
abbrev cX2_goDeeper : ByteArray := prog_4_method_17_code
def yX2_goDeeper : MethodName := ⟨RX2, "goDeeper", "(I)Z"⟩
abbrev cX2_bearing : ByteArray := prog_4_method_18_code
def yX2_bearing : MethodName := ⟨RX2, "bearing", "()Z"⟩
abbrev cX2_ofStall : ByteArray := prog_4_method_19_code
def yX2_ofStall : MethodName := ⟨RX2, "ofStall", "(LChoirStalls$Sign;)Z"⟩
abbrev cX2_sum : ByteArray := prog_4_method_20_code
def yX2_sum : MethodName := ⟨RX2, "sum", "(I)Z"⟩
abbrev cX2_product : ByteArray := prog_4_method_21_code
def yX2_product : MethodName := ⟨RX2, "product", "(I)Z"⟩
abbrev cX2_value : ByteArray := prog_4_method_22_code
def yX2_value : MethodName := ⟨RX2, "value", "(I)Z"⟩
abbrev cX2_choice : ByteArray := prog_4_method_23_code
def yX2_choice : MethodName := ⟨RX2, "choice", "(LChoirStalls$Sign;I)Z"⟩
def RX3 : String := "ChoirStalls$Names"
def TX3 : u_T := fun k => match k with
  | 0 => ("ChoirStalls$Names", "codes", "[J", true)
  | _ => ("ChoirStalls$Names", "count", "I", false)
def tyX3 : Nat → FieldType := fun k => match k with
  | 0 => .array .long
  | _ => .int
theorem nmX3 : ∀ a, a < 2 → ∀ b, b < 2 → a ≠ b → (TX3 a).2.1 ≠ (TX3 b).2.1 := by decide +kernel
theorem tyX3_ok : ∀ k, k < 2 → parseFieldDescriptor (TX3 k).2.2.1 = some (tyX3 k) := by decide +kernel
abbrev cX3_init : ByteArray := prog_5_method_1_code
def yX3_init : MethodName := ⟨RX3, "<init>", "(I)V"⟩
abbrev cX3_find : ByteArray := prog_5_method_2_code
def yX3_find : MethodName := ⟨RX3, "find", "(J)I"⟩
abbrev cX3_add : ByteArray := prog_5_method_3_code
def yX3_add : MethodName := ⟨RX3, "add", "(J)Z"⟩
def RX4 : String := "ChoirStalls$Reckoner"
def TX4 : u_T := fun k => match k with
  | 0 => ("ChoirStalls$Reckoner", "stack", "[I", true)
  | _ => ("ChoirStalls$Reckoner", "top", "I", false)
def tyX4 : Nat → FieldType := fun k => match k with
  | 0 => .array .int
  | _ => .int
theorem nmX4 : ∀ a, a < 2 → ∀ b, b < 2 → a ≠ b → (TX4 a).2.1 ≠ (TX4 b).2.1 := by decide +kernel
theorem tyX4_ok : ∀ k, k < 2 → parseFieldDescriptor (TX4 k).2.2.1 = some (tyX4 k) := by decide +kernel
abbrev cX4_init : ByteArray := prog_6_method_1_code
def yX4_init : MethodName := ⟨RX4, "<init>", "()V"⟩
abbrev cX4_holds : ByteArray := prog_6_method_2_code
def yX4_holds : MethodName := ⟨RX4, "holds", "(LChoirStalls$Choir;I)Z"⟩
abbrev cX4_push : ByteArray := prog_6_method_3_code
def yX4_push : MethodName := ⟨RX4, "push", "(I)V"⟩
abbrev cX4_pop : ByteArray := prog_6_method_4_code
def yX4_pop : MethodName := ⟨RX4, "pop", "()I"⟩
abbrev cX4_perform : ByteArray := prog_6_method_5_code
def yX4_perform : MethodName := ⟨RX4, "perform", "(LChoirStalls$Choir;LChoirStalls$Sign;II)V"⟩
abbrev cX4_joined : ByteArray := prog_6_method_6_code
def yX4_joined : MethodName := ⟨RX4, "joined", "(LChoirStalls$Sign;II)I"⟩
def RX5 : String := "ChoirStalls$Row"
def TX5 : u_T := fun k => match k with
  | _ => ("ChoirStalls$Row", "cells", "[I", true)
def tyX5 : Nat → FieldType := fun k => match k with
  | _ => .array .int
theorem nmX5 : ∀ a, a < 1 → ∀ b, b < 1 → a ≠ b → (TX5 a).2.1 ≠ (TX5 b).2.1 := by decide +kernel
theorem tyX5_ok : ∀ k, k < 1 → parseFieldDescriptor (TX5 k).2.2.1 = some (tyX5 k) := by decide +kernel
abbrev cX5_init : ByteArray := prog_7_method_1_code
def yX5_init : MethodName := ⟨RX5, "<init>", "(I)V"⟩
abbrev cX5_at : ByteArray := prog_7_method_2_code
def yX5_at : MethodName := ⟨RX5, "at", "(I)I"⟩
abbrev cX5_put : ByteArray := prog_7_method_3_code
def yX5_put : MethodName := ⟨RX5, "put", "(II)V"⟩
abbrev cX5_add : ByteArray := prog_7_method_4_code
def yX5_add : MethodName := ⟨RX5, "add", "(II)V"⟩
abbrev cX5_fill : ByteArray := prog_7_method_5_code
def yX5_fill : MethodName := ⟨RX5, "fill", "(I)V"⟩
abbrev cX5_become : ByteArray := prog_7_method_6_code
def yX5_become : MethodName := ⟨RX5, "become", "(LChoirStalls$Row;)V"⟩
def RX6 : String := "ChoirStalls$Sign"
def TX6 : u_T := fun k => match k with
  | _ => ("", "", "", false)
def tyX6 : Nat → FieldType := fun k => match k with
  | _ => .int
theorem nmX6 : ∀ a, a < 0 → ∀ b, b < 0 → a ≠ b → (TX6 a).2.1 ≠ (TX6 b).2.1 := by decide +kernel
theorem tyX6_ok : ∀ k, k < 0 → parseFieldDescriptor (TX6 k).2.2.1 = some (tyX6 k) := by decide +kernel
abbrev cX6_longer : ByteArray := prog_8_method_5_code
def yX6_longer : MethodName := ⟨RX6, "longer", "(JI)J"⟩
abbrev cX6_ofWord : ByteArray := prog_8_method_6_code
def yX6_ofWord : MethodName := ⟨RX6, "ofWord", "(J)LChoirStalls$Sign;"⟩
abbrev cX6_compares : ByteArray := prog_8_method_7_code
def yX6_compares : MethodName := ⟨RX6, "compares", "()Z"⟩
def RX7 : String := "ChoirStalls$Steps"
def TX7 : u_T := fun k => match k with
  | 0 => ("ChoirStalls$Steps", "kinds", "[LChoirStalls$Sign;", true)
  | 1 => ("ChoirStalls$Steps", "firsts", "LChoirStalls$Row;", true)
  | 2 => ("ChoirStalls$Steps", "seconds", "LChoirStalls$Row;", true)
  | _ => ("ChoirStalls$Steps", "count", "I", false)
def tyX7 : Nat → FieldType := fun k => match k with
  | 0 => .array (.object "ChoirStalls$Sign")
  | 1 => .object "ChoirStalls$Row"
  | 2 => .object "ChoirStalls$Row"
  | _ => .int
theorem nmX7 : ∀ a, a < 4 → ∀ b, b < 4 → a ≠ b → (TX7 a).2.1 ≠ (TX7 b).2.1 := by decide +kernel
theorem tyX7_ok : ∀ k, k < 4 → parseFieldDescriptor (TX7 k).2.2.1 = some (tyX7 k) := by decide +kernel
abbrev cX7_init : ByteArray := prog_9_method_1_code
def yX7_init : MethodName := ⟨RX7, "<init>", "()V"⟩
abbrev cX7_add : ByteArray := prog_9_method_2_code
def yX7_add : MethodName := ⟨RX7, "add", "(LChoirStalls$Sign;II)V"⟩
abbrev cX7_kindAt : ByteArray := prog_9_method_3_code
def yX7_kindAt : MethodName := ⟨RX7, "kindAt", "(I)LChoirStalls$Sign;"⟩
def RX8 : String := "ChoirStalls$Tokens"
def TX8 : u_T := fun k => match k with
  | 0 => ("ChoirStalls$Tokens", "tape", "LChoirStalls$Row;", true)
  | 1 => ("ChoirStalls$Tokens", "signs", "[LChoirStalls$Sign;", true)
  | 2 => ("ChoirStalls$Tokens", "values", "[J", true)
  | 3 => ("ChoirStalls$Tokens", "places", "LChoirStalls$Row;", true)
  | 4 => ("ChoirStalls$Tokens", "finger", "I", false)
  | 5 => ("ChoirStalls$Tokens", "length", "I", false)
  | 6 => ("ChoirStalls$Tokens", "place", "I", false)
  | _ => ("ChoirStalls$Tokens", "value", "J", false)
def tyX8 : Nat → FieldType := fun k => match k with
  | 0 => .object "ChoirStalls$Row"
  | 1 => .array (.object "ChoirStalls$Sign")
  | 2 => .array .long
  | 3 => .object "ChoirStalls$Row"
  | 4 => .int
  | 5 => .int
  | 6 => .int
  | _ => .long
theorem nmX8 : ∀ a, a < 8 → ∀ b, b < 8 → a ≠ b → (TX8 a).2.1 ≠ (TX8 b).2.1 := by decide +kernel
theorem tyX8_ok : ∀ k, k < 8 → parseFieldDescriptor (TX8 k).2.2.1 = some (tyX8 k) := by decide +kernel
abbrev cX8_init : ByteArray := prog_10_method_1_code
def yX8_init : MethodName := ⟨RX8, "<init>", "(LChoirStalls$Row;)V"⟩
abbrev cX8_sign : ByteArray := prog_10_method_2_code
def yX8_sign : MethodName := ⟨RX8, "sign", "()LChoirStalls$Sign;"⟩
abbrev cX8_value : ByteArray := prog_10_method_3_code
def yX8_value : MethodName := ⟨RX8, "value", "()J"⟩
abbrev cX8_placeOf : ByteArray := prog_10_method_4_code
def yX8_placeOf : MethodName := ⟨RX8, "placeOf", "(I)I"⟩
abbrev cX8_step : ByteArray := prog_10_method_5_code
def yX8_step : MethodName := ⟨RX8, "step", "()V"⟩
abbrev cX8_split : ByteArray := prog_10_method_6_code
def yX8_split : MethodName := ⟨RX8, "split", "(I)V"⟩
abbrev cX8_skipBlanks : ByteArray := prog_10_method_7_code
def yX8_skipBlanks : MethodName := ⟨RX8, "skipBlanks", "()V"⟩
abbrev cX8_nextSign : ByteArray := prog_10_method_8_code
def yX8_nextSign : MethodName := ⟨RX8, "nextSign", "()LChoirStalls$Sign;"⟩
abbrev cX8_nextWord : ByteArray := prog_10_method_9_code
def yX8_nextWord : MethodName := ⟨RX8, "nextWord", "()LChoirStalls$Sign;"⟩
abbrev cX8_nextNumber : ByteArray := prog_10_method_10_code
def yX8_nextNumber : MethodName := ⟨RX8, "nextNumber", "()LChoirStalls$Sign;"⟩
abbrev cX8_nextSymbol : ByteArray := prog_10_method_11_code
def yX8_nextSymbol : MethodName := ⟨RX8, "nextSymbol", "(I)LChoirStalls$Sign;"⟩
abbrev cX8_skipEqual : ByteArray := prog_10_method_12_code
def yX8_skipEqual : MethodName := ⟨RX8, "skipEqual", "()Z"⟩
abbrev cX8_isLetter : ByteArray := prog_10_method_13_code
def yX8_isLetter : MethodName := ⟨RX8, "isLetter", "(I)Z"⟩
abbrev cX8_isDigit : ByteArray := prog_10_method_14_code
def yX8_isDigit : MethodName := ⟨RX8, "isDigit", "(I)Z"⟩
def RX9 : String := "ChoirStalls$Told"
def TX9 : u_T := fun k => match k with
  | 0 => ("ChoirStalls$Told", "beasts", "LChoirStalls$Names;", true)
  | 1 => ("ChoirStalls$Told", "carvers", "LChoirStalls$Names;", true)
  | 2 => ("ChoirStalls$Told", "stalls", "LChoirStalls$Names;", true)
  | 3 => ("ChoirStalls$Told", "bishops", "LChoirStalls$Names;", true)
  | 4 => ("ChoirStalls$Told", "orders", "I", false)
  | 5 => ("ChoirStalls$Told", "grim", "LChoirStalls$Row;", true)
  | 6 => ("ChoirStalls$Told", "fine", "LChoirStalls$Row;", true)
  | 7 => ("ChoirStalls$Told", "skill", "LChoirStalls$Row;", true)
  | 8 => ("ChoirStalls$Told", "pace", "LChoirStalls$Row;", true)
  | 9 => ("ChoirStalls$Told", "likes", "LChoirStalls$Row;", true)
  | 10 => ("ChoirStalls$Told", "oak", "LChoirStalls$Row;", true)
  | 11 => ("ChoirStalls$Told", "bishopGrim", "LChoirStalls$Row;", true)
  | 12 => ("ChoirStalls$Told", "bishopFrom", "LChoirStalls$Row;", true)
  | 13 => ("ChoirStalls$Told", "orderStall", "LChoirStalls$Row;", true)
  | 14 => ("ChoirStalls$Told", "orderBeast", "LChoirStalls$Row;", true)
  | 15 => ("ChoirStalls$Told", "orderCarver", "LChoirStalls$Row;", true)
  | 16 => ("ChoirStalls$Told", "testFrom", "LChoirStalls$Row;", true)
  | 17 => ("ChoirStalls$Told", "testTo", "LChoirStalls$Row;", true)
  | _ => ("ChoirStalls$Told", "steps", "LChoirStalls$Steps;", true)
def tyX9 : Nat → FieldType := fun k => match k with
  | 0 => .object "ChoirStalls$Names"
  | 1 => .object "ChoirStalls$Names"
  | 2 => .object "ChoirStalls$Names"
  | 3 => .object "ChoirStalls$Names"
  | 4 => .int
  | 5 => .object "ChoirStalls$Row"
  | 6 => .object "ChoirStalls$Row"
  | 7 => .object "ChoirStalls$Row"
  | 8 => .object "ChoirStalls$Row"
  | 9 => .object "ChoirStalls$Row"
  | 10 => .object "ChoirStalls$Row"
  | 11 => .object "ChoirStalls$Row"
  | 12 => .object "ChoirStalls$Row"
  | 13 => .object "ChoirStalls$Row"
  | 14 => .object "ChoirStalls$Row"
  | 15 => .object "ChoirStalls$Row"
  | 16 => .object "ChoirStalls$Row"
  | 17 => .object "ChoirStalls$Row"
  | _ => .object "ChoirStalls$Steps"
theorem nmX9 : ∀ a, a < 19 → ∀ b, b < 19 → a ≠ b → (TX9 a).2.1 ≠ (TX9 b).2.1 := by decide +kernel
theorem tyX9_ok : ∀ k, k < 19 → parseFieldDescriptor (TX9 k).2.2.1 = some (tyX9 k) := by decide +kernel
abbrev cX9_init : ByteArray := prog_11_method_1_code
def yX9_init : MethodName := ⟨RX9, "<init>", "()V"⟩
abbrev cX9_clear : ByteArray := prog_11_method_2_code
def yX9_clear : MethodName := ⟨RX9, "clear", "()V"⟩
abbrev cX9_isCarve : ByteArray := prog_11_method_3_code
def yX9_isCarve : MethodName := ⟨RX9, "isCarve", "(I)Z"⟩
def RX10 : String := "ChoirStalls"
def TX10 : u_T := fun k => match k with
  | 0 => ("ChoirStalls", "tape", "LChoirStalls$Row;", true)
  | 1 => ("ChoirStalls", "told", "LChoirStalls$Told;", false)
  | 2 => ("ChoirStalls", "draft", "LChoirStalls$Told;", false)
  | 3 => ("ChoirStalls", "reader", "LChoirStalls$ListReader;", true)
  | 4 => ("ChoirStalls", "now", "LChoirStalls$Choir;", true)
  | 5 => ("ChoirStalls", "later", "LChoirStalls$Choir;", true)
  | 6 => ("ChoirStalls", "tapeLength", "I", false)
  | _ => ("ChoirStalls", "errorPlace", "I", false)
def tyX10 : Nat → FieldType := fun k => match k with
  | 0 => .object "ChoirStalls$Row"
  | 1 => .object "ChoirStalls$Told"
  | 2 => .object "ChoirStalls$Told"
  | 3 => .object "ChoirStalls$ListReader"
  | 4 => .object "ChoirStalls$Choir"
  | 5 => .object "ChoirStalls$Choir"
  | 6 => .int
  | _ => .int
theorem nmX10 : ∀ a, a < 8 → ∀ b, b < 8 → a ≠ b → (TX10 a).2.1 ≠ (TX10 b).2.1 := by decide +kernel
theorem tyX10_ok : ∀ k, k < 8 → parseFieldDescriptor (TX10 k).2.2.1 = some (tyX10 k) := by decide +kernel
abbrev cX10_init : ByteArray := prog_1_method_1_code
def yX10_init : MethodName := ⟨RX10, "<init>", "()V"⟩
abbrev cX10_feed : ByteArray := prog_1_method_2_code
def yX10_feed : MethodName := ⟨RX10, "feed", "(IIIII)I"⟩
abbrev cX10_trim : ByteArray := prog_1_method_3_code
def yX10_trim : MethodName := ⟨RX10, "trim", "(I)I"⟩
abbrev cX10_teach : ByteArray := prog_1_method_4_code
def yX10_teach : MethodName := ⟨RX10, "teach", "()I"⟩
abbrev cX10_count : ByteArray := prog_1_method_6_code
def yX10_count : MethodName := ⟨RX10, "count", "(I)I"⟩
abbrev cX10_beast : ByteArray := prog_1_method_7_code
def yX10_beast : MethodName := ⟨RX10, "beast", "(II)I"⟩
abbrev cX10_carver : ByteArray := prog_1_method_8_code
def yX10_carver : MethodName := ⟨RX10, "carver", "(II)I"⟩
abbrev cX10_stall : ByteArray := prog_1_method_9_code
def yX10_stall : MethodName := ⟨RX10, "stall", "(II)I"⟩
abbrev cX10_order : ByteArray := prog_1_method_10_code
def yX10_order : MethodName := ⟨RX10, "order", "(II)I"⟩
abbrev cX10_bishop : ByteArray := prog_1_method_11_code
def yX10_bishop : MethodName := ⟨RX10, "bishop", "()I"⟩
abbrev cX10_pleasure : ByteArray := prog_1_method_12_code
def yX10_pleasure : MethodName := ⟨RX10, "pleasure", "(I)I"⟩
abbrev cX10_worst : ByteArray := prog_1_method_13_code
def yX10_worst : MethodName := ⟨RX10, "worst", "(I)I"⟩
abbrev cX10_setDamp : ByteArray := prog_1_method_14_code
def yX10_setDamp : MethodName := ⟨RX10, "setDamp", "(I)I"⟩
abbrev cX10_oil : ByteArray := prog_1_method_15_code
def yX10_oil : MethodName := ⟨RX10, "oil", "(I)I"⟩
abbrev cX10_smoke : ByteArray := prog_1_method_16_code
def yX10_smoke : MethodName := ⟨RX10, "smoke", "(I)I"⟩
abbrev cX10_strip : ByteArray := prog_1_method_17_code
def yX10_strip : MethodName := ⟨RX10, "strip", "(I)I"⟩
abbrev cX10_pass : ByteArray := prog_1_method_18_code
def yX10_pass : MethodName := ⟨RX10, "pass", "(I)I"⟩
abbrev cX10_until : ByteArray := prog_1_method_19_code
def yX10_until : MethodName := ⟨RX10, "until", "(II)I"⟩
abbrev cX10_foresee : ByteArray := prog_1_method_20_code
def yX10_foresee : MethodName := ⟨RX10, "foresee", "(II)I"⟩
abbrev cX10_mean : ByteArray := prog_1_method_23_code
def yX10_mean : MethodName := ⟨RX10, "mean", "()D"⟩
abbrev cX10_digest : ByteArray := prog_1_method_24_code
def yX10_digest : MethodName := ⟨RX10, "digest", "()J"⟩
abbrev cX10_checkIndex : ByteArray := prog_1_method_25_code
def yX10_checkIndex : MethodName := ⟨RX10, "checkIndex", "(II)V"⟩
abbrev cX10_checkDays : ByteArray := prog_1_method_26_code
def yX10_checkDays : MethodName := ⟨RX10, "checkDays", "(II)V"⟩
abbrev cX10_append : ByteArray := prog_1_method_27_code
def yX10_append : MethodName := ⟨RX10, "append", "(I)V"⟩
abbrev cX10_countOf : ByteArray := prog_1_method_28_code
def yX10_countOf : MethodName := ⟨RX10, "countOf", "(I)I"⟩
abbrev cX10_factOfBeast : ByteArray := prog_1_method_29_code
def yX10_factOfBeast : MethodName := ⟨RX10, "factOfBeast", "(II)I"⟩
abbrev cX10_factOfCarver : ByteArray := prog_1_method_30_code
def yX10_factOfCarver : MethodName := ⟨RX10, "factOfCarver", "(II)I"⟩
abbrev cX10_factOfStall : ByteArray := prog_1_method_31_code
def yX10_factOfStall : MethodName := ⟨RX10, "factOfStall", "(II)I"⟩
abbrev cX10_factOfOrder : ByteArray := prog_1_method_32_code
def yX10_factOfOrder : MethodName := ⟨RX10, "factOfOrder", "(II)I"⟩
abbrev cX10_isSoLater : ByteArray := prog_1_method_33_code
def yX10_isSoLater : MethodName := ⟨RX10, "isSoLater", "(II)Z"⟩
def RX11 : String := "ChoirStallsLaw$Sim"
def TX11 : u_T := fun k => match k with
  | 0 => ("ChoirStallsLaw$Sim", "day", "I", false)
  | 1 => ("ChoirStallsLaw$Sim", "damp", "I", false)
  | 2 => ("ChoirStallsLaw$Sim", "coins", "I", false)
  | 3 => ("ChoirStallsLaw$Sim", "all", "I", false)
  | 4 => ("ChoirStallsLaw$Sim", "beasts", "[[I", false)
  | 5 => ("ChoirStallsLaw$Sim", "carvers", "[[I", false)
  | 6 => ("ChoirStallsLaw$Sim", "stalls", "[[I", false)
  | 7 => ("ChoirStallsLaw$Sim", "bishops", "[[I", false)
  | _ => ("ChoirStallsLaw$Sim", "orders", "[[I", false)
def tyX11 : Nat → FieldType := fun k => match k with
  | 0 => .int
  | 1 => .int
  | 2 => .int
  | 3 => .int
  | 4 => .array (.array .int)
  | 5 => .array (.array .int)
  | 6 => .array (.array .int)
  | 7 => .array (.array .int)
  | _ => .array (.array .int)
theorem nmX11 : ∀ a, a < 9 → ∀ b, b < 9 → a ≠ b → (TX11 a).2.1 ≠ (TX11 b).2.1 := by decide +kernel
theorem tyX11_ok : ∀ k, k < 9 → parseFieldDescriptor (TX11 k).2.2.1 = some (tyX11 k) := by decide +kernel
abbrev cX11_init : ByteArray := prog_13_method_1_code
def yX11_init : MethodName := ⟨RX11, "<init>", "()V"⟩
abbrev cX11_squeaks : ByteArray := prog_13_method_2_code
def yX11_squeaks : MethodName := ⟨RX11, "squeaks", "(I)Z"⟩
abbrev cX11_holds : ByteArray := prog_13_method_3_code
def yX11_holds : MethodName := ⟨RX11, "holds", "([I)Z"⟩
abbrev cX11_isOpen : ByteArray := prog_13_method_4_code
def yX11_isOpen : MethodName := ⟨RX11, "isOpen", "([I)Z"⟩
abbrev cX11_orderFor : ByteArray := prog_13_method_5_code
def yX11_orderFor : MethodName := ⟨RX11, "orderFor", "(I)I"⟩
abbrev cX11_bishop : ByteArray := prog_13_method_6_code
def yX11_bishop : MethodName := ⟨RX11, "bishop", "()I"⟩
abbrev cX11_pleases : ByteArray := prog_13_method_7_code
def yX11_pleases : MethodName := ⟨RX11, "pleases", "(II)I"⟩
abbrev cX11_pleasure : ByteArray := prog_13_method_8_code
def yX11_pleasure : MethodName := ⟨RX11, "pleasure", "(I)I"⟩
abbrev cX11_pass : ByteArray := prog_13_method_9_code
def yX11_pass : MethodName := ⟨RX11, "pass", "(I)V"⟩
abbrev cX11_worms : ByteArray := prog_13_method_12_code
def yX11_worms : MethodName := ⟨RX11, "worms", "()I"⟩
abbrev cX11_squeaking : ByteArray := prog_13_method_13_code
def yX11_squeaking : MethodName := ⟨RX11, "squeaking", "()I"⟩
abbrev cX11_worst : ByteArray := prog_13_method_14_code
def yX11_worst : MethodName := ⟨RX11, "worst", "(I)I"⟩
abbrev cX11_isSame : ByteArray := prog_13_method_15_code
def yX11_isSame : MethodName := ⟨RX11, "isSame", "(LChoirStalls;)Z"⟩
def RX12 : String := "ChoirStallsModel$Sheet"
def TX12 : u_T := fun k => match k with
  | _ => ("", "", "", false)
def tyX12 : Nat → FieldType := fun k => match k with
  | _ => .int
theorem nmX12 : ∀ a, a < 0 → ∀ b, b < 0 → a ≠ b → (TX12 a).2.1 ≠ (TX12 b).2.1 := by decide +kernel
theorem tyX12_ok : ∀ k, k < 0 → parseFieldDescriptor (TX12 k).2.2.1 = some (tyX12 k) := by decide +kernel
def RX13 : String := "ChoirStallsModel$State"
def TX13 : u_T := fun k => match k with
  | _ => ("", "", "", false)
def tyX13 : Nat → FieldType := fun k => match k with
  | _ => .int
theorem nmX13 : ∀ a, a < 0 → ∀ b, b < 0 → a ≠ b → (TX13 a).2.1 ≠ (TX13 b).2.1 := by decide +kernel
theorem tyX13_ok : ∀ k, k < 0 → parseFieldDescriptor (TX13 k).2.2.1 = some (tyX13 k) := by decide +kernel
def RX14 : String := "ChoirStallsModel"
def TX14 : u_T := fun k => match k with
  | _ => ("", "", "", false)
def tyX14 : Nat → FieldType := fun k => match k with
  | _ => .int
theorem nmX14 : ∀ a, a < 0 → ∀ b, b < 0 → a ≠ b → (TX14 a).2.1 ≠ (TX14 b).2.1 := by decide +kernel
theorem tyX14_ok : ∀ k, k < 0 → parseFieldDescriptor (TX14 k).2.2.1 = some (tyX14 k) := by decide +kernel
def RJ5 : String := "java/lang/AbstractStringBuilder"
def TJ5 : u_T := fun k => match k with
  | _ => ("", "", "", false)
def tyJ5 : Nat → FieldType := fun k => match k with
  | _ => .int
abbrev wsJ50 : List Cond := u_ws RJ5 TJ5 0
theorem nmJ5 : ∀ a, a < 0 → ∀ b, b < 0 → a ≠ b → (TJ5 a).2.1 ≠ (TJ5 b).2.1 := by decide +kernel
theorem tyJ5_ok : ∀ k, k < 0 → parseFieldDescriptor (TJ5 k).2.2.1 = some (tyJ5 k) := by decide +kernel
abbrev cJ5_init_d00df : ByteArray := prog_17_method_2_code
def yJ5_init_d00df : MethodName := ⟨RJ5, "<init>", "(I)V"⟩
abbrev cJ5_length_8abf5 : ByteArray := prog_17_method_6_code
def yJ5_length_8abf5 : MethodName := ⟨RJ5, "length", "()I"⟩
abbrev cJ5_ensureCapacityInternal_d00df : ByteArray := prog_17_method_9_code
def yJ5_ensureCapacityInternal_d00df : MethodName := ⟨RJ5, "ensureCapacityInternal", "(I)V"⟩
abbrev cJ5_newCapacity_0f7a4 : ByteArray := prog_17_method_10_code
def yJ5_newCapacity_0f7a4 : MethodName := ⟨RJ5, "newCapacity", "(I)I"⟩
abbrev cJ5_inflate_da8c8 : ByteArray := prog_17_method_11_code
def yJ5_inflate_da8c8 : MethodName := ⟨RJ5, "inflate", "()V"⟩
abbrev cJ5_append_cf1ce : ByteArray := prog_17_method_22_code
def yJ5_append_cf1ce : MethodName := ⟨RJ5, "append", "(Ljava/lang/String;)Ljava/lang/AbstractStringBuilder;"⟩
abbrev cJ5_appendNull_278bc : ByteArray := prog_17_method_26_code
def yJ5_appendNull_278bc : MethodName := ⟨RJ5, "appendNull", "()Ljava/lang/AbstractStringBuilder;"⟩
abbrev cJ5_append_c97b9 : ByteArray := prog_17_method_32_code
def yJ5_append_c97b9 : MethodName := ⟨RJ5, "append", "(I)Ljava/lang/AbstractStringBuilder;"⟩
abbrev cJ5_getValue_6d5f1 : ByteArray := prog_17_method_64_code
def yJ5_getValue_6d5f1 : MethodName := ⟨RJ5, "getValue", "()[B"⟩
abbrev cJ5_isLatin1_aae02 : ByteArray := prog_17_method_68_code
def yJ5_isLatin1_aae02 : MethodName := ⟨RJ5, "isLatin1", "()Z"⟩
abbrev cJ5_inflateIfNeededFor_a7421 : ByteArray := prog_17_method_71_code
def yJ5_inflateIfNeededFor_a7421 : MethodName := ⟨RJ5, "inflateIfNeededFor", "(Ljava/lang/String;)V"⟩
abbrev cJ5_putStringAt_47b60 : ByteArray := prog_17_method_73_code
def yJ5_putStringAt_47b60 : MethodName := ⟨RJ5, "putStringAt", "(ILjava/lang/String;)V"⟩
def RJx8e188 : String := "java/lang/Cloneable"
def TJx8e188 : u_T := fun k => match k with
  | _ => ("", "", "", false)
def tyJx8e188 : Nat → FieldType := fun k => match k with
  | _ => .int
abbrev wsJx8e1880 : List Cond := u_ws RJx8e188 TJx8e188 0
theorem nmJx8e188 : ∀ a, a < 0 → ∀ b, b < 0 → a ≠ b → (TJx8e188 a).2.1 ≠ (TJx8e188 b).2.1 := by decide +kernel
theorem tyJx8e188_ok : ∀ k, k < 0 → parseFieldDescriptor (TJx8e188 k).2.2.1 = some (tyJx8e188 k) := by decide +kernel
def RJx29ce0 : String := "java/lang/Enum"
def TJx29ce0 : u_T := fun k => match k with
  | _ => ("", "", "", false)
def tyJx29ce0 : Nat → FieldType := fun k => match k with
  | _ => .int
abbrev wsJx29ce00 : List Cond := u_ws RJx29ce0 TJx29ce0 0
theorem nmJx29ce0 : ∀ a, a < 0 → ∀ b, b < 0 → a ≠ b → (TJx29ce0 a).2.1 ≠ (TJx29ce0 b).2.1 := by decide +kernel
theorem tyJx29ce0_ok : ∀ k, k < 0 → parseFieldDescriptor (TJx29ce0 k).2.2.1 = some (tyJx29ce0 k) := by decide +kernel
abbrev cJx29ce0_ordinal_8abf5 : ByteArray := prog_19_method_2_code
def yJx29ce0_ordinal_8abf5 : MethodName := ⟨RJx29ce0, "ordinal", "()I"⟩
def RJ6 : String := "java/lang/Integer"
def TJ6 : u_T := fun k => match k with
  | _ => ("", "", "", false)
def tyJ6 : Nat → FieldType := fun k => match k with
  | _ => .int
abbrev wsJ60 : List Cond := u_ws RJ6 TJ6 0
theorem nmJ6 : ∀ a, a < 0 → ∀ b, b < 0 → a ≠ b → (TJ6 a).2.1 ≠ (TJ6 b).2.1 := by decide +kernel
theorem tyJ6_ok : ∀ k, k < 0 → parseFieldDescriptor (TJ6 k).2.2.1 = some (tyJ6 k) := by decide +kernel
abbrev cJ6_getChars_ba4f3 : ByteArray := prog_24_method_12_code
def yJ6_getChars_ba4f3 : MethodName := ⟨RJ6, "getChars", "(II[B)I"⟩
abbrev cJ6_stringSize_0f7a4 : ByteArray := prog_24_method_13_code
def yJ6_stringSize_0f7a4 : MethodName := ⟨RJ6, "stringSize", "(I)I"⟩
def RJ9 : String := "java/lang/Math"
def TJ9 : u_T := fun k => match k with
  | _ => ("", "", "", false)
def tyJ9 : Nat → FieldType := fun k => match k with
  | _ => .int
abbrev wsJ90 : List Cond := u_ws RJ9 TJ9 0
theorem nmJ9 : ∀ a, a < 0 → ∀ b, b < 0 → a ≠ b → (TJ9 a).2.1 ≠ (TJ9 b).2.1 := by decide +kernel
theorem tyJ9_ok : ∀ k, k < 0 → parseFieldDescriptor (TJ9 k).2.2.1 = some (tyJ9 k) := by decide +kernel
abbrev cJ9_abs_0f7a4 : ByteArray := prog_25_method_59_code
def yJ9_abs_0f7a4 : MethodName := ⟨RJ9, "abs", "(I)I"⟩
abbrev cJ9_max_7cf53 : ByteArray := prog_25_method_65_code
def yJ9_max_7cf53 : MethodName := ⟨RJ9, "max", "(II)I"⟩
abbrev cJ9_min_7cf53 : ByteArray := prog_25_method_69_code
def yJ9_min_7cf53 : MethodName := ⟨RJ9, "min", "(II)I"⟩
def RJ0 : String := "java/lang/String"
def TJ0 : u_T := fun k => match k with
  | 0 => ("java/lang/String", "value", "[B", true)
  | 1 => ("java/lang/String", "coder", "B", true)
  | 2 => ("java/lang/String", "hash", "I", false)
  | _ => ("java/lang/String", "hashIsZero", "Z", false)
def tyJ0 : Nat → FieldType := fun k => match k with
  | 0 => .array .byte
  | 1 => .byte
  | 2 => .int
  | _ => .boolean
abbrev wsJ00 : List Cond := u_ws RJ0 TJ0 4
theorem nmJ0 : ∀ a, a < 4 → ∀ b, b < 4 → a ≠ b → (TJ0 a).2.1 ≠ (TJ0 b).2.1 := by decide +kernel
theorem tyJ0_ok : ∀ k, k < 4 → parseFieldDescriptor (TJ0 k).2.2.1 = some (tyJ0 k) := by decide +kernel
abbrev cJ0_init_81219 : ByteArray := prog_27_method_53_code
def yJ0_init_81219 : MethodName := ⟨RJ0, "<init>", "(Ljava/lang/StringBuilder;)V"⟩
abbrev cJ0_length_8abf5 : ByteArray := prog_27_method_54_code
def yJ0_length_8abf5 : MethodName := ⟨RJ0, "length", "()I"⟩
abbrev cJ0_charAt_5068e : ByteArray := prog_27_method_56_code
def yJ0_charAt_5068e : MethodName := ⟨RJ0, "charAt", "(I)C"⟩
abbrev cJ0_getBytes_840e7 : ByteArray := prog_27_method_147_code
def yJ0_getBytes_840e7 : MethodName := ⟨RJ0, "getBytes", "([BIB)V"⟩
abbrev cJ0_init_db425 : ByteArray := prog_27_method_150_code
def yJ0_init_db425 : MethodName := ⟨RJ0, "<init>", "(Ljava/lang/AbstractStringBuilder;Ljava/lang/Void;)V"⟩
abbrev cJ0_coder_7d493 : ByteArray := prog_27_method_152_code
def yJ0_coder_7d493 : MethodName := ⟨RJ0, "coder", "()B"⟩
abbrev cJ0_isLatin1_aae02 : ByteArray := prog_27_method_154_code
def yJ0_isLatin1_aae02 : MethodName := ⟨RJ0, "isLatin1", "()Z"⟩
abbrev cJ0_checkIndex_df160 : ByteArray := prog_27_method_155_code
def yJ0_checkIndex_df160 : MethodName := ⟨RJ0, "checkIndex", "(II)V"⟩
abbrev cJ0_checkBoundsOffCount_cabcc : ByteArray := prog_27_method_157_code
def yJ0_checkBoundsOffCount_cabcc : MethodName := ⟨RJ0, "checkBoundsOffCount", "(III)I"⟩
abbrev cJ0_checkBoundsBeginEnd_23922 : ByteArray := prog_27_method_158_code
def yJ0_checkBoundsBeginEnd_23922 : MethodName := ⟨RJ0, "checkBoundsBeginEnd", "(III)V"⟩
def RJ4 : String := "java/lang/StringBuilder"
def TJ4 : u_T := fun k => match k with
  | 0 => ("java/lang/AbstractStringBuilder", "value", "[B", false)
  | 1 => ("java/lang/AbstractStringBuilder", "coder", "B", false)
  | 2 => ("java/lang/AbstractStringBuilder", "maybeLatin1", "Z", false)
  | _ => ("java/lang/AbstractStringBuilder", "count", "I", false)
def tyJ4 : Nat → FieldType := fun k => match k with
  | 0 => .array .byte
  | 1 => .byte
  | 2 => .boolean
  | _ => .int
abbrev wsJ40 : List Cond := u_ws RJ4 TJ4 4
theorem nmJ4 : ∀ a, a < 4 → ∀ b, b < 4 → a ≠ b → (TJ4 a).2.1 ≠ (TJ4 b).2.1 := by decide +kernel
theorem tyJ4_ok : ∀ k, k < 4 → parseFieldDescriptor (TJ4 k).2.2.1 = some (tyJ4 k) := by decide +kernel
abbrev cJ4_init_da8c8 : ByteArray := prog_28_method_1_code
def yJ4_init_da8c8 : MethodName := ⟨RJ4, "<init>", "()V"⟩
abbrev cJ4_append_15ec4 : ByteArray := prog_28_method_7_code
def yJ4_append_15ec4 : MethodName := ⟨RJ4, "append", "(Ljava/lang/String;)Ljava/lang/StringBuilder;"⟩
abbrev cJ4_append_bf812 : ByteArray := prog_28_method_15_code
def yJ4_append_bf812 : MethodName := ⟨RJ4, "append", "(I)Ljava/lang/StringBuilder;"⟩
abbrev cJ4_toString_0e30d : ByteArray := prog_28_method_42_code
def yJ4_toString_0e30d : MethodName := ⟨RJ4, "toString", "()Ljava/lang/String;"⟩
abbrev cJ4_length_8abf5 : ByteArray := prog_28_method_93_code
def yJ4_length_8abf5 : MethodName := ⟨RJ4, "length", "()I"⟩
def RJ1 : String := "java/lang/StringLatin1"
def TJ1 : u_T := fun k => match k with
  | _ => ("", "", "", false)
def tyJ1 : Nat → FieldType := fun k => match k with
  | _ => .int
abbrev wsJ10 : List Cond := u_ws RJ1 TJ1 0
theorem nmJ1 : ∀ a, a < 0 → ∀ b, b < 0 → a ≠ b → (TJ1 a).2.1 ≠ (TJ1 b).2.1 := by decide +kernel
theorem tyJ1_ok : ∀ k, k < 0 → parseFieldDescriptor (TJ1 k).2.2.1 = some (tyJ1 k) := by decide +kernel
abbrev cJ1_charAt_3b067 : ByteArray := prog_29_method_2_code
def yJ1_charAt_3b067 : MethodName := ⟨RJ1, "charAt", "([BI)C"⟩
abbrev cJ1_inflate_0e8fd : ByteArray := prog_29_method_50_code
def yJ1_inflate_0e8fd : MethodName := ⟨RJ1, "inflate", "([BI[BII)V"⟩
def RJ2 : String := "java/lang/StringUTF16"
def TJ2 : u_T := fun k => match k with
  | _ => ("", "", "", false)
def tyJ2 : Nat → FieldType := fun k => match k with
  | _ => .int
abbrev wsJ20 : List Cond := u_ws RJ2 TJ2 0
theorem nmJ2 : ∀ a, a < 0 → ∀ b, b < 0 → a ≠ b → (TJ2 a).2.1 ≠ (TJ2 b).2.1 := by decide +kernel
theorem tyJ2_ok : ∀ k, k < 0 → parseFieldDescriptor (TJ2 k).2.2.1 = some (tyJ2 k) := by decide +kernel
abbrev cJ2_newBytesFor_77867 : ByteArray := prog_30_method_2_code
def yJ2_newBytesFor_77867 : MethodName := ⟨RJ2, "newBytesFor", "(I)[B"⟩
abbrev cJ2_newBytesLength_0f7a4 : ByteArray := prog_30_method_3_code
def yJ2_newBytesLength_0f7a4 : MethodName := ⟨RJ2, "newBytesLength", "(I)I"⟩
abbrev cJ2_putChar_b72d1 : ByteArray := prog_30_method_4_code
def yJ2_putChar_b72d1 : MethodName := ⟨RJ2, "putChar", "([BII)V"⟩
abbrev cJ2_getChar_3b067 : ByteArray := prog_30_method_5_code
def yJ2_getChar_3b067 : MethodName := ⟨RJ2, "getChar", "([BI)C"⟩
abbrev cJ2_length_9d52b : ByteArray := prog_30_method_6_code
def yJ2_length_9d52b : MethodName := ⟨RJ2, "length", "([B)I"⟩
abbrev cJ2_coderFromArrayLen_85cad : ByteArray := prog_30_method_15_code
def yJ2_coderFromArrayLen_85cad : MethodName := ⟨RJ2, "coderFromArrayLen", "([BI)B"⟩
abbrev cJ2_compress_39247 : ByteArray := prog_30_method_17_code
def yJ2_compress_39247 : MethodName := ⟨RJ2, "compress", "([BII)[B"⟩
abbrev cJ2_compress_5af95 : ByteArray := prog_30_method_22_code
def yJ2_compress_5af95 : MethodName := ⟨RJ2, "compress", "([BI[BII)I"⟩
abbrev cJ2_getChars_46870 : ByteArray := prog_30_method_77_code
def yJ2_getChars_46870 : MethodName := ⟨RJ2, "getChars", "(III[B)I"⟩
abbrev cJ2_putCharsAt_cd4e5 : ByteArray := prog_30_method_81_code
def yJ2_putCharsAt_cd4e5 : MethodName := ⟨RJ2, "putCharsAt", "([BICCCC)I"⟩
abbrev cJ2_charAt_3b067 : ByteArray := prog_30_method_83_code
def yJ2_charAt_3b067 : MethodName := ⟨RJ2, "charAt", "([BI)C"⟩
abbrev cJ2_inflate_0e8fd : ByteArray := prog_30_method_86_code
def yJ2_inflate_0e8fd : MethodName := ⟨RJ2, "inflate", "([BI[BII)V"⟩
abbrev cJ2_getChars_ba4f3 : ByteArray := prog_30_method_89_code
def yJ2_getChars_ba4f3 : MethodName := ⟨RJ2, "getChars", "(II[B)I"⟩
abbrev cJ2_checkIndex_2214a : ByteArray := prog_30_method_91_code
def yJ2_checkIndex_2214a : MethodName := ⟨RJ2, "checkIndex", "(I[B)V"⟩
abbrev cJ2_checkBoundsBeginEnd_d044e : ByteArray := prog_30_method_93_code
def yJ2_checkBoundsBeginEnd_d044e : MethodName := ⟨RJ2, "checkBoundsBeginEnd", "(II[B)V"⟩
abbrev cJ2_checkBoundsOffCount_d044e : ByteArray := prog_30_method_94_code
def yJ2_checkBoundsOffCount_d044e : MethodName := ⟨RJ2, "checkBoundsOffCount", "(II[B)V"⟩
def RJ10 : String := "java/lang/System"
def TJ10 : u_T := fun k => match k with
  | _ => ("", "", "", false)
def tyJ10 : Nat → FieldType := fun k => match k with
  | _ => .int
abbrev wsJ100 : List Cond := u_ws RJ10 TJ10 0
theorem nmJ10 : ∀ a, a < 0 → ∀ b, b < 0 → a ≠ b → (TJ10 a).2.1 ≠ (TJ10 b).2.1 := by decide +kernel
theorem tyJ10_ok : ∀ k, k < 0 → parseFieldDescriptor (TJ10 k).2.2.1 = some (tyJ10 k) := by decide +kernel
def RJ7 : String := "java/util/Arrays"
def TJ7 : u_T := fun k => match k with
  | _ => ("", "", "", false)
def tyJ7 : Nat → FieldType := fun k => match k with
  | _ => .int
abbrev wsJ70 : List Cond := u_ws RJ7 TJ7 0
theorem nmJ7 : ∀ a, a < 0 → ∀ b, b < 0 → a ≠ b → (TJ7 a).2.1 ≠ (TJ7 b).2.1 := by decide +kernel
theorem tyJ7_ok : ∀ k, k < 0 → parseFieldDescriptor (TJ7 k).2.2.1 = some (tyJ7 k) := by decide +kernel
abbrev cJ7_copyOf_9075b : ByteArray := prog_33_method_121_code
def yJ7_copyOf_9075b : MethodName := ⟨RJ7, "copyOf", "([BI)[B"⟩
abbrev cJ7_checkLength_df160 : ByteArray := prog_33_method_131_code
def yJ7_checkLength_df160 : MethodName := ⟨RJ7, "checkLength", "(II)V"⟩
abbrev cJ7_copyOfRange_39247 : ByteArray := prog_33_method_132_code
def yJ7_copyOfRange_39247 : MethodName := ⟨RJ7, "copyOfRange", "([BII)[B"⟩
abbrev cJ7_copyOfRangeByte_39247 : ByteArray := prog_33_method_133_code
def yJ7_copyOfRangeByte_39247 : MethodName := ⟨RJ7, "copyOfRangeByte", "([BII)[B"⟩
def RJ8 : String := "jdk/internal/util/ArraysSupport"
def TJ8 : u_T := fun k => match k with
  | _ => ("", "", "", false)
def tyJ8 : Nat → FieldType := fun k => match k with
  | _ => .int
abbrev wsJ80 : List Cond := u_ws RJ8 TJ8 0
theorem nmJ8 : ∀ a, a < 0 → ∀ b, b < 0 → a ≠ b → (TJ8 a).2.1 ≠ (TJ8 b).2.1 := by decide +kernel
theorem tyJ8_ok : ∀ k, k < 0 → parseFieldDescriptor (TJ8 k).2.2.1 = some (tyJ8 k) := by decide +kernel
abbrev cJ8_newLength_cabcc : ByteArray := prog_34_method_27_code
def yJ8_newLength_cabcc : MethodName := ⟨RJ8, "newLength", "(III)I"⟩
abbrev cJ8_hugeLength_7cf53 : ByteArray := prog_34_method_28_code
def yJ8_hugeLength_7cf53 : MethodName := ⟨RJ8, "hugeLength", "(II)I"⟩
def RJ3 : String := "jdk/internal/util/Preconditions"
def TJ3 : u_T := fun k => match k with
  | _ => ("", "", "", false)
def tyJ3 : Nat → FieldType := fun k => match k with
  | _ => .int
abbrev wsJ30 : List Cond := u_ws RJ3 TJ3 0
theorem nmJ3 : ∀ a, a < 0 → ∀ b, b < 0 → a ≠ b → (TJ3 a).2.1 ≠ (TJ3 b).2.1 := by decide +kernel
theorem tyJ3_ok : ∀ k, k < 0 → parseFieldDescriptor (TJ3 k).2.2.1 = some (tyJ3 k) := by decide +kernel
abbrev cJ3_checkIndex_8e157 : ByteArray := prog_35_method_11_code
def yJ3_checkIndex_8e157 : MethodName := ⟨RJ3, "checkIndex", "(IILjava/util/function/BiFunction;)I"⟩
abbrev cJ3_checkFromToIndex_8c36e : ByteArray := prog_35_method_12_code
def yJ3_checkFromToIndex_8c36e : MethodName := ⟨RJ3, "checkFromToIndex", "(IIILjava/util/function/BiFunction;)I"⟩
abbrev cJ3_checkFromIndexSize_8c36e : ByteArray := prog_35_method_13_code
def yJ3_checkFromIndexSize_8c36e : MethodName := ⟨RJ3, "checkFromIndexSize", "(IIILjava/util/function/BiFunction;)I"⟩
def RL : String := "ChoirStallsLaw"
abbrev cL_below : ByteArray := method_2_code
def yL_below : MethodName := ⟨RL, "below", "(II)I"⟩
abbrev cL_cell : ByteArray := method_3_code
def yL_cell : MethodName := ⟨RL, "cell", "([II)I"⟩
abbrev cL_taught : ByteArray := method_4_code
def yL_taught : MethodName := ⟨RL, "taught", "(LChoirStalls;Ljava/lang/String;)I"⟩
abbrev cL_when : ByteArray := method_5_code
def yL_when : MethodName := ⟨RL, "when", "([ILChoirStallsLaw$Sim;)Ljava/lang/String;"⟩
abbrev cL_list : ByteArray := method_6_code
def yL_list : MethodName := ⟨RL, "list", "([ILjava/lang/StringBuilder;)LChoirStallsLaw$Sim;"⟩
abbrev cL_act : ByteArray := method_7_code
def yL_act : MethodName := ⟨RL, "act", "(LChoirStalls;LChoirStallsLaw$Sim;I)Z"⟩
abbrev cL_passed : ByteArray := method_8_code
def yL_passed : MethodName := ⟨RL, "passed", "(LChoirStalls;LChoirStallsLaw$Sim;I)Z"⟩
abbrev cL_law : ByteArray := code
def yL_law : MethodName := ⟨RL, "law", "([I)Z"⟩
def RB1 : String := "java/lang/StringBuilder"
def TB1 : u_T := fun k => match k with
  | 0 => ("java/lang/AbstractStringBuilder", "value", "[B", false)
  | 1 => ("java/lang/AbstractStringBuilder", "coder", "B", false)
  | 2 => ("java/lang/AbstractStringBuilder", "maybeLatin1", "Z", false)
  | _ => ("java/lang/AbstractStringBuilder", "count", "I", false)
def tyB1 : Nat → FieldType := fun k => match k with
  | 0 => .array .byte
  | 1 => .byte
  | 2 => .boolean
  | _ => .int
theorem nmB1 : ∀ a, a < 4 → ∀ b, b < 4 → a ≠ b → (TB1 a).2.1 ≠ (TB1 b).2.1 := by decide +kernel
theorem tyB1_ok : ∀ k, k < 4 → parseFieldDescriptor (TB1 k).2.2.1 = some (tyB1 k) := by decide +kernel
def RB0 : String := "java/lang/String"
def TB0 : u_T := fun k => match k with
  | 0 => ("java/lang/String", "value", "[B", true)
  | 1 => ("java/lang/String", "coder", "B", true)
  | 2 => ("java/lang/String", "hash", "I", false)
  | _ => ("java/lang/String", "hashIsZero", "Z", false)
def tyB0 : Nat → FieldType := fun k => match k with
  | 0 => .array .byte
  | 1 => .byte
  | 2 => .int
  | _ => .boolean
theorem nmB0 : ∀ a, a < 4 → ∀ b, b < 4 → a ≠ b → (TB0 a).2.1 ≠ (TB0 b).2.1 := by decide +kernel
theorem tyB0_ok : ∀ k, k < 4 → parseFieldDescriptor (TB0 k).2.2.1 = some (tyB0 k) := by decide +kernel
