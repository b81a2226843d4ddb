def RX0 : String := "RoughStones$Auction"
def TX0 : u_T := fun k => match k with
  | 0 => ("RoughStones$Auction", "bids", "[I", true)
  | 1 => ("RoughStones$Auction", "limit", "[I", true)
  | 2 => ("RoughStones$Auction", "taken", "[I", true)
  | 3 => ("RoughStones$Auction", "given", "[I", true)
  | 4 => ("RoughStones$Auction", "winners", "[I", true)
  | 5 => ("RoughStones$Auction", "hope", "[I", true)
  | 6 => ("RoughStones$Auction", "lots", "I", false)
  | _ => ("RoughStones$Auction", "most", "I", false)
def tyX0 : Nat → FieldType := fun k => match k with
  | 0 => .array .int
  | 1 => .array .int
  | 2 => .array .int
  | 3 => .array .int
  | 4 => .array .int
  | 5 => .array .int
  | 6 => .int
  | _ => .int
abbrev wsX00 : List Cond := u_ws RX0 TX0 8
theorem nmX0 : ∀ a, a < 8 → ∀ b, b < 8 → a ≠ b → (TX0 a).2.1 ≠ (TX0 b).2.1 := by decide +kernel
theorem tyX0_ok : ∀ k, k < 8 → parseFieldDescriptor (TX0 k).2.2.1 = some (tyX0 k) := by decide +kernel
abbrev cX0_init : ByteArray := prog_2_method_1_code
def yX0_init : MethodName := ⟨RX0, "<init>", "()V"⟩
abbrev cX0_seal : ByteArray := prog_2_method_2_code
def yX0_seal : MethodName := ⟨RX0, "seal", "(III)Z"⟩
abbrev cX0_giveAll : ByteArray := prog_2_method_3_code
def yX0_giveAll : MethodName := ⟨RX0, "giveAll", "()I"⟩
abbrev cX0_greatestBid : ByteArray := prog_2_method_4_code
def yX0_greatestBid : MethodName := ⟨RX0, "greatestBid", "(I)I"⟩
abbrev cX0_give : ByteArray := prog_2_method_5_code
def yX0_give : MethodName := ⟨RX0, "give", "(II)V"⟩
abbrev cX0_winnerOf : ByteArray := prog_2_method_6_code
def yX0_winnerOf : MethodName := ⟨RX0, "winnerOf", "(I)I"⟩
abbrev cX0_clear : ByteArray := prog_2_method_7_code
def yX0_clear : MethodName := ⟨RX0, "clear", "()V"⟩
def RX1 : String := "RoughStones$Cut"
def TX1 : u_T := fun k => match k with
  | 0 => ("RoughStones$Cut", "worth", "I", false)
  | 1 => ("RoughStones$Cut", "model", "I", false)
  | 2 => ("RoughStones$Cut", "size", "I", false)
  | 3 => ("RoughStones$Cut", "way", "I", false)
  | 4 => ("RoughStones$Cut", "a", "I", false)
  | 5 => ("RoughStones$Cut", "b", "I", false)
  | 6 => ("RoughStones$Cut", "c", "I", false)
  | _ => ("RoughStones$Cut", "weight", "I", false)
def tyX1 : Nat → FieldType := fun k => match k with
  | 0 => .int
  | 1 => .int
  | 2 => .int
  | 3 => .int
  | 4 => .int
  | 5 => .int
  | 6 => .int
  | _ => .int
abbrev wsX10 : List Cond := u_ws RX1 TX1 8
theorem nmX1 : ∀ a, a < 8 → ∀ b, b < 8 → a ≠ b → (TX1 a).2.1 ≠ (TX1 b).2.1 := by decide +kernel
theorem tyX1_ok : ∀ k, k < 8 → parseFieldDescriptor (TX1 k).2.2.1 = some (tyX1 k) := by decide +kernel
abbrev cX1_init : ByteArray := prog_3_method_1_code
def yX1_init : MethodName := ⟨RX1, "<init>", "()V"⟩
abbrev cX1_take : ByteArray := prog_3_method_2_code
def yX1_take : MethodName := ⟨RX1, "take", "(LRoughStones$Cut;)V"⟩
abbrev cX1_tell : ByteArray := prog_3_method_3_code
def yX1_tell : MethodName := ⟨RX1, "tell", "(I)I"⟩
def RX2 : String := "RoughStones$Matcher"
def TX2 : u_T := fun k => match k with
  | 0 => ("RoughStones$Matcher", "number", "[I", true)
  | 1 => ("RoughStones$Matcher", "grains", "[I", true)
  | 2 => ("RoughStones$Matcher", "value", "[I", true)
  | _ => ("RoughStones$Matcher", "many", "I", false)
def tyX2 : Nat → FieldType := fun k => match k with
  | 0 => .array .int
  | 1 => .array .int
  | 2 => .array .int
  | _ => .int
abbrev wsX20 : List Cond := u_ws RX2 TX2 4
theorem nmX2 : ∀ a, a < 4 → ∀ b, b < 4 → a ≠ b → (TX2 a).2.1 ≠ (TX2 b).2.1 := by decide +kernel
theorem tyX2_ok : ∀ k, k < 4 → parseFieldDescriptor (TX2 k).2.2.1 = some (tyX2 k) := by decide +kernel
abbrev cX2_init : ByteArray := prog_4_method_1_code
def yX2_init : MethodName := ⟨RX2, "<init>", "()V"⟩
abbrev cX2_pairUp : ByteArray := prog_4_method_2_code
def yX2_pairUp : MethodName := ⟨RX2, "pairUp", "(Ljava/util/ArrayList;)I"⟩
abbrev cX2_collect : ByteArray := prog_4_method_3_code
def yX2_collect : MethodName := ⟨RX2, "collect", "(Ljava/util/ArrayList;)V"⟩
abbrev cX2_bestOf : ByteArray := prog_4_method_4_code
def yX2_bestOf : MethodName := ⟨RX2, "bestOf", "(I)I"⟩
abbrev cX2_mateIn : ByteArray := prog_4_method_5_code
def yX2_mateIn : MethodName := ⟨RX2, "mateIn", "(II)I"⟩
abbrev cX2_isPair : ByteArray := prog_4_method_6_code
def yX2_isPair : MethodName := ⟨RX2, "isPair", "(II)Z"⟩
abbrev cX2_withPair : ByteArray := prog_4_method_7_code
def yX2_withPair : MethodName := ⟨RX2, "withPair", "(III)I"⟩
abbrev cX2_apart : ByteArray := prog_4_method_8_code
def yX2_apart : MethodName := ⟨RX2, "apart", "(II)I"⟩
abbrev cX2_join : ByteArray := prog_4_method_9_code
def yX2_join : MethodName := ⟨RX2, "join", "(Ljava/util/ArrayList;II)V"⟩
def RX3 : String := "RoughStones$Model"
def TX3 : u_T := fun k => match k with
  | 0 => ("RoughStones$Model", "least", "[I", true)
  | 1 => ("RoughStones$Model", "span", "[I", true)
  | 2 => ("RoughStones$Model", "masks", "[[J", true)
  | 3 => ("RoughStones$Model", "cells", "I", true)
  | _ => ("RoughStones$Model", "greatest", "I", true)
def tyX3 : Nat → FieldType := fun k => match k with
  | 0 => .array .int
  | 1 => .array .int
  | 2 => .array (.array .long)
  | 3 => .int
  | _ => .int
abbrev wsX30 : List Cond := u_ws RX3 TX3 5
theorem nmX3 : ∀ a, a < 5 → ∀ b, b < 5 → a ≠ b → (TX3 a).2.1 ≠ (TX3 b).2.1 := by decide +kernel
theorem tyX3_ok : ∀ k, k < 5 → parseFieldDescriptor (TX3 k).2.2.1 = some (tyX3 k) := by decide +kernel
abbrev cX3_init : ByteArray := prog_5_method_1_code
def yX3_init : MethodName := ⟨RX3, "<init>", "(LRoughStones$Tape;)V"⟩
abbrev cX3_layLayer : ByteArray := prog_5_method_2_code
def yX3_layLayer : MethodName := ⟨RX3, "layLayer", "(LRoughStones$Tape;I)V"⟩
abbrev cX3_layCell : ByteArray := prog_5_method_3_code
def yX3_layCell : MethodName := ⟨RX3, "layCell", "(IIII)V"⟩
abbrev cX3_layBlock : ByteArray := prog_5_method_4_code
def yX3_layBlock : MethodName := ⟨RX3, "layBlock", "([JIIII)V"⟩
abbrev cX3_turned : ByteArray := prog_5_method_5_code
def yX3_turned : MethodName := ⟨RX3, "turned", "(IIII)I"⟩
abbrev cX3_maskOf : ByteArray := prog_5_method_6_code
def yX3_maskOf : MethodName := ⟨RX3, "maskOf", "(II)I"⟩
abbrev cX3_block : ByteArray := prog_5_method_7_code
def yX3_block : MethodName := ⟨RX3, "block", "(IIII)J"⟩
def RX4 : String := "RoughStones$Part"
def TX4 : u_T := fun k => match k with
  | 0 => ("RoughStones$Part", "axis", "I", true)
  | 1 => ("RoughStones$Part", "low", "I", true)
  | 2 => ("RoughStones$Part", "high", "I", true)
  | _ => ("RoughStones$Part", "cut", "LRoughStones$Cut;", true)
def tyX4 : Nat → FieldType := fun k => match k with
  | 0 => .int
  | 1 => .int
  | 2 => .int
  | _ => .object "RoughStones$Cut"
abbrev wsX40 : List Cond := u_ws RX4 TX4 4
theorem nmX4 : ∀ a, a < 4 → ∀ b, b < 4 → a ≠ b → (TX4 a).2.1 ≠ (TX4 b).2.1 := by decide +kernel
theorem tyX4_ok : ∀ k, k < 4 → parseFieldDescriptor (TX4 k).2.2.1 = some (tyX4 k) := by decide +kernel
abbrev cX4_init : ByteArray := prog_6_method_1_code
def yX4_init : MethodName := ⟨RX4, "<init>", "(III)V"⟩
def RX5 : String := "RoughStones$Prices"
def TX5 : u_T := fun k => match k with
  | 0 => ("RoughStones$Prices", "least", "[I", true)
  | 1 => ("RoughStones$Prices", "each", "[I", true)
  | _ => ("RoughStones$Prices", "steps", "I", false)
def tyX5 : Nat → FieldType := fun k => match k with
  | 0 => .array .int
  | 1 => .array .int
  | _ => .int
abbrev wsX50 : List Cond := u_ws RX5 TX5 3
theorem nmX5 : ∀ a, a < 3 → ∀ b, b < 3 → a ≠ b → (TX5 a).2.1 ≠ (TX5 b).2.1 := by decide +kernel
theorem tyX5_ok : ∀ k, k < 3 → parseFieldDescriptor (TX5 k).2.2.1 = some (tyX5 k) := by decide +kernel
abbrev cX5_init : ByteArray := prog_7_method_1_code
def yX5_init : MethodName := ⟨RX5, "<init>", "()V"⟩
abbrev cX5_put : ByteArray := prog_7_method_2_code
def yX5_put : MethodName := ⟨RX5, "put", "(II)Z"⟩
abbrev cX5_worthOf : ByteArray := prog_7_method_3_code
def yX5_worthOf : MethodName := ⟨RX5, "worthOf", "(I)I"⟩
def RX6 : String := "RoughStones$Rough"
def TX6 : u_T := fun k => match k with
  | 0 => ("RoughStones$Rough", "sound", "[J", true)
  | 1 => ("RoughStones$Rough", "known", "Z", false)
  | 2 => ("RoughStones$Rough", "axis", "I", false)
  | 3 => ("RoughStones$Rough", "at", "I", false)
  | 4 => ("RoughStones$Rough", "worth", "I", false)
  | 5 => ("RoughStones$Rough", "cuts", "I", false)
  | 6 => ("RoughStones$Rough", "first", "LRoughStones$Cut;", true)
  | _ => ("RoughStones$Rough", "second", "LRoughStones$Cut;", true)
def tyX6 : Nat → FieldType := fun k => match k with
  | 0 => .array .long
  | 1 => .boolean
  | 2 => .int
  | 3 => .int
  | 4 => .int
  | 5 => .int
  | 6 => .object "RoughStones$Cut"
  | _ => .object "RoughStones$Cut"
abbrev wsX60 : List Cond := u_ws RX6 TX6 8
theorem nmX6 : ∀ a, a < 8 → ∀ b, b < 8 → a ≠ b → (TX6 a).2.1 ≠ (TX6 b).2.1 := by decide +kernel
theorem tyX6_ok : ∀ k, k < 8 → parseFieldDescriptor (TX6 k).2.2.1 = some (tyX6 k) := by decide +kernel
abbrev cX6_init : ByteArray := prog_8_method_1_code
def yX6_init : MethodName := ⟨RX6, "<init>", "()V"⟩
abbrev cX6_takeWhole : ByteArray := prog_8_method_2_code
def yX6_takeWhole : MethodName := ⟨RX6, "takeWhole", "(LRoughStones$Part;)V"⟩
abbrev cX6_takeSawn : ByteArray := prog_8_method_3_code
def yX6_takeSawn : MethodName := ⟨RX6, "takeSawn", "(LRoughStones$Part;LRoughStones$Part;)V"⟩
def RX7 : String := "RoughStones$Saw"
def TX7 : u_T := fun k => match k with
  | 0 => ("RoughStones$Saw", "parts", "[LRoughStones$Part;", true)
  | 1 => ("RoughStones$Saw", "offered", "LRoughStones$Cut;", true)
  | 2 => ("RoughStones$Saw", "starts", "[J", true)
  | _ => ("RoughStones$Saw", "span", "[I", true)
def tyX7 : Nat → FieldType := fun k => match k with
  | 0 => .array (.object "RoughStones$Part")
  | 1 => .object "RoughStones$Cut"
  | 2 => .array .long
  | _ => .array .int
abbrev wsX70 : List Cond := u_ws RX7 TX7 4
theorem nmX7 : ∀ a, a < 4 → ∀ b, b < 4 → a ≠ b → (TX7 a).2.1 ≠ (TX7 b).2.1 := by decide +kernel
theorem tyX7_ok : ∀ k, k < 4 → parseFieldDescriptor (TX7 k).2.2.1 = some (tyX7 k) := by decide +kernel
abbrev cX7_init : ByteArray := prog_9_method_1_code
def yX7_init : MethodName := ⟨RX7, "<init>", "()V"⟩
abbrev cX7_findBest : ByteArray := prog_9_method_2_code
def yX7_findBest : MethodName := ⟨RX7, "findBest", "(LRoughStones$Rough;Ljava/util/ArrayList;LRoughStones$Prices;)V"⟩
abbrev cX7_offerWays : ByteArray := prog_9_method_3_code
def yX7_offerWays : MethodName := ⟨RX7, "offerWays", "(LRoughStones$Rough;LRoughStones$Model;)V"⟩
abbrev cX7_isWanted : ByteArray := prog_9_method_4_code
def yX7_isWanted : MethodName := ⟨RX7, "isWanted", "()Z"⟩
abbrev cX7_offerTo : ByteArray := prog_9_method_5_code
def yX7_offerTo : MethodName := ⟨RX7, "offerTo", "(LRoughStones$Part;LRoughStones$Model;)V"⟩
abbrev cX7_firstWithin : ByteArray := prog_9_method_6_code
def yX7_firstWithin : MethodName := ⟨RX7, "firstWithin", "(LRoughStones$Part;)I"⟩
abbrev cX7_choose : ByteArray := prog_9_method_7_code
def yX7_choose : MethodName := ⟨RX7, "choose", "(LRoughStones$Rough;)V"⟩
abbrev cX7_search : ByteArray := prog_9_method_8_code
def yX7_search : MethodName := ⟨RX7, "search", "([JLRoughStones$Model;II)Z"⟩
abbrev cX7_startsInRow : ByteArray := prog_9_method_9_code
def yX7_startsInRow : MethodName := ⟨RX7, "startsInRow", "([J[JIJ)J"⟩
abbrev cX7_startsOnSound : ByteArray := prog_9_method_10_code
def yX7_startsOnSound : MethodName := ⟨RX7, "startsOnSound", "(JJJ)J"⟩
def RX8 : String := "RoughStones$Stone"
def TX8 : u_T := fun k => match k with
  | 0 => ("RoughStones$Stone", "rough", "I", true)
  | 1 => ("RoughStones$Stone", "model", "I", true)
  | 2 => ("RoughStones$Stone", "grains", "I", false)
  | 3 => ("RoughStones$Stone", "polished", "Z", false)
  | 4 => ("RoughStones$Stone", "mate", "I", false)
  | 5 => ("RoughStones$Stone", "lot", "I", false)
  | 6 => ("RoughStones$Stone", "buyer", "I", false)
  | 7 => ("RoughStones$Stone", "facets", "I", false)
  | 8 => ("RoughStones$Stone", "index", "[I", true)
  | 9 => ("RoughStones$Stone", "angle", "[I", true)
  | 10 => ("RoughStones$Stone", "planned", "I", false)
  | 11 => ("RoughStones$Stone", "length", "I", false)
  | _ => ("RoughStones$Stone", "order", "[I", true)
def tyX8 : Nat → FieldType := fun k => match k with
  | 0 => .int
  | 1 => .int
  | 2 => .int
  | 3 => .boolean
  | 4 => .int
  | 5 => .int
  | 6 => .int
  | 7 => .int
  | 8 => .array .int
  | 9 => .array .int
  | 10 => .int
  | 11 => .int
  | _ => .array .int
abbrev wsX80 : List Cond := u_ws RX8 TX8 13
theorem nmX8 : ∀ a, a < 13 → ∀ b, b < 13 → a ≠ b → (TX8 a).2.1 ≠ (TX8 b).2.1 := by decide +kernel
theorem tyX8_ok : ∀ k, k < 13 → parseFieldDescriptor (TX8 k).2.2.1 = some (tyX8 k) := by decide +kernel
abbrev cX8_init : ByteArray := prog_10_method_1_code
def yX8_init : MethodName := ⟨RX8, "<init>", "(ILRoughStones$Cut;)V"⟩
abbrev cX8_grind : ByteArray := prog_10_method_2_code
def yX8_grind : MethodName := ⟨RX8, "grind", "()V"⟩
abbrev cX8_tell : ByteArray := prog_10_method_3_code
def yX8_tell : MethodName := ⟨RX8, "tell", "(I)I"⟩
def RX9 : String := "RoughStones$Tape"
def TX9 : u_T := fun k => match k with
  | 0 => ("RoughStones$Tape", "bytes", "[I", true)
  | 1 => ("RoughStones$Tape", "length", "I", false)
  | 2 => ("RoughStones$Tape", "at", "I", false)
  | 3 => ("RoughStones$Tape", "end", "I", false)
  | 4 => ("RoughStones$Tape", "layers", "I", false)
  | 5 => ("RoughStones$Tape", "left", "[I", true)
  | 6 => ("RoughStones$Tape", "front", "[I", true)
  | 7 => ("RoughStones$Tape", "wide", "[I", true)
  | _ => ("RoughStones$Tape", "deep", "[I", true)
def tyX9 : Nat → FieldType := fun k => match k with
  | 0 => .array .int
  | 1 => .int
  | 2 => .int
  | 3 => .int
  | 4 => .int
  | 5 => .array .int
  | 6 => .array .int
  | 7 => .array .int
  | _ => .array .int
abbrev wsX90 : List Cond := u_ws RX9 TX9 9
theorem nmX9 : ∀ a, a < 9 → ∀ b, b < 9 → a ≠ b → (TX9 a).2.1 ≠ (TX9 b).2.1 := by decide +kernel
theorem tyX9_ok : ∀ k, k < 9 → parseFieldDescriptor (TX9 k).2.2.1 = some (tyX9 k) := by decide +kernel
abbrev cX9_init : ByteArray := prog_11_method_1_code
def yX9_init : MethodName := ⟨RX9, "<init>", "()V"⟩
abbrev cX9_append : ByteArray := prog_11_method_2_code
def yX9_append : MethodName := ⟨RX9, "append", "(I)V"⟩
abbrev cX9_readModel : ByteArray := prog_11_method_3_code
def yX9_readModel : MethodName := ⟨RX9, "readModel", "(I)Z"⟩
abbrev cX9_readLayer : ByteArray := prog_11_method_4_code
def yX9_readLayer : MethodName := ⟨RX9, "readLayer", "(I)Z"⟩
abbrev cX9_readDigit : ByteArray := prog_11_method_5_code
def yX9_readDigit : MethodName := ⟨RX9, "readDigit", "(II)I"⟩
abbrev cX9_readSign : ByteArray := prog_11_method_6_code
def yX9_readSign : MethodName := ⟨RX9, "readSign", "(I)Z"⟩
abbrev cX9_isEnd : ByteArray := prog_11_method_7_code
def yX9_isEnd : MethodName := ⟨RX9, "isEnd", "()Z"⟩
def RX10 : String := "RoughStones$Wheel"
def TX10 : u_T := fun k => match k with
  | 0 => ("RoughStones$Wheel", "rest", "[I", true)
  | 1 => ("RoughStones$Wheel", "apart", "[I", true)
  | _ => ("RoughStones$Wheel", "start", "[I", true)
def tyX10 : Nat → FieldType := fun k => match k with
  | 0 => .array .int
  | 1 => .array .int
  | _ => .array .int
abbrev wsX100 : List Cond := u_ws RX10 TX10 3
theorem nmX10 : ∀ a, a < 3 → ∀ b, b < 3 → a ≠ b → (TX10 a).2.1 ≠ (TX10 b).2.1 := by decide +kernel
theorem tyX10_ok : ∀ k, k < 3 → parseFieldDescriptor (TX10 k).2.2.1 = some (tyX10 k) := by decide +kernel
abbrev cX10_init : ByteArray := prog_12_method_1_code
def yX10_init : MethodName := ⟨RX10, "<init>", "()V"⟩
abbrev cX10_layPlan : ByteArray := prog_12_method_2_code
def yX10_layPlan : MethodName := ⟨RX10, "layPlan", "(LRoughStones$Stone;)V"⟩
abbrev cX10_measure : ByteArray := prog_12_method_3_code
def yX10_measure : MethodName := ⟨RX10, "measure", "(LRoughStones$Stone;I)V"⟩
abbrev cX10_way : ByteArray := prog_12_method_4_code
def yX10_way : MethodName := ⟨RX10, "way", "(II)I"⟩
abbrev cX10_shortest : ByteArray := prog_12_method_5_code
def yX10_shortest : MethodName := ⟨RX10, "shortest", "(III)I"⟩
abbrev cX10_through : ByteArray := prog_12_method_6_code
def yX10_through : MethodName := ⟨RX10, "through", "(III)I"⟩
abbrev cX10_follow : ByteArray := prog_12_method_7_code
def yX10_follow : MethodName := ⟨RX10, "follow", "(LRoughStones$Stone;I)V"⟩
abbrev cX10_firstOfShortest : ByteArray := prog_12_method_8_code
def yX10_firstOfShortest : MethodName := ⟨RX10, "firstOfShortest", "(III)I"⟩
def RX11 : String := "RoughStones"
def TX11 : u_T := fun k => match k with
  | 0 => ("RoughStones", "roughs", "Ljava/util/ArrayList;", true)
  | 1 => ("RoughStones", "models", "Ljava/util/ArrayList;", true)
  | 2 => ("RoughStones", "stones", "Ljava/util/ArrayList;", true)
  | 3 => ("RoughStones", "tape", "LRoughStones$Tape;", true)
  | 4 => ("RoughStones", "prices", "LRoughStones$Prices;", true)
  | 5 => ("RoughStones", "saw", "LRoughStones$Saw;", true)
  | 6 => ("RoughStones", "wheel", "LRoughStones$Wheel;", true)
  | 7 => ("RoughStones", "matcher", "LRoughStones$Matcher;", true)
  | 8 => ("RoughStones", "auction", "LRoughStones$Auction;", true)
  | _ => ("RoughStones", "brought", "I", false)
def tyX11 : Nat → FieldType := fun k => match k with
  | 0 => .object "java/util/ArrayList"
  | 1 => .object "java/util/ArrayList"
  | 2 => .object "java/util/ArrayList"
  | 3 => .object "RoughStones$Tape"
  | 4 => .object "RoughStones$Prices"
  | 5 => .object "RoughStones$Saw"
  | 6 => .object "RoughStones$Wheel"
  | 7 => .object "RoughStones$Matcher"
  | 8 => .object "RoughStones$Auction"
  | _ => .int
abbrev wsX110 : List Cond := u_ws RX11 TX11 10
theorem nmX11 : ∀ a, a < 10 → ∀ b, b < 10 → a ≠ b → (TX11 a).2.1 ≠ (TX11 b).2.1 := by decide +kernel
theorem tyX11_ok : ∀ k, k < 10 → parseFieldDescriptor (TX11 k).2.2.1 = some (tyX11 k) := by decide +kernel
abbrev cX11_init : ByteArray := prog_1_method_1_code
def yX11_init : MethodName := ⟨RX11, "<init>", "()V"⟩
abbrev cX11_rough : ByteArray := prog_1_method_2_code
def yX11_rough : MethodName := ⟨RX11, "rough", "()I"⟩
abbrev cX11_scan : ByteArray := prog_1_method_3_code
def yX11_scan : MethodName := ⟨RX11, "scan", "(IIJJ)I"⟩
abbrev cX11_stuff : ByteArray := prog_1_method_4_code
def yX11_stuff : MethodName := ⟨RX11, "stuff", "(I)I"⟩
abbrev cX11_feed : ByteArray := prog_1_method_5_code
def yX11_feed : MethodName := ⟨RX11, "feed", "(IIIII)I"⟩
abbrev cX11_model : ByteArray := prog_1_method_6_code
def yX11_model : MethodName := ⟨RX11, "model", "(I)I"⟩
abbrev cX11_price : ByteArray := prog_1_method_7_code
def yX11_price : MethodName := ⟨RX11, "price", "(II)I"⟩
abbrev cX11_worth : ByteArray := prog_1_method_8_code
def yX11_worth : MethodName := ⟨RX11, "worth", "(I)I"⟩
abbrev cX11_fit : ByteArray := prog_1_method_9_code
def yX11_fit : MethodName := ⟨RX11, "fit", "(III)I"⟩
abbrev cX11_best : ByteArray := prog_1_method_10_code
def yX11_best : MethodName := ⟨RX11, "best", "(I)I"⟩
abbrev cX11_sawn : ByteArray := prog_1_method_11_code
def yX11_sawn : MethodName := ⟨RX11, "sawn", "(II)I"⟩
abbrev cX11_cut : ByteArray := prog_1_method_12_code
def yX11_cut : MethodName := ⟨RX11, "cut", "(III)I"⟩
abbrev cX11_done : ByteArray := prog_1_method_13_code
def yX11_done : MethodName := ⟨RX11, "done", "(I)I"⟩
abbrev cX11_facet : ByteArray := prog_1_method_14_code
def yX11_facet : MethodName := ⟨RX11, "facet", "(III)I"⟩
abbrev cX11_round : ByteArray := prog_1_method_15_code
def yX11_round : MethodName := ⟨RX11, "round", "(I)I"⟩
abbrev cX11_plan : ByteArray := prog_1_method_16_code
def yX11_plan : MethodName := ⟨RX11, "plan", "(II)I"⟩
abbrev cX11_polish : ByteArray := prog_1_method_17_code
def yX11_polish : MethodName := ⟨RX11, "polish", "(I)I"⟩
abbrev cX11_told : ByteArray := prog_1_method_18_code
def yX11_told : MethodName := ⟨RX11, "told", "(II)I"⟩
abbrev cX11_match : ByteArray := prog_1_method_19_code
def yX11_match : MethodName := ⟨RX11, "match", "()I"⟩
abbrev cX11_lot : ByteArray := prog_1_method_20_code
def yX11_lot : MethodName := ⟨RX11, "lot", "(II)I"⟩
abbrev cX11_bid : ByteArray := prog_1_method_21_code
def yX11_bid : MethodName := ⟨RX11, "bid", "(III)I"⟩
abbrev cX11_most : ByteArray := prog_1_method_22_code
def yX11_most : MethodName := ⟨RX11, "most", "(II)I"⟩
abbrev cX11_sell : ByteArray := prog_1_method_23_code
def yX11_sell : MethodName := ⟨RX11, "sell", "()I"⟩
abbrev cX11_count : ByteArray := prog_1_method_24_code
def yX11_count : MethodName := ⟨RX11, "count", "(I)I"⟩
abbrev cX11_roughOf : ByteArray := prog_1_method_25_code
def yX11_roughOf : MethodName := ⟨RX11, "roughOf", "(I)LRoughStones$Rough;"⟩
abbrev cX11_sawnRough : ByteArray := prog_1_method_26_code
def yX11_sawnRough : MethodName := ⟨RX11, "sawnRough", "(I)LRoughStones$Rough;"⟩
abbrev cX11_forgetCuts : ByteArray := prog_1_method_27_code
def yX11_forgetCuts : MethodName := ⟨RX11, "forgetCuts", "()V"⟩
abbrev cX11_stoneOf : ByteArray := prog_1_method_28_code
def yX11_stoneOf : MethodName := ⟨RX11, "stoneOf", "(I)LRoughStones$Stone;"⟩
abbrev cX11_plannedStone : ByteArray := prog_1_method_29_code
def yX11_plannedStone : MethodName := ⟨RX11, "plannedStone", "(I)LRoughStones$Stone;"⟩
abbrev cX11_stoneBits : ByteArray := prog_1_method_30_code
def yX11_stoneBits : MethodName := ⟨RX11, "stoneBits", "(II)J"⟩
abbrev cX11_hasTaken : ByteArray := prog_1_method_31_code
def yX11_hasTaken : MethodName := ⟨RX11, "hasTaken", "(J)Z"⟩
abbrev cX11_partsPair : ByteArray := prog_1_method_32_code
def yX11_partsPair : MethodName := ⟨RX11, "partsPair", "(J)Z"⟩
abbrev cX11_soldStones : ByteArray := prog_1_method_33_code
def yX11_soldStones : MethodName := ⟨RX11, "soldStones", "()I"⟩
abbrev cX11_refuseNoBidder : ByteArray := prog_1_method_34_code
def yX11_refuseNoBidder : MethodName := ⟨RX11, "refuseNoBidder", "(I)V"⟩
abbrev cX11_isNoLayer : ByteArray := prog_1_method_35_code
def yX11_isNoLayer : MethodName := ⟨RX11, "isNoLayer", "(J)Z"⟩
abbrev cX11_holds : ByteArray := prog_1_method_36_code
def yX11_holds : MethodName := ⟨RX11, "holds", "(JI)Z"⟩
abbrev cX11_lowestBit : ByteArray := prog_1_method_37_code
def yX11_lowestBit : MethodName := ⟨RX11, "lowestBit", "(J)I"⟩
def RX12 : String := "RoughStonesModel"
def TX12 : u_T := fun k => match k with
  | 0 => ("RoughStonesModel", "thrown", "I", false)
  | 1 => ("RoughStonesModel", "roughs", "I", false)
  | 2 => ("RoughStonesModel", "sound", "[I", true)
  | 3 => ("RoughStonesModel", "taped", "I", false)
  | 4 => ("RoughStonesModel", "size", "I", false)
  | 5 => ("RoughStonesModel", "at", "I", false)
  | 6 => ("RoughStonesModel", "bad", "I", false)
  | 7 => ("RoughStonesModel", "models", "I", false)
  | 8 => ("RoughStonesModel", "tape", "[I", true)
  | 9 => ("RoughStonesModel", "weight", "[I", true)
  | 10 => ("RoughStonesModel", "layers", "[I", true)
  | 11 => ("RoughStonesModel", "cellX", "[I", true)
  | 12 => ("RoughStonesModel", "cellY", "[I", true)
  | 13 => ("RoughStonesModel", "cellZ", "[I", true)
  | 14 => ("RoughStonesModel", "steps", "I", false)
  | 15 => ("RoughStonesModel", "stepFrom", "[I", true)
  | 16 => ("RoughStonesModel", "stepPrice", "[I", true)
  | 17 => ("RoughStonesModel", "low", "[I", true)
  | 18 => ("RoughStonesModel", "high", "[I", true)
  | 19 => ("RoughStonesModel", "part", "[I", true)
  | 20 => ("RoughStonesModel", "least", "[I", true)
  | 21 => ("RoughStonesModel", "most3", "[I", true)
  | 22 => ("RoughStonesModel", "foundA", "I", false)
  | 23 => ("RoughStonesModel", "foundB", "I", false)
  | 24 => ("RoughStonesModel", "foundC", "I", false)
  | 25 => ("RoughStonesModel", "cut", "[I", true)
  | 26 => ("RoughStonesModel", "lower", "[I", true)
  | 27 => ("RoughStonesModel", "best", "[I", true)
  | 28 => ("RoughStonesModel", "bestAxis", "I", false)
  | 29 => ("RoughStonesModel", "bestAt", "I", false)
  | 30 => ("RoughStonesModel", "bestCuts", "I", false)
  | 31 => ("RoughStonesModel", "bestWorth", "I", false)
  | 32 => ("RoughStonesModel", "stones", "I", false)
  | 33 => ("RoughStonesModel", "grains", "[I", true)
  | 34 => ("RoughStonesModel", "ofRough", "[I", true)
  | 35 => ("RoughStonesModel", "ofModel", "[I", true)
  | 36 => ("RoughStonesModel", "facets", "[I", true)
  | 37 => ("RoughStonesModel", "index", "[I", true)
  | 38 => ("RoughStonesModel", "angle", "[I", true)
  | 39 => ("RoughStonesModel", "pair", "[I", true)
  | 40 => ("RoughStonesModel", "lotOf", "[I", true)
  | 41 => ("RoughStonesModel", "buyer", "[I", true)
  | 42 => ("RoughStonesModel", "isPolished", "[Z", true)
  | 43 => ("RoughStonesModel", "rest", "[I", true)
  | 44 => ("RoughStonesModel", "order", "[I", true)
  | 45 => ("RoughStonesModel", "tens", "I", false)
  | 46 => ("RoughStonesModel", "matchPairs", "I", false)
  | 47 => ("RoughStonesModel", "matchOff", "I", false)
  | 48 => ("RoughStonesModel", "ten", "[I", true)
  | 49 => ("RoughStonesModel", "with", "[I", true)
  | 50 => ("RoughStonesModel", "bestWith", "[I", true)
  | 51 => ("RoughStonesModel", "lots", "I", false)
  | 52 => ("RoughStonesModel", "brought", "I", false)
  | 53 => ("RoughStonesModel", "bids", "[I", true)
  | 54 => ("RoughStonesModel", "most", "[I", true)
  | 55 => ("RoughStonesModel", "digits", "[I", true)
  | 56 => ("RoughStonesModel", "bestDigits", "[I", true)
  | _ => ("RoughStonesModel", "used", "[I", true)
def tyX12 : Nat → FieldType := fun k => match k with
  | 0 => .int
  | 1 => .int
  | 2 => .array .int
  | 3 => .int
  | 4 => .int
  | 5 => .int
  | 6 => .int
  | 7 => .int
  | 8 => .array .int
  | 9 => .array .int
  | 10 => .array .int
  | 11 => .array .int
  | 12 => .array .int
  | 13 => .array .int
  | 14 => .int
  | 15 => .array .int
  | 16 => .array .int
  | 17 => .array .int
  | 18 => .array .int
  | 19 => .array .int
  | 20 => .array .int
  | 21 => .array .int
  | 22 => .int
  | 23 => .int
  | 24 => .int
  | 25 => .array .int
  | 26 => .array .int
  | 27 => .array .int
  | 28 => .int
  | 29 => .int
  | 30 => .int
  | 31 => .int
  | 32 => .int
  | 33 => .array .int
  | 34 => .array .int
  | 35 => .array .int
  | 36 => .array .int
  | 37 => .array .int
  | 38 => .array .int
  | 39 => .array .int
  | 40 => .array .int
  | 41 => .array .int
  | 42 => .array .boolean
  | 43 => .array .int
  | 44 => .array .int
  | 45 => .int
  | 46 => .int
  | 47 => .int
  | 48 => .array .int
  | 49 => .array .int
  | 50 => .array .int
  | 51 => .int
  | 52 => .int
  | 53 => .array .int
  | 54 => .array .int
  | 55 => .array .int
  | 56 => .array .int
  | _ => .array .int
abbrev wsX120 : List Cond := u_ws RX12 TX12 58
theorem nmX12 : ∀ a, a < 58 → ∀ b, b < 58 → a ≠ b → (TX12 a).2.1 ≠ (TX12 b).2.1 := by decide +kernel
theorem tyX12_ok : ∀ k, k < 58 → parseFieldDescriptor (TX12 k).2.2.1 = some (tyX12 k) := by decide +kernel
abbrev cX12_thrown : ByteArray := prog_14_method_1_code
def yX12_thrown : MethodName := ⟨RX12, "thrown", "()I"⟩
abbrev cX12_may : ByteArray := prog_14_method_2_code
def yX12_may : MethodName := ⟨RX12, "may", "(ZI)Z"⟩
abbrev cX12_within : ByteArray := prog_14_method_3_code
def yX12_within : MethodName := ⟨RX12, "within", "(III)Z"⟩
abbrev cX12_init : ByteArray := prog_14_method_4_code
def yX12_init : MethodName := ⟨RX12, "<init>", "()V"⟩
abbrev cX12_rough : ByteArray := prog_14_method_5_code
def yX12_rough : MethodName := ⟨RX12, "rough", "()I"⟩
abbrev cX12_isRough : ByteArray := prog_14_method_6_code
def yX12_isRough : MethodName := ⟨RX12, "isRough", "(I)Z"⟩
abbrev cX12_scan : ByteArray := prog_14_method_7_code
def yX12_scan : MethodName := ⟨RX12, "scan", "(IIJJ)I"⟩
abbrev cX12_stuff : ByteArray := prog_14_method_8_code
def yX12_stuff : MethodName := ⟨RX12, "stuff", "(I)I"⟩
abbrev cX12_feed : ByteArray := prog_14_method_9_code
def yX12_feed : MethodName := ⟨RX12, "feed", "(IIIII)I"⟩
abbrev cX12_fine : ByteArray := prog_14_method_10_code
def yX12_fine : MethodName := ⟨RX12, "fine", "()Z"⟩
abbrev cX12_wrong : ByteArray := prog_14_method_11_code
def yX12_wrong : MethodName := ⟨RX12, "wrong", "(I)V"⟩
abbrev cX12_here : ByteArray := prog_14_method_12_code
def yX12_here : MethodName := ⟨RX12, "here", "()I"⟩
abbrev cX12_digit : ByteArray := prog_14_method_13_code
def yX12_digit : MethodName := ⟨RX12, "digit", "(II)I"⟩
abbrev cX12_need : ByteArray := prog_14_method_14_code
def yX12_need : MethodName := ⟨RX12, "need", "(I)V"⟩
abbrev cX12_isMore : ByteArray := prog_14_method_15_code
def yX12_isMore : MethodName := ⟨RX12, "isMore", "()Z"⟩
abbrev cX12_layer : ByteArray := prog_14_method_16_code
def yX12_layer : MethodName := ⟨RX12, "layer", "()V"⟩
abbrev cX12_model : ByteArray := prog_14_method_17_code
def yX12_model : MethodName := ⟨RX12, "model", "(I)I"⟩
abbrev cX12_isModel : ByteArray := prog_14_method_18_code
def yX12_isModel : MethodName := ⟨RX12, "isModel", "(I)Z"⟩
abbrev cX12_price : ByteArray := prog_14_method_19_code
def yX12_price : MethodName := ⟨RX12, "price", "(II)I"⟩
abbrev cX12_worthOf : ByteArray := prog_14_method_20_code
def yX12_worthOf : MethodName := ⟨RX12, "worthOf", "(I)I"⟩
abbrev cX12_worth : ByteArray := prog_14_method_21_code
def yX12_worth : MethodName := ⟨RX12, "worth", "(I)I"⟩
abbrev cX12_laid : ByteArray := prog_14_method_22_code
def yX12_laid : MethodName := ⟨RX12, "laid", "(III)I"⟩
abbrev cX12_setPart : ByteArray := prog_14_method_23_code
def yX12_setPart : MethodName := ⟨RX12, "setPart", "(IIII)V"⟩
abbrev cX12_isThere : ByteArray := prog_14_method_24_code
def yX12_isThere : MethodName := ⟨RX12, "isThere", "(IIIIII)Z"⟩
abbrev cX12_isFitting : ByteArray := prog_14_method_25_code
def yX12_isFitting : MethodName := ⟨RX12, "isFitting", "(III)Z"⟩
abbrev cX12_fit : ByteArray := prog_14_method_26_code
def yX12_fit : MethodName := ⟨RX12, "fit", "(III)I"⟩
abbrev cX12_findCut : ByteArray := prog_14_method_27_code
def yX12_findCut : MethodName := ⟨RX12, "findCut", "()I"⟩
abbrev cX12_keepCut : ByteArray := prog_14_method_28_code
def yX12_keepCut : MethodName := ⟨RX12, "keepCut", "([I)V"⟩
abbrev cX12_findBest : ByteArray := prog_14_method_29_code
def yX12_findBest : MethodName := ⟨RX12, "findBest", "(I)V"⟩
abbrev cX12_best : ByteArray := prog_14_method_30_code
def yX12_best : MethodName := ⟨RX12, "best", "(I)I"⟩
abbrev cX12_sawn : ByteArray := prog_14_method_31_code
def yX12_sawn : MethodName := ⟨RX12, "sawn", "(II)I"⟩
abbrev cX12_cut : ByteArray := prog_14_method_32_code
def yX12_cut : MethodName := ⟨RX12, "cut", "(III)I"⟩
abbrev cX12_done : ByteArray := prog_14_method_33_code
def yX12_done : MethodName := ⟨RX12, "done", "(I)I"⟩
abbrev cX12_isStone : ByteArray := prog_14_method_34_code
def yX12_isStone : MethodName := ⟨RX12, "isStone", "(I)Z"⟩
abbrev cX12_facet : ByteArray := prog_14_method_35_code
def yX12_facet : MethodName := ⟨RX12, "facet", "(III)I"⟩
abbrev cX12_off : ByteArray := prog_14_method_36_code
def yX12_off : MethodName := ⟨RX12, "off", "(I)I"⟩
abbrev cX12_way : ByteArray := prog_14_method_37_code
def yX12_way : MethodName := ⟨RX12, "way", "(IIII)I"⟩
abbrev cX12_between : ByteArray := prog_14_method_38_code
def yX12_between : MethodName := ⟨RX12, "between", "(III)I"⟩
abbrev cX12_first : ByteArray := prog_14_method_39_code
def yX12_first : MethodName := ⟨RX12, "first", "(II)I"⟩
abbrev cX12_findPlan : ByteArray := prog_14_method_40_code
def yX12_findPlan : MethodName := ⟨RX12, "findPlan", "(I)I"⟩
abbrev cX12_round : ByteArray := prog_14_method_41_code
def yX12_round : MethodName := ⟨RX12, "round", "(I)I"⟩
abbrev cX12_plan : ByteArray := prog_14_method_42_code
def yX12_plan : MethodName := ⟨RX12, "plan", "(II)I"⟩
abbrev cX12_polish : ByteArray := prog_14_method_43_code
def yX12_polish : MethodName := ⟨RX12, "polish", "(I)I"⟩
abbrev cX12_told : ByteArray := prog_14_method_44_code
def yX12_told : MethodName := ⟨RX12, "told", "(II)I"⟩
abbrev cX12_isPair : ByteArray := prog_14_method_45_code
def yX12_isPair : MethodName := ⟨RX12, "isPair", "(II)Z"⟩
abbrev cX12_isAhead : ByteArray := prog_14_method_46_code
def yX12_isAhead : MethodName := ⟨RX12, "isAhead", "()Z"⟩
abbrev cX12_tryPairs : ByteArray := prog_14_method_47_code
def yX12_tryPairs : MethodName := ⟨RX12, "tryPairs", "(III)V"⟩
abbrev cX12_match : ByteArray := prog_14_method_48_code
def yX12_match : MethodName := ⟨RX12, "match", "()I"⟩
abbrev cX12_lot : ByteArray := prog_14_method_49_code
def yX12_lot : MethodName := ⟨RX12, "lot", "(II)I"⟩
abbrev cX12_bid : ByteArray := prog_14_method_50_code
def yX12_bid : MethodName := ⟨RX12, "bid", "(III)I"⟩
abbrev cX12_most : ByteArray := prog_14_method_51_code
def yX12_most : MethodName := ⟨RX12, "most", "(II)I"⟩
abbrev cX12_sell : ByteArray := prog_14_method_52_code
def yX12_sell : MethodName := ⟨RX12, "sell", "()I"⟩
abbrev cX12_count : ByteArray := prog_14_method_53_code
def yX12_count : MethodName := ⟨RX12, "count", "(I)I"⟩
def RJx145de : String := "java/io/Serializable"
def TJx145de : u_T := fun k => match k with
  | _ => ("", "", "", false)
def tyJx145de : Nat → FieldType := fun k => match k with
  | _ => .int
abbrev wsJx145de0 : List Cond := u_ws RJx145de TJx145de 0
theorem nmJx145de : ∀ a, a < 0 → ∀ b, b < 0 → a ≠ b → (TJx145de a).2.1 ≠ (TJx145de b).2.1 := by decide +kernel
theorem tyJx145de_ok : ∀ k, k < 0 → parseFieldDescriptor (TJx145de k).2.2.1 = some (tyJx145de k) := by decide +kernel
def RJx8e188 : String := "java/lang/Cloneable"
def TJx8e188 : u_T := fun k => match k with
  | _ => ("", "", "", false)
def tyJx8e188 : Nat → FieldType := fun k => match k with
  | _ => .int
abbrev wsJx8e1880 : List Cond := u_ws RJx8e188 TJx8e188 0
theorem nmJx8e188 : ∀ a, a < 0 → ∀ b, b < 0 → a ≠ b → (TJx8e188 a).2.1 ≠ (TJx8e188 b).2.1 := by decide +kernel
theorem tyJx8e188_ok : ∀ k, k < 0 → parseFieldDescriptor (TJx8e188 k).2.2.1 = some (tyJx8e188 k) := by decide +kernel
def RJxab1ab : String := "java/lang/Iterable"
def TJxab1ab : u_T := fun k => match k with
  | _ => ("", "", "", false)
def tyJxab1ab : Nat → FieldType := fun k => match k with
  | _ => .int
abbrev wsJxab1ab0 : List Cond := u_ws RJxab1ab TJxab1ab 0
theorem nmJxab1ab : ∀ a, a < 0 → ∀ b, b < 0 → a ≠ b → (TJxab1ab a).2.1 ≠ (TJxab1ab b).2.1 := by decide +kernel
theorem tyJxab1ab_ok : ∀ k, k < 0 → parseFieldDescriptor (TJxab1ab k).2.2.1 = some (tyJxab1ab k) := by decide +kernel
def RJ13 : String := "java/lang/Long"
def TJ13 : u_T := fun k => match k with
  | _ => ("", "", "", false)
def tyJ13 : Nat → FieldType := fun k => match k with
  | _ => .int
abbrev wsJ130 : List Cond := u_ws RJ13 TJ13 0
theorem nmJ13 : ∀ a, a < 0 → ∀ b, b < 0 → a ≠ b → (TJ13 a).2.1 ≠ (TJ13 b).2.1 := by decide +kernel
theorem tyJ13_ok : ∀ k, k < 0 → parseFieldDescriptor (TJ13 k).2.2.1 = some (tyJ13 k) := by decide +kernel
abbrev cJ13_bitCount_95d88 : ByteArray := prog_22_method_50_code
def yJ13_bitCount_95d88 : MethodName := ⟨RJ13, "bitCount", "(J)I"⟩
def RJ9 : String := "java/lang/Math"
def TJ9 : u_T := fun k => match k with
  | _ => ("", "", "", false)
def tyJ9 : Nat → FieldType := fun k => match k with
  | _ => .int
abbrev wsJ90 : List Cond := u_ws RJ9 TJ9 0
theorem nmJ9 : ∀ a, a < 0 → ∀ b, b < 0 → a ≠ b → (TJ9 a).2.1 ≠ (TJ9 b).2.1 := by decide +kernel
theorem tyJ9_ok : ∀ k, k < 0 → parseFieldDescriptor (TJ9 k).2.2.1 = some (tyJ9 k) := by decide +kernel
abbrev cJ9_abs_0f7a4 : ByteArray := prog_23_method_59_code
def yJ9_abs_0f7a4 : MethodName := ⟨RJ9, "abs", "(I)I"⟩
abbrev cJ9_max_7cf53 : ByteArray := prog_23_method_65_code
def yJ9_max_7cf53 : MethodName := ⟨RJ9, "max", "(II)I"⟩
abbrev cJ9_min_7cf53 : ByteArray := prog_23_method_69_code
def yJ9_min_7cf53 : MethodName := ⟨RJ9, "min", "(II)I"⟩
def RJ0 : String := "java/lang/String"
def TJ0 : u_T := fun k => match k with
  | _ => ("", "", "", false)
def tyJ0 : Nat → FieldType := fun k => match k with
  | _ => .int
abbrev wsJ00 : List Cond := u_ws RJ0 TJ0 0
theorem nmJ0 : ∀ a, a < 0 → ∀ b, b < 0 → a ≠ b → (TJ0 a).2.1 ≠ (TJ0 b).2.1 := by decide +kernel
theorem tyJ0_ok : ∀ k, k < 0 → parseFieldDescriptor (TJ0 k).2.2.1 = some (tyJ0 k) := by decide +kernel
def RJ10 : String := "java/lang/System"
def TJ10 : u_T := fun k => match k with
  | _ => ("", "", "", false)
def tyJ10 : Nat → FieldType := fun k => match k with
  | _ => .int
abbrev wsJ100 : List Cond := u_ws RJ10 TJ10 0
theorem nmJ10 : ∀ a, a < 0 → ∀ b, b < 0 → a ≠ b → (TJ10 a).2.1 ≠ (TJ10 b).2.1 := by decide +kernel
theorem tyJ10_ok : ∀ k, k < 0 → parseFieldDescriptor (TJ10 k).2.2.1 = some (tyJ10 k) := by decide +kernel
def RJxa1e45 : String := "java/util/AbstractCollection"
def TJxa1e45 : u_T := fun k => match k with
  | _ => ("", "", "", false)
def tyJxa1e45 : Nat → FieldType := fun k => match k with
  | _ => .int
abbrev wsJxa1e450 : List Cond := u_ws RJxa1e45 TJxa1e45 0
theorem nmJxa1e45 : ∀ a, a < 0 → ∀ b, b < 0 → a ≠ b → (TJxa1e45 a).2.1 ≠ (TJxa1e45 b).2.1 := by decide +kernel
theorem tyJxa1e45_ok : ∀ k, k < 0 → parseFieldDescriptor (TJxa1e45 k).2.2.1 = some (tyJxa1e45 k) := by decide +kernel
abbrev cJxa1e45_init_da8c8 : ByteArray := prog_28_method_1_code
def yJxa1e45_init_da8c8 : MethodName := ⟨RJxa1e45, "<init>", "()V"⟩
def RJxc12de : String := "java/util/AbstractList"
def TJxc12de : u_T := fun k => match k with
  | _ => ("", "", "", false)
def tyJxc12de : Nat → FieldType := fun k => match k with
  | _ => .int
abbrev wsJxc12de0 : List Cond := u_ws RJxc12de TJxc12de 0
theorem nmJxc12de : ∀ a, a < 0 → ∀ b, b < 0 → a ≠ b → (TJxc12de a).2.1 ≠ (TJxc12de b).2.1 := by decide +kernel
theorem tyJxc12de_ok : ∀ k, k < 0 → parseFieldDescriptor (TJxc12de k).2.2.1 = some (tyJxc12de k) := by decide +kernel
abbrev cJxc12de_init_da8c8 : ByteArray := prog_29_method_1_code
def yJxc12de_init_da8c8 : MethodName := ⟨RJxc12de, "<init>", "()V"⟩
def RJx4a65c : String := "java/util/ArrayList"
def TJx4a65c : u_T := fun k => match k with
  | 0 => ("java/util/AbstractList", "modCount", "I", false)
  | 1 => ("java/util/ArrayList", "elementData", "[Ljava/lang/Object;", false)
  | _ => ("java/util/ArrayList", "size", "I", false)
def tyJx4a65c : Nat → FieldType := fun k => match k with
  | 0 => .int
  | 1 => .array (.object "java/lang/Object")
  | _ => .int
abbrev wsJx4a65c0 : List Cond := u_ws RJx4a65c TJx4a65c 3
theorem nmJx4a65c : ∀ a, a < 3 → ∀ b, b < 3 → a ≠ b → (TJx4a65c a).2.1 ≠ (TJx4a65c b).2.1 := by decide +kernel
theorem tyJx4a65c_ok : ∀ k, k < 3 → parseFieldDescriptor (TJx4a65c k).2.2.1 = some (tyJx4a65c k) := by decide +kernel
abbrev cJx4a65c_init_da8c8 : ByteArray := prog_30_method_2_code
def yJx4a65c_init_da8c8 : MethodName := ⟨RJx4a65c, "<init>", "()V"⟩
abbrev cJx4a65c_grow_92f84 : ByteArray := prog_30_method_6_code
def yJx4a65c_grow_92f84 : MethodName := ⟨RJx4a65c, "grow", "(I)[Ljava/lang/Object;"⟩
abbrev cJx4a65c_grow_d5877 : ByteArray := prog_30_method_7_code
def yJx4a65c_grow_d5877 : MethodName := ⟨RJx4a65c, "grow", "()[Ljava/lang/Object;"⟩
abbrev cJx4a65c_size_8abf5 : ByteArray := prog_30_method_8_code
def yJx4a65c_size_8abf5 : MethodName := ⟨RJx4a65c, "size", "()I"⟩
abbrev cJx4a65c_elementData_915e3 : ByteArray := prog_30_method_18_code
def yJx4a65c_elementData_915e3 : MethodName := ⟨RJx4a65c, "elementData", "(I)Ljava/lang/Object;"⟩
abbrev cJx4a65c_get_915e3 : ByteArray := prog_30_method_20_code
def yJx4a65c_get_915e3 : MethodName := ⟨RJx4a65c, "get", "(I)Ljava/lang/Object;"⟩
abbrev cJx4a65c_add_72be8 : ByteArray := prog_30_method_24_code
def yJx4a65c_add_72be8 : MethodName := ⟨RJx4a65c, "add", "(Ljava/lang/Object;[Ljava/lang/Object;I)V"⟩
abbrev cJx4a65c_add_9ea2d : ByteArray := prog_30_method_25_code
def yJx4a65c_add_9ea2d : MethodName := ⟨RJx4a65c, "add", "(Ljava/lang/Object;)Z"⟩
def RJ7 : String := "java/util/Arrays"
def TJ7 : u_T := fun k => match k with
  | _ => ("", "", "", false)
def tyJ7 : Nat → FieldType := fun k => match k with
  | _ => .int
abbrev wsJ70 : List Cond := u_ws RJ7 TJ7 0
theorem nmJ7 : ∀ a, a < 0 → ∀ b, b < 0 → a ≠ b → (TJ7 a).2.1 ≠ (TJ7 b).2.1 := by decide +kernel
theorem tyJ7_ok : ∀ k, k < 0 → parseFieldDescriptor (TJ7 k).2.2.1 = some (tyJ7 k) := by decide +kernel
abbrev cJ7_copyOf_1904c : ByteArray := prog_31_method_119_code
def yJ7_copyOf_1904c : MethodName := ⟨RJ7, "copyOf", "([Ljava/lang/Object;I)[Ljava/lang/Object;"⟩
abbrev cJ7_copyOf_6403c : ByteArray := prog_31_method_120_code
def yJ7_copyOf_6403c : MethodName := ⟨RJ7, "copyOf", "([Ljava/lang/Object;ILjava/lang/Class;)[Ljava/lang/Object;"⟩
def RJx5ef63 : String := "java/util/Collection"
def TJx5ef63 : u_T := fun k => match k with
  | _ => ("", "", "", false)
def tyJx5ef63 : Nat → FieldType := fun k => match k with
  | _ => .int
abbrev wsJx5ef630 : List Cond := u_ws RJx5ef63 TJx5ef63 0
theorem nmJx5ef63 : ∀ a, a < 0 → ∀ b, b < 0 → a ≠ b → (TJx5ef63 a).2.1 ≠ (TJx5ef63 b).2.1 := by decide +kernel
theorem tyJx5ef63_ok : ∀ k, k < 0 → parseFieldDescriptor (TJx5ef63 k).2.2.1 = some (tyJx5ef63 k) := by decide +kernel
def RJxbd725 : String := "java/util/List"
def TJxbd725 : u_T := fun k => match k with
  | _ => ("", "", "", false)
def tyJxbd725 : Nat → FieldType := fun k => match k with
  | _ => .int
abbrev wsJxbd7250 : List Cond := u_ws RJxbd725 TJxbd725 0
theorem nmJxbd725 : ∀ a, a < 0 → ∀ b, b < 0 → a ≠ b → (TJxbd725 a).2.1 ≠ (TJxbd725 b).2.1 := by decide +kernel
theorem tyJxbd725_ok : ∀ k, k < 0 → parseFieldDescriptor (TJxbd725 k).2.2.1 = some (tyJxbd725 k) := by decide +kernel
def RJ15 : String := "java/util/Objects"
def TJ15 : u_T := fun k => match k with
  | _ => ("", "", "", false)
def tyJ15 : Nat → FieldType := fun k => match k with
  | _ => .int
abbrev wsJ150 : List Cond := u_ws RJ15 TJ15 0
theorem nmJ15 : ∀ a, a < 0 → ∀ b, b < 0 → a ≠ b → (TJ15 a).2.1 ≠ (TJ15 b).2.1 := by decide +kernel
theorem tyJ15_ok : ∀ k, k < 0 → parseFieldDescriptor (TJ15 k).2.2.1 = some (tyJ15 k) := by decide +kernel
abbrev cJ15_checkIndex_7cf53 : ByteArray := prog_35_method_17_code
def yJ15_checkIndex_7cf53 : MethodName := ⟨RJ15, "checkIndex", "(II)I"⟩
def RJxf0a74 : String := "java/util/RandomAccess"
def TJxf0a74 : u_T := fun k => match k with
  | _ => ("", "", "", false)
def tyJxf0a74 : Nat → FieldType := fun k => match k with
  | _ => .int
abbrev wsJxf0a740 : List Cond := u_ws RJxf0a74 TJxf0a74 0
theorem nmJxf0a74 : ∀ a, a < 0 → ∀ b, b < 0 → a ≠ b → (TJxf0a74 a).2.1 ≠ (TJxf0a74 b).2.1 := by decide +kernel
theorem tyJxf0a74_ok : ∀ k, k < 0 → parseFieldDescriptor (TJxf0a74 k).2.2.1 = some (tyJxf0a74 k) := by decide +kernel
def RJxa66e6 : String := "java/util/SequencedCollection"
def TJxa66e6 : u_T := fun k => match k with
  | _ => ("", "", "", false)
def tyJxa66e6 : Nat → FieldType := fun k => match k with
  | _ => .int
abbrev wsJxa66e60 : List Cond := u_ws RJxa66e6 TJxa66e6 0
theorem nmJxa66e6 : ∀ a, a < 0 → ∀ b, b < 0 → a ≠ b → (TJxa66e6 a).2.1 ≠ (TJxa66e6 b).2.1 := by decide +kernel
theorem tyJxa66e6_ok : ∀ k, k < 0 → parseFieldDescriptor (TJxa66e6 k).2.2.1 = some (tyJxa66e6 k) := by decide +kernel
def RJ8 : String := "jdk/internal/util/ArraysSupport"
def TJ8 : u_T := fun k => match k with
  | _ => ("", "", "", false)
def tyJ8 : Nat → FieldType := fun k => match k with
  | _ => .int
abbrev wsJ80 : List Cond := u_ws RJ8 TJ8 0
theorem nmJ8 : ∀ a, a < 0 → ∀ b, b < 0 → a ≠ b → (TJ8 a).2.1 ≠ (TJ8 b).2.1 := by decide +kernel
theorem tyJ8_ok : ∀ k, k < 0 → parseFieldDescriptor (TJ8 k).2.2.1 = some (tyJ8 k) := by decide +kernel
abbrev cJ8_newLength_cabcc : ByteArray := prog_38_method_27_code
def yJ8_newLength_cabcc : MethodName := ⟨RJ8, "newLength", "(III)I"⟩
abbrev cJ8_hugeLength_7cf53 : ByteArray := prog_38_method_28_code
def yJ8_hugeLength_7cf53 : MethodName := ⟨RJ8, "hugeLength", "(II)I"⟩
def RJ3 : String := "jdk/internal/util/Preconditions"
def TJ3 : u_T := fun k => match k with
  | _ => ("", "", "", false)
def tyJ3 : Nat → FieldType := fun k => match k with
  | _ => .int
abbrev wsJ30 : List Cond := u_ws RJ3 TJ3 0
theorem nmJ3 : ∀ a, a < 0 → ∀ b, b < 0 → a ≠ b → (TJ3 a).2.1 ≠ (TJ3 b).2.1 := by decide +kernel
theorem tyJ3_ok : ∀ k, k < 0 → parseFieldDescriptor (TJ3 k).2.2.1 = some (tyJ3 k) := by decide +kernel
abbrev cJ3_checkIndex_8e157 : ByteArray := prog_39_method_11_code
def yJ3_checkIndex_8e157 : MethodName := ⟨RJ3, "checkIndex", "(IILjava/util/function/BiFunction;)I"⟩
def RL : String := "RoughStonesLaw"
abbrev cL_scan : ByteArray := method_3_code
def yL_scan : MethodName := ⟨RL, "scan", "(LRoughStones;IIJJ[J)I"⟩
abbrev cL_stuff : ByteArray := method_4_code
def yL_stuff : MethodName := ⟨RL, "stuff", "(LRoughStones;I[J)I"⟩
abbrev cL_model : ByteArray := method_5_code
def yL_model : MethodName := ⟨RL, "model", "(LRoughStones;I[J)I"⟩
abbrev cL_price : ByteArray := method_6_code
def yL_price : MethodName := ⟨RL, "price", "(LRoughStones;II[J)I"⟩
abbrev cL_worth : ByteArray := method_7_code
def yL_worth : MethodName := ⟨RL, "worth", "(LRoughStones;I[J)I"⟩
abbrev cL_fit : ByteArray := method_8_code
def yL_fit : MethodName := ⟨RL, "fit", "(LRoughStones;III[J)I"⟩
abbrev cL_best : ByteArray := method_9_code
def yL_best : MethodName := ⟨RL, "best", "(LRoughStones;I[J)I"⟩
abbrev cL_sawn : ByteArray := method_10_code
def yL_sawn : MethodName := ⟨RL, "sawn", "(LRoughStones;II[J)I"⟩
abbrev cL_cut : ByteArray := method_11_code
def yL_cut : MethodName := ⟨RL, "cut", "(LRoughStones;III[J)I"⟩
abbrev cL_done : ByteArray := method_12_code
def yL_done : MethodName := ⟨RL, "done", "(LRoughStones;I[J)I"⟩
abbrev cL_facet : ByteArray := method_13_code
def yL_facet : MethodName := ⟨RL, "facet", "(LRoughStones;III[J)I"⟩
abbrev cL_round : ByteArray := method_14_code
def yL_round : MethodName := ⟨RL, "round", "(LRoughStones;I[J)I"⟩
abbrev cL_plan : ByteArray := method_15_code
def yL_plan : MethodName := ⟨RL, "plan", "(LRoughStones;II[J)I"⟩
abbrev cL_polish : ByteArray := method_16_code
def yL_polish : MethodName := ⟨RL, "polish", "(LRoughStones;I[J)I"⟩
abbrev cL_told : ByteArray := method_17_code
def yL_told : MethodName := ⟨RL, "told", "(LRoughStones;II[J)I"⟩
abbrev cL_lot : ByteArray := method_18_code
def yL_lot : MethodName := ⟨RL, "lot", "(LRoughStones;II[J)I"⟩
abbrev cL_bid : ByteArray := method_19_code
def yL_bid : MethodName := ⟨RL, "bid", "(LRoughStones;III[J)I"⟩
abbrev cL_most : ByteArray := method_20_code
def yL_most : MethodName := ⟨RL, "most", "(LRoughStones;II[J)I"⟩
abbrev cL_law : ByteArray := code
def yL_law : MethodName := ⟨RL, "law", "([I)Z"⟩
abbrev vwCl : List vw_C := [(RJx4a65c, TJx4a65c, 3), (RX0, TX0, 8), (RX1, TX1, 8), (RX2, TX2, 4), (RX3, TX3, 5), (RX4, TX4, 4), (RX5, TX5, 3), (RX6, TX6, 8), (RX7, TX7, 4), (RX8, TX8, 13), (RX9, TX9, 9), (RX10, TX10, 3), (RX11, TX11, 10), (RX12, TX12, 58)]
/-- the good words of the tables -/
def gw : List Cond := lw_tbl.filter goodWord
set_option maxRecDepth 100000 in
theorem g_inJx4a65c : ∀ w ∈ wsJx4a65c0, w ∈ gw := by decide +kernel
set_option maxRecDepth 100000 in
theorem g_inX0 : ∀ w ∈ wsX00, w ∈ gw := by decide +kernel
set_option maxRecDepth 100000 in
theorem g_inX1 : ∀ w ∈ wsX10, w ∈ gw := by decide +kernel
set_option maxRecDepth 100000 in
theorem g_inX2 : ∀ w ∈ wsX20, w ∈ gw := by decide +kernel
set_option maxRecDepth 100000 in
theorem g_inX3 : ∀ w ∈ wsX30, w ∈ gw := by decide +kernel
set_option maxRecDepth 100000 in
theorem g_inX4 : ∀ w ∈ wsX40, w ∈ gw := by decide +kernel
set_option maxRecDepth 100000 in
theorem g_inX5 : ∀ w ∈ wsX50, w ∈ gw := by decide +kernel
set_option maxRecDepth 100000 in
theorem g_inX6 : ∀ w ∈ wsX60, w ∈ gw := by decide +kernel
set_option maxRecDepth 100000 in
theorem g_inX7 : ∀ w ∈ wsX70, w ∈ gw := by decide +kernel
set_option maxRecDepth 100000 in
theorem g_inX8 : ∀ w ∈ wsX80, w ∈ gw := by decide +kernel
set_option maxRecDepth 100000 in
theorem g_inX9 : ∀ w ∈ wsX90, w ∈ gw := by decide +kernel
set_option maxRecDepth 100000 in
theorem g_inX10 : ∀ w ∈ wsX100, w ∈ gw := by decide +kernel
set_option maxRecDepth 100000 in
theorem g_inX11 : ∀ w ∈ wsX110, w ∈ gw := by decide +kernel
set_option maxRecDepth 100000 in
theorem g_inX12 : ∀ w ∈ wsX120, w ∈ gw := by decide +kernel
