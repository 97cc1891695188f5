def RX0 : String := "ShowRoom$Bench"
def TX0 : u_T := fun k => match k with
  | 0 => ("ShowRoom$Bench", "scene", "LShowRoom$Scene;", true)
  | 1 => ("ShowRoom$Bench", "weights", "[J", true)
  | 2 => ("ShowRoom$Bench", "chain", "[I", true)
  | 3 => ("ShowRoom$Bench", "costs", "[I", true)
  | _ => ("ShowRoom$Bench", "links", "I", false)
def tyX0 : Nat → FieldType := fun k => match k with
  | 0 => .object "ShowRoom$Scene"
  | 1 => .array .long
  | 2 => .array .int
  | 3 => .array .int
  | _ => .int
abbrev wsX00 : List Cond := u_ws RX0 TX0 5
theorem nmX0 : ∀ a, a < 5 → ∀ b, b < 5 → a ≠ b → (TX0 a).2.1 ≠ (TX0 b).2.1 := by decide +kernel
theorem tyX0_ok : ∀ k, k < 5 → parseFieldDescriptor (TX0 k).2.2.1 = some (tyX0 k) := by decide +kernel
abbrev cX0_init : ByteArray := prog_2_method_1_code
def yX0_init : MethodName := ⟨RX0, "<init>", "(LShowRoom$Scene;)V"⟩
abbrev cX0_attendNone : ByteArray := prog_2_method_2_code
def yX0_attendNone : MethodName := ⟨RX0, "attendNone", "()V"⟩
abbrev cX0_attendOnly : ByteArray := prog_2_method_3_code
def yX0_attendOnly : MethodName := ⟨RX0, "attendOnly", "(I)V"⟩
abbrev cX0_attendTest : ByteArray := prog_2_method_4_code
def yX0_attendTest : MethodName := ⟨RX0, "attendTest", "(I)V"⟩
abbrev cX0_attend : ByteArray := prog_2_method_5_code
def yX0_attend : MethodName := ⟨RX0, "attend", "(II)V"⟩
abbrev cX0_unit : ByteArray := prog_2_method_6_code
def yX0_unit : MethodName := ⟨RX0, "unit", "()J"⟩
abbrev cX0_lay : ByteArray := prog_2_method_7_code
def yX0_lay : MethodName := ⟨RX0, "lay", "(JJJJ)V"⟩
abbrev cX0_layBefore : ByteArray := prog_2_method_8_code
def yX0_layBefore : MethodName := ⟨RX0, "layBefore", "()V"⟩
abbrev cX0_any : ByteArray := prog_2_method_9_code
def yX0_any : MethodName := ⟨RX0, "any", "(I)Z"⟩
abbrev cX0_least : ByteArray := prog_2_method_10_code
def yX0_least : MethodName := ⟨RX0, "least", "()J"⟩
abbrev cX0_greatest : ByteArray := prog_2_method_11_code
def yX0_greatest : MethodName := ⟨RX0, "greatest", "()J"⟩
abbrev cX0_mass : ByteArray := prog_2_method_12_code
def yX0_mass : MethodName := ⟨RX0, "mass", "(I)J"⟩
abbrev cX0_leastTerm : ByteArray := prog_2_method_13_code
def yX0_leastTerm : MethodName := ⟨RX0, "leastTerm", "(II)J"⟩
abbrev cX0_seeOne : ByteArray := prog_2_method_14_code
def yX0_seeOne : MethodName := ⟨RX0, "seeOne", "(II)Z"⟩
abbrev cX0_seeMany : ByteArray := prog_2_method_15_code
def yX0_seeMany : MethodName := ⟨RX0, "seeMany", "(II)Z"⟩
abbrev cX0_step : ByteArray := prog_2_method_16_code
def yX0_step : MethodName := ⟨RX0, "step", "(III)Z"⟩
abbrev cX0_choose : ByteArray := prog_2_method_17_code
def yX0_choose : MethodName := ⟨RX0, "choose", "(I[I)I"⟩
abbrev cX0_sumOf : ByteArray := prog_2_method_18_code
def yX0_sumOf : MethodName := ⟨RX0, "sumOf", "(I[II)J"⟩
abbrev cX0_outcome : ByteArray := prog_2_method_19_code
def yX0_outcome : MethodName := ⟨RX0, "outcome", "(I[I[I)J"⟩
abbrev cX0_brings : ByteArray := prog_2_method_20_code
def yX0_brings : MethodName := ⟨RX0, "brings", "([I[I)J"⟩
abbrev cX0_gather : ByteArray := prog_2_method_21_code
def yX0_gather : MethodName := ⟨RX0, "gather", "(I[I[I)J"⟩
abbrev cX0_bestRule : ByteArray := prog_2_method_22_code
def yX0_bestRule : MethodName := ⟨RX0, "bestRule", "()J"⟩
abbrev cX0_stopOrGo : ByteArray := prog_2_method_23_code
def yX0_stopOrGo : MethodName := ⟨RX0, "stopOrGo", "(I)J"⟩
def RX1 : String := "ShowRoom$Line"
def TX1 : u_T := fun k => match k with
  | 0 => ("ShowRoom$Line", "scene", "LShowRoom$Scene;", true)
  | 1 => ("ShowRoom$Line", "bench", "LShowRoom$Bench;", true)
  | 2 => ("ShowRoom$Line", "crossAbove", "[J", true)
  | 3 => ("ShowRoom$Line", "crossBelow", "[J", true)
  | 4 => ("ShowRoom$Line", "crossCount", "I", false)
  | 5 => ("ShowRoom$Line", "above", "[J", true)
  | 6 => ("ShowRoom$Line", "below", "[J", true)
  | 7 => ("ShowRoom$Line", "height", "[J", true)
  | 8 => ("ShowRoom$Line", "edgeCount", "I", false)
  | 9 => ("ShowRoom$Line", "left", "I", false)
  | 10 => ("ShowRoom$Line", "right", "I", false)
  | 11 => ("ShowRoom$Line", "topAbove", "J", false)
  | _ => ("ShowRoom$Line", "topBelow", "J", false)
def tyX1 : Nat → FieldType := fun k => match k with
  | 0 => .object "ShowRoom$Scene"
  | 1 => .object "ShowRoom$Bench"
  | 2 => .array .long
  | 3 => .array .long
  | 4 => .int
  | 5 => .array .long
  | 6 => .array .long
  | 7 => .array .long
  | 8 => .int
  | 9 => .int
  | 10 => .int
  | 11 => .long
  | _ => .long
abbrev wsX10 : List Cond := u_ws RX1 TX1 13
theorem nmX1 : ∀ a, a < 13 → ∀ b, b < 13 → a ≠ b → (TX1 a).2.1 ≠ (TX1 b).2.1 := by decide +kernel
theorem tyX1_ok : ∀ k, k < 13 → parseFieldDescriptor (TX1 k).2.2.1 = some (tyX1 k) := by decide +kernel
abbrev cX1_init : ByteArray := prog_3_method_1_code
def yX1_init : MethodName := ⟨RX1, "<init>", "(LShowRoom$Scene;LShowRoom$Bench;)V"⟩
abbrev cX1_hasEdge : ByteArray := prog_3_method_2_code
def yX1_hasEdge : MethodName := ⟨RX1, "hasEdge", "(I)Z"⟩
abbrev cX1_survey : ByteArray := prog_3_method_3_code
def yX1_survey : MethodName := ⟨RX1, "survey", "()V"⟩
abbrev cX1_mark : ByteArray := prog_3_method_4_code
def yX1_mark : MethodName := ⟨RX1, "mark", "(JJ)V"⟩
abbrev cX1_actBetween : ByteArray := prog_3_method_5_code
def yX1_actBetween : MethodName := ⟨RX1, "actBetween", "(I)I"⟩
abbrev cX1_actAt : ByteArray := prog_3_method_6_code
def yX1_actAt : MethodName := ⟨RX1, "actAt", "(JJ)I"⟩
abbrev cX1_findCrossings : ByteArray := prog_3_method_7_code
def yX1_findCrossings : MethodName := ⟨RX1, "findCrossings", "()V"⟩
abbrev cX1_crossActs : ByteArray := prog_3_method_8_code
def yX1_crossActs : MethodName := ⟨RX1, "crossActs", "([III)V"⟩
abbrev cX1_cross : ByteArray := prog_3_method_9_code
def yX1_cross : MethodName := ⟨RX1, "cross", "(JJ)V"⟩
abbrev cX1_order : ByteArray := prog_3_method_10_code
def yX1_order : MethodName := ⟨RX1, "order", "(II)J"⟩
abbrev cX1_bridgeAbove : ByteArray := prog_3_method_11_code
def yX1_bridgeAbove : MethodName := ⟨RX1, "bridgeAbove", "(III)J"⟩
abbrev cX1_bridgeBelow : ByteArray := prog_3_method_12_code
def yX1_bridgeBelow : MethodName := ⟨RX1, "bridgeBelow", "(III)J"⟩
abbrev cX1_climb : ByteArray := prog_3_method_13_code
def yX1_climb : MethodName := ⟨RX1, "climb", "()V"⟩
abbrev cX1_climbBridge : ByteArray := prog_3_method_14_code
def yX1_climbBridge : MethodName := ⟨RX1, "climbBridge", "(III)V"⟩
abbrev cX1_gainAbove : ByteArray := prog_3_method_15_code
def yX1_gainAbove : MethodName := ⟨RX1, "gainAbove", "()J"⟩
abbrev cX1_cornerBits : ByteArray := prog_3_method_16_code
def yX1_cornerBits : MethodName := ⟨RX1, "cornerBits", "()I"⟩
abbrev cX1_isCorner : ByteArray := prog_3_method_17_code
def yX1_isCorner : MethodName := ⟨RX1, "isCorner", "(I)Z"⟩
abbrev cX1_judgePrices : ByteArray := prog_3_method_18_code
def yX1_judgePrices : MethodName := ⟨RX1, "judgePrices", "(JJJ)I"⟩
abbrev cX1_priceAbove : ByteArray := prog_3_method_19_code
def yX1_priceAbove : MethodName := ⟨RX1, "priceAbove", "(IJJ)J"⟩
def RX2 : String := "ShowRoom$Market"
def TX2 : u_T := fun k => match k with
  | 0 => ("ShowRoom$Market", "scene", "LShowRoom$Scene;", true)
  | 1 => ("ShowRoom$Market", "bench", "LShowRoom$Bench;", true)
  | 2 => ("ShowRoom$Market", "payoff", "[J", true)
  | 3 => ("ShowRoom$Market", "restFirst", "I", false)
  | _ => ("ShowRoom$Market", "restSecond", "I", false)
def tyX2 : Nat → FieldType := fun k => match k with
  | 0 => .object "ShowRoom$Scene"
  | 1 => .object "ShowRoom$Bench"
  | 2 => .array .long
  | 3 => .int
  | _ => .int
abbrev wsX20 : List Cond := u_ws RX2 TX2 5
theorem nmX2 : ∀ a, a < 5 → ∀ b, b < 5 → a ≠ b → (TX2 a).2.1 ≠ (TX2 b).2.1 := by decide +kernel
theorem tyX2_ok : ∀ k, k < 5 → parseFieldDescriptor (TX2 k).2.2.1 = some (tyX2 k) := by decide +kernel
abbrev cX2_init : ByteArray := prog_4_method_1_code
def yX2_init : MethodName := ⟨RX2, "<init>", "(LShowRoom$Scene;LShowRoom$Bench;)V"⟩
abbrev cX2_bringsOf : ByteArray := prog_4_method_2_code
def yX2_bringsOf : MethodName := ⟨RX2, "bringsOf", "(I)J"⟩
abbrev cX2_costOf : ByteArray := prog_4_method_3_code
def yX2_costOf : MethodName := ⟨RX2, "costOf", "(I)I"⟩
abbrev cX2_dearest : ByteArray := prog_4_method_4_code
def yX2_dearest : MethodName := ⟨RX2, "dearest", "()I"⟩
abbrev cX2_cheapest : ByteArray := prog_4_method_5_code
def yX2_cheapest : MethodName := ⟨RX2, "cheapest", "(JJ)I"⟩
abbrev cX2_isCheaper : ByteArray := prog_4_method_6_code
def yX2_isCheaper : MethodName := ⟨RX2, "isCheaper", "(II)Z"⟩
abbrev cX2_weighRivals : ByteArray := prog_4_method_7_code
def yX2_weighRivals : MethodName := ⟨RX2, "weighRivals", "(II)V"⟩
abbrev cX2_mayChoose : ByteArray := prog_4_method_8_code
def yX2_mayChoose : MethodName := ⟨RX2, "mayChoose", "(II)Z"⟩
abbrev cX2_bringsBoth : ByteArray := prog_4_method_9_code
def yX2_bringsBoth : MethodName := ⟨RX2, "bringsBoth", "(II)J"⟩
abbrev cX2_findRests : ByteArray := prog_4_method_10_code
def yX2_findRests : MethodName := ⟨RX2, "findRests", "(II)I"⟩
abbrev cX2_isRest : ByteArray := prog_4_method_11_code
def yX2_isRest : MethodName := ⟨RX2, "isRest", "(IIII)Z"⟩
def RX3 : String := "ShowRoom$Past"
def TX3 : u_T := fun k => match k with
  | 0 => ("ShowRoom$Past", "size", "I", false)
  | 1 => ("ShowRoom$Past", "kinds", "[I", true)
  | 2 => ("ShowRoom$Past", "places", "[I", true)
  | _ => ("ShowRoom$Past", "before", "[I", true)
def tyX3 : Nat → FieldType := fun k => match k with
  | 0 => .int
  | 1 => .array .int
  | 2 => .array .int
  | _ => .array .int
abbrev wsX30 : List Cond := u_ws RX3 TX3 4
theorem nmX3 : ∀ a, a < 4 → ∀ b, b < 4 → a ≠ b → (TX3 a).2.1 ≠ (TX3 b).2.1 := by decide +kernel
theorem tyX3_ok : ∀ k, k < 4 → parseFieldDescriptor (TX3 k).2.2.1 = some (tyX3 k) := by decide +kernel
abbrev cX3_init : ByteArray := prog_5_method_1_code
def yX3_init : MethodName := ⟨RX3, "<init>", "()V"⟩
abbrev cX3_keep : ByteArray := prog_5_method_2_code
def yX3_keep : MethodName := ⟨RX3, "keep", "(III)V"⟩
abbrev cX3_giveUpOldest : ByteArray := prog_5_method_3_code
def yX3_giveUpOldest : MethodName := ⟨RX3, "giveUpOldest", "()V"⟩
abbrev cX3_takeBack : ByteArray := prog_5_method_4_code
def yX3_takeBack : MethodName := ⟨RX3, "takeBack", "(LShowRoom$Scene;)V"⟩
def RX4 : String := "ShowRoom$Scene"
def TX4 : u_T := fun k => match k with
  | 0 => ("ShowRoom$Scene", "open", "Z", false)
  | 1 => ("ShowRoom$Scene", "truths", "I", false)
  | 2 => ("ShowRoom$Scene", "acts", "I", false)
  | 3 => ("ShowRoom$Scene", "tie", "I", false)
  | 4 => ("ShowRoom$Scene", "told", "[I", true)
  | 5 => ("ShowRoom$Scene", "prior", "[J", true)
  | 6 => ("ShowRoom$Scene", "total", "J", false)
  | 7 => ("ShowRoom$Scene", "judgeGets", "[I", true)
  | 8 => ("ShowRoom$Scene", "advocateGets", "[I", true)
  | 9 => ("ShowRoom$Scene", "otherGets", "[I", true)
  | 10 => ("ShowRoom$Scene", "looks", "I", false)
  | 11 => ("ShowRoom$Scene", "signCount", "[I", true)
  | 12 => ("ShowRoom$Scene", "partRow", "[I", true)
  | 13 => ("ShowRoom$Scene", "tests", "I", false)
  | 14 => ("ShowRoom$Scene", "testLook", "[I", true)
  | 15 => ("ShowRoom$Scene", "testCost", "[I", true)
  | 16 => ("ShowRoom$Scene", "thoughts", "I", false)
  | 17 => ("ShowRoom$Scene", "thoughtWeights", "[I", true)
  | _ => ("ShowRoom$Scene", "shares", "[I", true)
def tyX4 : Nat → FieldType := fun k => match k with
  | 0 => .boolean
  | 1 => .int
  | 2 => .int
  | 3 => .int
  | 4 => .array .int
  | 5 => .array .long
  | 6 => .long
  | 7 => .array .int
  | 8 => .array .int
  | 9 => .array .int
  | 10 => .int
  | 11 => .array .int
  | 12 => .array .int
  | 13 => .int
  | 14 => .array .int
  | 15 => .array .int
  | 16 => .int
  | 17 => .array .int
  | _ => .array .int
abbrev wsX40 : List Cond := u_ws RX4 TX4 19
theorem nmX4 : ∀ a, a < 19 → ∀ b, b < 19 → a ≠ b → (TX4 a).2.1 ≠ (TX4 b).2.1 := by decide +kernel
theorem tyX4_ok : ∀ k, k < 19 → parseFieldDescriptor (TX4 k).2.2.1 = some (tyX4 k) := by decide +kernel
abbrev cX4_init : ByteArray := prog_6_method_1_code
def yX4_init : MethodName := ⟨RX4, "<init>", "()V"⟩
abbrev cX4_begin : ByteArray := prog_6_method_2_code
def yX4_begin : MethodName := ⟨RX4, "begin", "(LShowRoom$Text;)V"⟩
abbrev cX4_reducePrior : ByteArray := prog_6_method_3_code
def yX4_reducePrior : MethodName := ⟨RX4, "reducePrior", "()V"⟩
abbrev cX4_copyFrom : ByteArray := prog_6_method_4_code
def yX4_copyFrom : MethodName := ⟨RX4, "copyFrom", "(LShowRoom$Scene;)V"⟩
abbrev cX4_hasTwo : ByteArray := prog_6_method_5_code
def yX4_hasTwo : MethodName := ⟨RX4, "hasTwo", "()Z"⟩
abbrev cX4_hasTruth : ByteArray := prog_6_method_6_code
def yX4_hasTruth : MethodName := ⟨RX4, "hasTruth", "(I)Z"⟩
abbrev cX4_hasAct : ByteArray := prog_6_method_7_code
def yX4_hasAct : MethodName := ⟨RX4, "hasAct", "(I)Z"⟩
abbrev cX4_hasLook : ByteArray := prog_6_method_8_code
def yX4_hasLook : MethodName := ⟨RX4, "hasLook", "(I)Z"⟩
abbrev cX4_hasSign : ByteArray := prog_6_method_9_code
def yX4_hasSign : MethodName := ⟨RX4, "hasSign", "(II)Z"⟩
abbrev cX4_lacksLook : ByteArray := prog_6_method_10_code
def yX4_lacksLook : MethodName := ⟨RX4, "lacksLook", "(I)I"⟩
abbrev cX4_lacksSign : ByteArray := prog_6_method_11_code
def yX4_lacksSign : MethodName := ⟨RX4, "lacksSign", "(III)I"⟩
abbrev cX4_lacksAct : ByteArray := prog_6_method_12_code
def yX4_lacksAct : MethodName := ⟨RX4, "lacksAct", "(II)I"⟩
abbrev cX4_hasTest : ByteArray := prog_6_method_13_code
def yX4_hasTest : MethodName := ⟨RX4, "hasTest", "(I)Z"⟩
abbrev cX4_hasTests : ByteArray := prog_6_method_14_code
def yX4_hasTests : MethodName := ⟨RX4, "hasTests", "(I)Z"⟩
abbrev cX4_isOrder : ByteArray := prog_6_method_15_code
def yX4_isOrder : MethodName := ⟨RX4, "isOrder", "(III)Z"⟩
abbrev cX4_pay : ByteArray := prog_6_method_16_code
def yX4_pay : MethodName := ⟨RX4, "pay", "(Z)[I"⟩
abbrev cX4_partOf : ByteArray := prog_6_method_17_code
def yX4_partOf : MethodName := ⟨RX4, "partOf", "(III)I"⟩
abbrev cX4_write : ByteArray := prog_6_method_18_code
def yX4_write : MethodName := ⟨RX4, "write", "(III)V"⟩
abbrev cX4_isWhole : ByteArray := prog_6_method_19_code
def yX4_isWhole : MethodName := ⟨RX4, "isWhole", "(II)Z"⟩
abbrev cX4_writeShare : ByteArray := prog_6_method_20_code
def yX4_writeShare : MethodName := ⟨RX4, "writeShare", "(III)V"⟩
abbrev cX4_thoughtFits : ByteArray := prog_6_method_21_code
def yX4_thoughtFits : MethodName := ⟨RX4, "thoughtFits", "(III)Z"⟩
abbrev cX4_keepThought : ByteArray := prog_6_method_22_code
def yX4_keepThought : MethodName := ⟨RX4, "keepThought", "(IIIII)V"⟩
abbrev cX4_thoughtTotal : ByteArray := prog_6_method_23_code
def yX4_thoughtTotal : MethodName := ⟨RX4, "thoughtTotal", "(I)J"⟩
abbrev cX4_allShares : ByteArray := prog_6_method_24_code
def yX4_allShares : MethodName := ⟨RX4, "allShares", "()J"⟩
abbrev cX4_firstOff : ByteArray := prog_6_method_25_code
def yX4_firstOff : MethodName := ⟨RX4, "firstOff", "()I"⟩
abbrev cX4_comesBack : ByteArray := prog_6_method_26_code
def yX4_comesBack : MethodName := ⟨RX4, "comesBack", "(I)Z"⟩
def RX5 : String := "ShowRoom$Silence"
def TX5 : u_T := fun k => match k with
  | 0 => ("ShowRoom$Silence", "scene", "LShowRoom$Scene;", true)
  | _ => ("ShowRoom$Silence", "bench", "LShowRoom$Bench;", true)
def tyX5 : Nat → FieldType := fun k => match k with
  | 0 => .object "ShowRoom$Scene"
  | _ => .object "ShowRoom$Bench"
abbrev wsX50 : List Cond := u_ws RX5 TX5 2
theorem nmX5 : ∀ a, a < 2 → ∀ b, b < 2 → a ≠ b → (TX5 a).2.1 ≠ (TX5 b).2.1 := by decide +kernel
theorem tyX5_ok : ∀ k, k < 2 → parseFieldDescriptor (TX5 k).2.2.1 = some (tyX5 k) := by decide +kernel
abbrev cX5_init : ByteArray := prog_7_method_1_code
def yX5_init : MethodName := ⟨RX5, "<init>", "(LShowRoom$Scene;LShowRoom$Bench;)V"⟩
abbrev cX5_settle : ByteArray := prog_7_method_2_code
def yX5_settle : MethodName := ⟨RX5, "settle", "(I)I"⟩
abbrev cX5_silentBits : ByteArray := prog_7_method_3_code
def yX5_silentBits : MethodName := ⟨RX5, "silentBits", "(II)I"⟩
abbrev cX5_shownNow : ByteArray := prog_7_method_4_code
def yX5_shownNow : MethodName := ⟨RX5, "shownNow", "(II)I"⟩
abbrev cX5_expected : ByteArray := prog_7_method_5_code
def yX5_expected : MethodName := ⟨RX5, "expected", "()J"⟩
abbrev cX5_lostByJudge : ByteArray := prog_7_method_6_code
def yX5_lostByJudge : MethodName := ⟨RX5, "lostByJudge", "(II)J"⟩
def RX6 : String := "ShowRoom$Text"
def TX6 : u_T := fun k => match k with
  | 0 => ("ShowRoom$Text", "bytes", "[I", true)
  | 1 => ("ShowRoom$Text", "length", "I", false)
  | 2 => ("ShowRoom$Text", "at", "I", false)
  | 3 => ("ShowRoom$Text", "number", "I", false)
  | 4 => ("ShowRoom$Text", "truths", "I", false)
  | 5 => ("ShowRoom$Text", "acts", "I", false)
  | 6 => ("ShowRoom$Text", "weights", "[I", true)
  | 7 => ("ShowRoom$Text", "judge", "[I", true)
  | _ => ("ShowRoom$Text", "advocate", "[I", true)
def tyX6 : Nat → FieldType := fun k => match k with
  | 0 => .array .int
  | 1 => .int
  | 2 => .int
  | 3 => .int
  | 4 => .int
  | 5 => .int
  | 6 => .array .int
  | 7 => .array .int
  | _ => .array .int
abbrev wsX60 : List Cond := u_ws RX6 TX6 9
theorem nmX6 : ∀ a, a < 9 → ∀ b, b < 9 → a ≠ b → (TX6 a).2.1 ≠ (TX6 b).2.1 := by decide +kernel
theorem tyX6_ok : ∀ k, k < 9 → parseFieldDescriptor (TX6 k).2.2.1 = some (tyX6 k) := by decide +kernel
abbrev cX6_init : ByteArray := prog_8_method_1_code
def yX6_init : MethodName := ⟨RX6, "<init>", "()V"⟩
abbrev cX6_append : ByteArray := prog_8_method_2_code
def yX6_append : MethodName := ⟨RX6, "append", "(IJ)V"⟩
abbrev cX6_parse : ByteArray := prog_8_method_3_code
def yX6_parse : MethodName := ⟨RX6, "parse", "()I"⟩
abbrev cX6_parseTruths : ByteArray := prog_8_method_4_code
def yX6_parseTruths : MethodName := ⟨RX6, "parseTruths", "()Z"⟩
abbrev cX6_parseActs : ByteArray := prog_8_method_5_code
def yX6_parseActs : MethodName := ⟨RX6, "parseActs", "()Z"⟩
abbrev cX6_parsePairs : ByteArray := prog_8_method_6_code
def yX6_parsePairs : MethodName := ⟨RX6, "parsePairs", "(I)Z"⟩
abbrev cX6_parseNumber : ByteArray := prog_8_method_7_code
def yX6_parseNumber : MethodName := ⟨RX6, "parseNumber", "()Z"⟩
abbrev cX6_parseDigits : ByteArray := prog_8_method_8_code
def yX6_parseDigits : MethodName := ⟨RX6, "parseDigits", "(I)Z"⟩
abbrev cX6_skip : ByteArray := prog_8_method_9_code
def yX6_skip : MethodName := ⟨RX6, "skip", "(I)Z"⟩
abbrev cX6_peek : ByteArray := prog_8_method_10_code
def yX6_peek : MethodName := ⟨RX6, "peek", "()I"⟩
def RX7 : String := "ShowRoom"
def TX7 : u_T := fun k => match k with
  | 0 => ("ShowRoom", "text", "LShowRoom$Text;", true)
  | 1 => ("ShowRoom", "row", "[I", true)
  | 2 => ("ShowRoom", "rowLength", "I", false)
  | 3 => ("ShowRoom", "scene", "LShowRoom$Scene;", true)
  | 4 => ("ShowRoom", "kept", "LShowRoom$Scene;", true)
  | 5 => ("ShowRoom", "past", "LShowRoom$Past;", true)
  | 6 => ("ShowRoom", "bench", "LShowRoom$Bench;", true)
  | 7 => ("ShowRoom", "line", "LShowRoom$Line;", true)
  | 8 => ("ShowRoom", "market", "LShowRoom$Market;", true)
  | 9 => ("ShowRoom", "silence", "LShowRoom$Silence;", true)
  | _ => ("ShowRoom", "refusals", "[I", true)
def tyX7 : Nat → FieldType := fun k => match k with
  | 0 => .object "ShowRoom$Text"
  | 1 => .array .int
  | 2 => .int
  | 3 => .object "ShowRoom$Scene"
  | 4 => .object "ShowRoom$Scene"
  | 5 => .object "ShowRoom$Past"
  | 6 => .object "ShowRoom$Bench"
  | 7 => .object "ShowRoom$Line"
  | 8 => .object "ShowRoom$Market"
  | 9 => .object "ShowRoom$Silence"
  | _ => .array .int
abbrev wsX70 : List Cond := u_ws RX7 TX7 11
theorem nmX7 : ∀ a, a < 11 → ∀ b, b < 11 → a ≠ b → (TX7 a).2.1 ≠ (TX7 b).2.1 := by decide +kernel
theorem tyX7_ok : ∀ k, k < 11 → parseFieldDescriptor (TX7 k).2.2.1 = some (tyX7 k) := by decide +kernel
abbrev cX7_init : ByteArray := prog_1_method_1_code
def yX7_init : MethodName := ⟨RX7, "<init>", "()V"⟩
abbrev cX7_feed : ByteArray := prog_1_method_2_code
def yX7_feed : MethodName := ⟨RX7, "feed", "(IJ)I"⟩
abbrev cX7_read : ByteArray := prog_1_method_3_code
def yX7_read : MethodName := ⟨RX7, "read", "()I"⟩
abbrev cX7_weight : ByteArray := prog_1_method_4_code
def yX7_weight : MethodName := ⟨RX7, "weight", "(I)I"⟩
abbrev cX7_gets : ByteArray := prog_1_method_5_code
def yX7_gets : MethodName := ⟨RX7, "gets", "(III)I"⟩
abbrev cX7_second : ByteArray := prog_1_method_6_code
def yX7_second : MethodName := ⟨RX7, "second", "(III)I"⟩
abbrev cX7_ties : ByteArray := prog_1_method_7_code
def yX7_ties : MethodName := ⟨RX7, "ties", "(I)I"⟩
abbrev cX7_done : ByteArray := prog_1_method_8_code
def yX7_done : MethodName := ⟨RX7, "done", "(IIII)I"⟩
abbrev cX7_put : ByteArray := prog_1_method_9_code
def yX7_put : MethodName := ⟨RX7, "put", "(I)I"⟩
abbrev cX7_look : ByteArray := prog_1_method_10_code
def yX7_look : MethodName := ⟨RX7, "look", "(I)I"⟩
abbrev cX7_plain : ByteArray := prog_1_method_11_code
def yX7_plain : MethodName := ⟨RX7, "plain", "(I)I"⟩
abbrev cX7_bar : ByteArray := prog_1_method_12_code
def yX7_bar : MethodName := ⟨RX7, "bar", "(I)I"⟩
abbrev cX7_mix : ByteArray := prog_1_method_13_code
def yX7_mix : MethodName := ⟨RX7, "mix", "(III)I"⟩
abbrev cX7_meld : ByteArray := prog_1_method_14_code
def yX7_meld : MethodName := ⟨RX7, "meld", "(III)I"⟩
abbrev cX7_signs : ByteArray := prog_1_method_15_code
def yX7_signs : MethodName := ⟨RX7, "signs", "(I)I"⟩
abbrev cX7_parts : ByteArray := prog_1_method_16_code
def yX7_parts : MethodName := ⟨RX7, "parts", "(III)I"⟩
abbrev cX7_leaves : ByteArray := prog_1_method_17_code
def yX7_leaves : MethodName := ⟨RX7, "leaves", "(III)I"⟩
abbrev cX7_does : ByteArray := prog_1_method_18_code
def yX7_does : MethodName := ⟨RX7, "does", "(II)I"⟩
abbrev cX7_worth : ByteArray := prog_1_method_19_code
def yX7_worth : MethodName := ⟨RX7, "worth", "(IZI)J"⟩
abbrev cX7_harm : ByteArray := prog_1_method_20_code
def yX7_harm : MethodName := ⟨RX7, "harm", "(II)J"⟩
abbrev cX7_think : ByteArray := prog_1_method_21_code
def yX7_think : MethodName := ⟨RX7, "think", "(IIIII)I"⟩
abbrev cX7_forget : ByteArray := prog_1_method_22_code
def yX7_forget : MethodName := ⟨RX7, "forget", "()I"⟩
abbrev cX7_made : ByteArray := prog_1_method_23_code
def yX7_made : MethodName := ⟨RX7, "made", "()I"⟩
abbrev cX7_chance : ByteArray := prog_1_method_24_code
def yX7_chance : MethodName := ⟨RX7, "chance", "(III)J"⟩
abbrev cX7_edges : ByteArray := prog_1_method_25_code
def yX7_edges : MethodName := ⟨RX7, "edges", "()I"⟩
abbrev cX7_edge : ByteArray := prog_1_method_26_code
def yX7_edge : MethodName := ⟨RX7, "edge", "(II)J"⟩
abbrev cX7_value : ByteArray := prog_1_method_27_code
def yX7_value : MethodName := ⟨RX7, "value", "(II)J"⟩
abbrev cX7_best : ByteArray := prog_1_method_28_code
def yX7_best : MethodName := ⟨RX7, "best", "(II)J"⟩
abbrev cX7_corners : ByteArray := prog_1_method_29_code
def yX7_corners : MethodName := ⟨RX7, "corners", "()I"⟩
abbrev cX7_prove : ByteArray := prog_1_method_30_code
def yX7_prove : MethodName := ⟨RX7, "prove", "(IIII)I"⟩
abbrev cX7_test : ByteArray := prog_1_method_31_code
def yX7_test : MethodName := ⟨RX7, "test", "(II)I"⟩
abbrev cX7_set : ByteArray := prog_1_method_32_code
def yX7_set : MethodName := ⟨RX7, "set", "(II)J"⟩
abbrev cX7_chosen : ByteArray := prog_1_method_33_code
def yX7_chosen : MethodName := ⟨RX7, "chosen", "()I"⟩
abbrev cX7_enough : ByteArray := prog_1_method_34_code
def yX7_enough : MethodName := ⟨RX7, "enough", "(II)I"⟩
abbrev cX7_hear : ByteArray := prog_1_method_35_code
def yX7_hear : MethodName := ⟨RX7, "hear", "(III)J"⟩
abbrev cX7_knows : ByteArray := prog_1_method_36_code
def yX7_knows : MethodName := ⟨RX7, "knows", "(IIZI)J"⟩
abbrev cX7_rests : ByteArray := prog_1_method_37_code
def yX7_rests : MethodName := ⟨RX7, "rests", "(III)I"⟩
abbrev cX7_shown : ByteArray := prog_1_method_38_code
def yX7_shown : MethodName := ⟨RX7, "shown", "(I)I"⟩
abbrev cX7_law : ByteArray := prog_1_method_39_code
def yX7_law : MethodName := ⟨RX7, "law", "(II)J"⟩
abbrev cX7_time : ByteArray := prog_1_method_40_code
def yX7_time : MethodName := ⟨RX7, "time", "(IIII)J"⟩
abbrev cX7_undo : ByteArray := prog_1_method_41_code
def yX7_undo : MethodName := ⟨RX7, "undo", "()I"⟩
abbrev cX7_image : ByteArray := prog_1_method_42_code
def yX7_image : MethodName := ⟨RX7, "image", "()I"⟩
abbrev cX7_on : ByteArray := prog_1_method_43_code
def yX7_on : MethodName := ⟨RX7, "on", "()I"⟩
abbrev cX7_count : ByteArray := prog_1_method_44_code
def yX7_count : MethodName := ⟨RX7, "count", "(I)I"⟩
abbrev cX7_refuse : ByteArray := prog_1_method_45_code
def yX7_refuse : MethodName := ⟨RX7, "refuse", "(I)I"⟩
abbrev cX7_refuseFar : ByteArray := prog_1_method_46_code
def yX7_refuseFar : MethodName := ⟨RX7, "refuseFar", "(I)J"⟩
abbrev cX7_rowFits : ByteArray := prog_1_method_47_code
def yX7_rowFits : MethodName := ⟨RX7, "rowFits", "(I)Z"⟩
abbrev cX7_keepLook : ByteArray := prog_1_method_48_code
def yX7_keepLook : MethodName := ⟨RX7, "keepLook", "(I)I"⟩
abbrev cX7_lacksEdge : ByteArray := prog_1_method_49_code
def yX7_lacksEdge : MethodName := ⟨RX7, "lacksEdge", "(II)I"⟩
abbrev cX7_isPart : ByteArray := prog_1_method_50_code
def yX7_isPart : MethodName := ⟨RX7, "isPart", "(I)Z"⟩
abbrev cX7_tell : ByteArray := prog_1_method_51_code
def yX7_tell : MethodName := ⟨RX7, "tell", "(JJI)J"⟩
abbrev cX7_commonDivisor : ByteArray := prog_1_method_52_code
def yX7_commonDivisor : MethodName := ⟨RX7, "commonDivisor", "(JJ)J"⟩
abbrev cX7_wholes : ByteArray := prog_1_method_53_code
def yX7_wholes : MethodName := ⟨RX7, "wholes", "(I)J"⟩
def RX8 : String := "ShowRoomModel"
def TX8 : u_T := fun k => match k with
  | 0 => ("ShowRoomModel", "truths", "I", false)
  | 1 => ("ShowRoomModel", "acts", "I", false)
  | 2 => ("ShowRoomModel", "told", "[I", true)
  | 3 => ("ShowRoomModel", "before", "[I", true)
  | 4 => ("ShowRoomModel", "gets", "[I", true)
  | 5 => ("ShowRoomModel", "tie", "I", false)
  | 6 => ("ShowRoomModel", "looks", "I", false)
  | 7 => ("ShowRoomModel", "signMany", "[I", true)
  | 8 => ("ShowRoomModel", "part", "[I", true)
  | 9 => ("ShowRoomModel", "tests", "I", false)
  | 10 => ("ShowRoomModel", "testLook", "[I", true)
  | 11 => ("ShowRoomModel", "testCost", "[I", true)
  | 12 => ("ShowRoomModel", "thoughts", "I", false)
  | 13 => ("ShowRoomModel", "thought", "[I", true)
  | 14 => ("ShowRoomModel", "share", "[I", true)
  | 15 => ("ShowRoomModel", "row", "[I", true)
  | 16 => ("ShowRoomModel", "rowMany", "I", false)
  | 17 => ("ShowRoomModel", "text", "[I", true)
  | 18 => ("ShowRoomModel", "textMany", "I", false)
  | 19 => ("ShowRoomModel", "undone", "I", false)
  | 20 => ("ShowRoomModel", "uWhat", "[I", true)
  | 21 => ("ShowRoomModel", "uAt", "[I", true)
  | 22 => ("ShowRoomModel", "uWas", "[I", true)
  | 23 => ("ShowRoomModel", "refused", "[I", true)
  | 24 => ("ShowRoomModel", "at", "I", false)
  | 25 => ("ShowRoomModel", "end", "I", false)
  | 26 => ("ShowRoomModel", "isBad", "Z", false)
  | 27 => ("ShowRoomModel", "readTruths", "I", false)
  | 28 => ("ShowRoomModel", "readActs", "I", false)
  | 29 => ("ShowRoomModel", "readWeight", "[I", true)
  | 30 => ("ShowRoomModel", "readGets", "[I", true)
  | 31 => ("ShowRoomModel", "mass", "[J", true)
  | 32 => ("ShowRoomModel", "sumLimbs", "[I", true)
  | 33 => ("ShowRoomModel", "dueLimbs", "[I", true)
  | 34 => ("ShowRoomModel", "limbs", "[I", true)
  | 35 => ("ShowRoomModel", "edgeMany", "I", false)
  | 36 => ("ShowRoomModel", "edgeA", "[J", true)
  | 37 => ("ShowRoomModel", "edgeB", "[J", true)
  | 38 => ("ShowRoomModel", "candidates", "I", false)
  | 39 => ("ShowRoomModel", "candA", "[J", true)
  | 40 => ("ShowRoomModel", "candB", "[J", true)
  | 41 => ("ShowRoomModel", "values", "[J", true)
  | 42 => ("ShowRoomModel", "heightAbove", "J", false)
  | 43 => ("ShowRoomModel", "heightBelow", "J", false)
  | 44 => ("ShowRoomModel", "bestL", "I", false)
  | 45 => ("ShowRoomModel", "bestR", "I", false)
  | 46 => ("ShowRoomModel", "topAbove", "J", false)
  | 47 => ("ShowRoomModel", "topBelow", "J", false)
  | 48 => ("ShowRoomModel", "heard", "I", false)
  | 49 => ("ShowRoomModel", "heardLook", "[I", true)
  | 50 => ("ShowRoomModel", "setAbove", "J", false)
  | 51 => ("ShowRoomModel", "setBelow", "J", false)
  | 52 => ("ShowRoomModel", "rival", "[J", true)
  | 53 => ("ShowRoomModel", "later", "[J", true)
  | 54 => ("ShowRoomModel", "kept", "[J", true)
  | 55 => ("ShowRoomModel", "hasImage", "Z", false)
  | 56 => ("ShowRoomModel", "imaged", "[I", true)
  | 57 => ("ShowRoomModel", "imageAt", "I", false)
  | _ => ("ShowRoomModel", "isTaking", "Z", false)
def tyX8 : Nat → FieldType := fun k => match k with
  | 0 => .int
  | 1 => .int
  | 2 => .array .int
  | 3 => .array .int
  | 4 => .array .int
  | 5 => .int
  | 6 => .int
  | 7 => .array .int
  | 8 => .array .int
  | 9 => .int
  | 10 => .array .int
  | 11 => .array .int
  | 12 => .int
  | 13 => .array .int
  | 14 => .array .int
  | 15 => .array .int
  | 16 => .int
  | 17 => .array .int
  | 18 => .int
  | 19 => .int
  | 20 => .array .int
  | 21 => .array .int
  | 22 => .array .int
  | 23 => .array .int
  | 24 => .int
  | 25 => .int
  | 26 => .boolean
  | 27 => .int
  | 28 => .int
  | 29 => .array .int
  | 30 => .array .int
  | 31 => .array .long
  | 32 => .array .int
  | 33 => .array .int
  | 34 => .array .int
  | 35 => .int
  | 36 => .array .long
  | 37 => .array .long
  | 38 => .int
  | 39 => .array .long
  | 40 => .array .long
  | 41 => .array .long
  | 42 => .long
  | 43 => .long
  | 44 => .int
  | 45 => .int
  | 46 => .long
  | 47 => .long
  | 48 => .int
  | 49 => .array .int
  | 50 => .long
  | 51 => .long
  | 52 => .array .long
  | 53 => .array .long
  | 54 => .array .long
  | 55 => .boolean
  | 56 => .array .int
  | 57 => .int
  | _ => .boolean
abbrev wsX80 : List Cond := u_ws RX8 TX8 59
theorem nmX8 : ∀ a, a < 59 → ∀ b, b < 59 → a ≠ b → (TX8 a).2.1 ≠ (TX8 b).2.1 := by decide +kernel
theorem tyX8_ok : ∀ k, k < 59 → parseFieldDescriptor (TX8 k).2.2.1 = some (tyX8 k) := by decide +kernel
abbrev cX8_init : ByteArray := prog_10_method_1_code
def yX8_init : MethodName := ⟨RX8, "<init>", "()V"⟩
abbrev cX8_in : ByteArray := prog_10_method_3_code
def yX8_in : MethodName := ⟨RX8, "in", "(JJJ)Z"⟩
abbrev cX8_refuse : ByteArray := prog_10_method_4_code
def yX8_refuse : MethodName := ⟨RX8, "refuse", "(I)I"⟩
abbrev cX8_refuseFar : ByteArray := prog_10_method_5_code
def yX8_refuseFar : MethodName := ⟨RX8, "refuseFar", "(I)J"⟩
abbrev cX8_divisor : ByteArray := prog_10_method_6_code
def yX8_divisor : MethodName := ⟨RX8, "divisor", "(JJ)J"⟩
abbrev cX8_fraction : ByteArray := prog_10_method_7_code
def yX8_fraction : MethodName := ⟨RX8, "fraction", "(JJI)J"⟩
abbrev cX8_isPart : ByteArray := prog_10_method_8_code
def yX8_isPart : MethodName := ⟨RX8, "isPart", "(I)Z"⟩
abbrev cX8_feed : ByteArray := prog_10_method_9_code
def yX8_feed : MethodName := ⟨RX8, "feed", "(IJ)I"⟩
abbrev cX8_here : ByteArray := prog_10_method_10_code
def yX8_here : MethodName := ⟨RX8, "here", "()I"⟩
abbrev cX8_take : ByteArray := prog_10_method_11_code
def yX8_take : MethodName := ⟨RX8, "take", "(I)V"⟩
abbrev cX8_readNumber : ByteArray := prog_10_method_12_code
def yX8_readNumber : MethodName := ⟨RX8, "readNumber", "(I)I"⟩
abbrev cX8_readSigned : ByteArray := prog_10_method_13_code
def yX8_readSigned : MethodName := ⟨RX8, "readSigned", "()I"⟩
abbrev cX8_readAct : ByteArray := prog_10_method_14_code
def yX8_readAct : MethodName := ⟨RX8, "readAct", "()V"⟩
abbrev cX8_read : ByteArray := prog_10_method_15_code
def yX8_read : MethodName := ⟨RX8, "read", "()I"⟩
abbrev cX8_isTruth : ByteArray := prog_10_method_16_code
def yX8_isTruth : MethodName := ⟨RX8, "isTruth", "(I)Z"⟩
abbrev cX8_isAct : ByteArray := prog_10_method_17_code
def yX8_isAct : MethodName := ⟨RX8, "isAct", "(I)Z"⟩
abbrev cX8_isLook : ByteArray := prog_10_method_18_code
def yX8_isLook : MethodName := ⟨RX8, "isLook", "(I)Z"⟩
abbrev cX8_isSign : ByteArray := prog_10_method_19_code
def yX8_isSign : MethodName := ⟨RX8, "isSign", "(II)Z"⟩
abbrev cX8_isTest : ByteArray := prog_10_method_20_code
def yX8_isTest : MethodName := ⟨RX8, "isTest", "(I)Z"⟩
abbrev cX8_weight : ByteArray := prog_10_method_21_code
def yX8_weight : MethodName := ⟨RX8, "weight", "(I)I"⟩
abbrev cX8_gets : ByteArray := prog_10_method_22_code
def yX8_gets : MethodName := ⟨RX8, "gets", "(III)I"⟩
abbrev cX8_keepBack : ByteArray := prog_10_method_23_code
def yX8_keepBack : MethodName := ⟨RX8, "keepBack", "(III)V"⟩
abbrev cX8_second : ByteArray := prog_10_method_24_code
def yX8_second : MethodName := ⟨RX8, "second", "(III)I"⟩
abbrev cX8_ties : ByteArray := prog_10_method_25_code
def yX8_ties : MethodName := ⟨RX8, "ties", "(I)I"⟩
abbrev cX8_sumOf : ByteArray := prog_10_method_26_code
def yX8_sumOf : MethodName := ⟨RX8, "sumOf", "(II)J"⟩
abbrev cX8_allMass : ByteArray := prog_10_method_27_code
def yX8_allMass : MethodName := ⟨RX8, "allMass", "()J"⟩
abbrev cX8_doneBy : ByteArray := prog_10_method_28_code
def yX8_doneBy : MethodName := ⟨RX8, "doneBy", "(I)I"⟩
abbrev cX8_done : ByteArray := prog_10_method_29_code
def yX8_done : MethodName := ⟨RX8, "done", "(IIII)I"⟩
abbrev cX8_put : ByteArray := prog_10_method_30_code
def yX8_put : MethodName := ⟨RX8, "put", "(I)I"⟩
abbrev cX8_place : ByteArray := prog_10_method_31_code
def yX8_place : MethodName := ⟨RX8, "place", "(III)I"⟩
abbrev cX8_newLook : ByteArray := prog_10_method_32_code
def yX8_newLook : MethodName := ⟨RX8, "newLook", "(I)I"⟩
abbrev cX8_clearLook : ByteArray := prog_10_method_33_code
def yX8_clearLook : MethodName := ⟨RX8, "clearLook", "()V"⟩
abbrev cX8_look : ByteArray := prog_10_method_34_code
def yX8_look : MethodName := ⟨RX8, "look", "(I)I"⟩
abbrev cX8_plain : ByteArray := prog_10_method_35_code
def yX8_plain : MethodName := ⟨RX8, "plain", "(I)I"⟩
abbrev cX8_bar : ByteArray := prog_10_method_36_code
def yX8_bar : MethodName := ⟨RX8, "bar", "(I)I"⟩
abbrev cX8_mix : ByteArray := prog_10_method_37_code
def yX8_mix : MethodName := ⟨RX8, "mix", "(III)I"⟩
abbrev cX8_meld : ByteArray := prog_10_method_38_code
def yX8_meld : MethodName := ⟨RX8, "meld", "(III)I"⟩
abbrev cX8_signs : ByteArray := prog_10_method_39_code
def yX8_signs : MethodName := ⟨RX8, "signs", "(I)I"⟩
abbrev cX8_parts : ByteArray := prog_10_method_40_code
def yX8_parts : MethodName := ⟨RX8, "parts", "(III)I"⟩
abbrev cX8_leave : ByteArray := prog_10_method_41_code
def yX8_leave : MethodName := ⟨RX8, "leave", "(II)Z"⟩
abbrev cX8_leaves : ByteArray := prog_10_method_42_code
def yX8_leaves : MethodName := ⟨RX8, "leaves", "(III)I"⟩
abbrev cX8_does : ByteArray := prog_10_method_43_code
def yX8_does : MethodName := ⟨RX8, "does", "(II)I"⟩
abbrev cX8_allBefore : ByteArray := prog_10_method_44_code
def yX8_allBefore : MethodName := ⟨RX8, "allBefore", "()J"⟩
abbrev cX8_gotOf : ByteArray := prog_10_method_45_code
def yX8_gotOf : MethodName := ⟨RX8, "gotOf", "(III)J"⟩
abbrev cX8_gotPlain : ByteArray := prog_10_method_46_code
def yX8_gotPlain : MethodName := ⟨RX8, "gotPlain", "(II)J"⟩
abbrev cX8_wrongLook : ByteArray := prog_10_method_47_code
def yX8_wrongLook : MethodName := ⟨RX8, "wrongLook", "(II)I"⟩
abbrev cX8_worth : ByteArray := prog_10_method_48_code
def yX8_worth : MethodName := ⟨RX8, "worth", "(IZI)J"⟩
abbrev cX8_harm : ByteArray := prog_10_method_49_code
def yX8_harm : MethodName := ⟨RX8, "harm", "(II)J"⟩
abbrev cX8_think : ByteArray := prog_10_method_50_code
def yX8_think : MethodName := ⟨RX8, "think", "(IIIII)I"⟩
abbrev cX8_forget : ByteArray := prog_10_method_51_code
def yX8_forget : MethodName := ⟨RX8, "forget", "()I"⟩
abbrev cX8_allOf : ByteArray := prog_10_method_52_code
def yX8_allOf : MethodName := ⟨RX8, "allOf", "(I)I"⟩
abbrev cX8_allShares : ByteArray := prog_10_method_53_code
def yX8_allShares : MethodName := ⟨RX8, "allShares", "()I"⟩
abbrev cX8_begin : ByteArray := prog_10_method_54_code
def yX8_begin : MethodName := ⟨RX8, "begin", "(I)V"⟩
abbrev cX8_times : ByteArray := prog_10_method_55_code
def yX8_times : MethodName := ⟨RX8, "times", "(I)V"⟩
abbrev cX8_addLimbs : ByteArray := prog_10_method_56_code
def yX8_addLimbs : MethodName := ⟨RX8, "addLimbs", "()V"⟩
abbrev cX8_isLeft : ByteArray := prog_10_method_57_code
def yX8_isLeft : MethodName := ⟨RX8, "isLeft", "(I)Z"⟩
abbrev cX8_firstOther : ByteArray := prog_10_method_58_code
def yX8_firstOther : MethodName := ⟨RX8, "firstOther", "()I"⟩
abbrev cX8_made : ByteArray := prog_10_method_59_code
def yX8_made : MethodName := ⟨RX8, "made", "()I"⟩
abbrev cX8_chance : ByteArray := prog_10_method_60_code
def yX8_chance : MethodName := ⟨RX8, "chance", "(III)J"⟩
abbrev cX8_addCandidate : ByteArray := prog_10_method_61_code
def yX8_addCandidate : MethodName := ⟨RX8, "addCandidate", "(JJ)V"⟩
abbrev cX8_addMeeting : ByteArray := prog_10_method_62_code
def yX8_addMeeting : MethodName := ⟨RX8, "addMeeting", "(III)V"⟩
abbrev cX8_doneAt : ByteArray := prog_10_method_63_code
def yX8_doneAt : MethodName := ⟨RX8, "doneAt", "(JJ)I"⟩
abbrev cX8_doneBetween : ByteArray := prog_10_method_64_code
def yX8_doneBetween : MethodName := ⟨RX8, "doneBetween", "(JJJJ)I"⟩
abbrev cX8_addEdge : ByteArray := prog_10_method_65_code
def yX8_addEdge : MethodName := ⟨RX8, "addEdge", "(JJ)V"⟩
abbrev cX8_findEdges : ByteArray := prog_10_method_66_code
def yX8_findEdges : MethodName := ⟨RX8, "findEdges", "()V"⟩
abbrev cX8_valueOf : ByteArray := prog_10_method_67_code
def yX8_valueOf : MethodName := ⟨RX8, "valueOf", "(I)J"⟩
abbrev cX8_edges : ByteArray := prog_10_method_68_code
def yX8_edges : MethodName := ⟨RX8, "edges", "()I"⟩
abbrev cX8_edge : ByteArray := prog_10_method_69_code
def yX8_edge : MethodName := ⟨RX8, "edge", "(II)J"⟩
abbrev cX8_value : ByteArray := prog_10_method_70_code
def yX8_value : MethodName := ⟨RX8, "value", "(II)J"⟩
abbrev cX8_findHeight : ByteArray := prog_10_method_71_code
def yX8_findHeight : MethodName := ⟨RX8, "findHeight", "(III)V"⟩
abbrev cX8_isBelow : ByteArray := prog_10_method_72_code
def yX8_isBelow : MethodName := ⟨RX8, "isBelow", "(II)Z"⟩
abbrev cX8_findBest : ByteArray := prog_10_method_73_code
def yX8_findBest : MethodName := ⟨RX8, "findBest", "()V"⟩
abbrev cX8_isHigher : ByteArray := prog_10_method_74_code
def yX8_isHigher : MethodName := ⟨RX8, "isHigher", "(II)Z"⟩
abbrev cX8_best : ByteArray := prog_10_method_75_code
def yX8_best : MethodName := ⟨RX8, "best", "(II)J"⟩
abbrev cX8_corners : ByteArray := prog_10_method_76_code
def yX8_corners : MethodName := ⟨RX8, "corners", "()I"⟩
abbrev cX8_prove : ByteArray := prog_10_method_77_code
def yX8_prove : MethodName := ⟨RX8, "prove", "(IIII)I"⟩
abbrev cX8_test : ByteArray := prog_10_method_78_code
def yX8_test : MethodName := ⟨RX8, "test", "(II)I"⟩
abbrev cX8_power : ByteArray := prog_10_method_79_code
def yX8_power : MethodName := ⟨RX8, "power", "(I)J"⟩
abbrev cX8_waysOf : ByteArray := prog_10_method_80_code
def yX8_waysOf : MethodName := ⟨RX8, "waysOf", "(I)I"⟩
abbrev cX8_hearWay : ByteArray := prog_10_method_81_code
def yX8_hearWay : MethodName := ⟨RX8, "hearWay", "(II)Z"⟩
abbrev cX8_gotTogether : ByteArray := prog_10_method_82_code
def yX8_gotTogether : MethodName := ⟨RX8, "gotTogether", "(I)J"⟩
abbrev cX8_ones : ByteArray := prog_10_method_83_code
def yX8_ones : MethodName := ⟨RX8, "ones", "(I)I"⟩
abbrev cX8_costOf : ByteArray := prog_10_method_84_code
def yX8_costOf : MethodName := ⟨RX8, "costOf", "(I)I"⟩
abbrev cX8_hearSet : ByteArray := prog_10_method_85_code
def yX8_hearSet : MethodName := ⟨RX8, "hearSet", "(I)V"⟩
abbrev cX8_findSet : ByteArray := prog_10_method_86_code
def yX8_findSet : MethodName := ⟨RX8, "findSet", "(IZ)V"⟩
abbrev cX8_isSet : ByteArray := prog_10_method_87_code
def yX8_isSet : MethodName := ⟨RX8, "isSet", "(I)Z"⟩
abbrev cX8_set : ByteArray := prog_10_method_88_code
def yX8_set : MethodName := ⟨RX8, "set", "(II)J"⟩
abbrev cX8_chosen : ByteArray := prog_10_method_89_code
def yX8_chosen : MethodName := ⟨RX8, "chosen", "()I"⟩
abbrev cX8_enough : ByteArray := prog_10_method_90_code
def yX8_enough : MethodName := ⟨RX8, "enough", "(II)I"⟩
abbrev cX8_hear : ByteArray := prog_10_method_91_code
def yX8_hear : MethodName := ⟨RX8, "hear", "(III)J"⟩
abbrev cX8_knows : ByteArray := prog_10_method_92_code
def yX8_knows : MethodName := ⟨RX8, "knows", "(IIZI)J"⟩
abbrev cX8_findRivals : ByteArray := prog_10_method_93_code
def yX8_findRivals : MethodName := ⟨RX8, "findRivals", "()V"⟩
abbrev cX8_mayChoose : ByteArray := prog_10_method_94_code
def yX8_mayChoose : MethodName := ⟨RX8, "mayChoose", "(II)Z"⟩
abbrev cX8_isRest : ByteArray := prog_10_method_95_code
def yX8_isRest : MethodName := ⟨RX8, "isRest", "(IIII)Z"⟩
abbrev cX8_rests : ByteArray := prog_10_method_96_code
def yX8_rests : MethodName := ⟨RX8, "rests", "(III)I"⟩
abbrev cX8_beSilent : ByteArray := prog_10_method_97_code
def yX8_beSilent : MethodName := ⟨RX8, "beSilent", "(II)Z"⟩
abbrev cX8_findShown : ByteArray := prog_10_method_98_code
def yX8_findShown : MethodName := ⟨RX8, "findShown", "(I)I"⟩
abbrev cX8_shown : ByteArray := prog_10_method_99_code
def yX8_shown : MethodName := ⟨RX8, "shown", "(I)I"⟩
abbrev cX8_law : ByteArray := prog_10_method_100_code
def yX8_law : MethodName := ⟨RX8, "law", "(II)J"⟩
abbrev cX8_time : ByteArray := prog_10_method_101_code
def yX8_time : MethodName := ⟨RX8, "time", "(IIII)J"⟩
abbrev cX8_undo : ByteArray := prog_10_method_102_code
def yX8_undo : MethodName := ⟨RX8, "undo", "()I"⟩
abbrev cX8_move : ByteArray := prog_10_method_103_code
def yX8_move : MethodName := ⟨RX8, "move", "(I)I"⟩
abbrev cX8_moveAll : ByteArray := prog_10_method_104_code
def yX8_moveAll : MethodName := ⟨RX8, "moveAll", "()V"⟩
abbrev cX8_image : ByteArray := prog_10_method_105_code
def yX8_image : MethodName := ⟨RX8, "image", "()I"⟩
abbrev cX8_on : ByteArray := prog_10_method_106_code
def yX8_on : MethodName := ⟨RX8, "on", "()I"⟩
abbrev cX8_count : ByteArray := prog_10_method_107_code
def yX8_count : MethodName := ⟨RX8, "count", "(I)I"⟩
def RJ6 : String := "java/lang/Integer"
def TJ6 : u_T := fun k => match k with
  | _ => ("", "", "", false)
def tyJ6 : Nat → FieldType := fun k => match k with
  | _ => .int
abbrev wsJ60 : List Cond := u_ws RJ6 TJ6 0
theorem nmJ6 : ∀ a, a < 0 → ∀ b, b < 0 → a ≠ b → (TJ6 a).2.1 ≠ (TJ6 b).2.1 := by decide +kernel
theorem tyJ6_ok : ∀ k, k < 0 → parseFieldDescriptor (TJ6 k).2.2.1 = some (tyJ6 k) := by decide +kernel
abbrev cJ6_bitCount_0f7a4 : ByteArray := prog_11_method_49_code
def yJ6_bitCount_0f7a4 : MethodName := ⟨RJ6, "bitCount", "(I)I"⟩
def RJ9 : String := "java/lang/Math"
def TJ9 : u_T := fun k => match k with
  | _ => ("", "", "", false)
def tyJ9 : Nat → FieldType := fun k => match k with
  | _ => .int
abbrev wsJ90 : List Cond := u_ws RJ9 TJ9 0
theorem nmJ9 : ∀ a, a < 0 → ∀ b, b < 0 → a ≠ b → (TJ9 a).2.1 ≠ (TJ9 b).2.1 := by decide +kernel
theorem tyJ9_ok : ∀ k, k < 0 → parseFieldDescriptor (TJ9 k).2.2.1 = some (tyJ9 k) := by decide +kernel
abbrev cJ9_abs_067f4 : ByteArray := prog_12_method_61_code
def yJ9_abs_067f4 : MethodName := ⟨RJ9, "abs", "(J)J"⟩
abbrev cJ9_max_7cf53 : ByteArray := prog_12_method_65_code
def yJ9_max_7cf53 : MethodName := ⟨RJ9, "max", "(II)I"⟩
abbrev cJ9_max_f86c9 : ByteArray := prog_12_method_66_code
def yJ9_max_f86c9 : MethodName := ⟨RJ9, "max", "(JJ)J"⟩
abbrev cJ9_min_7cf53 : ByteArray := prog_12_method_69_code
def yJ9_min_7cf53 : MethodName := ⟨RJ9, "min", "(II)I"⟩
abbrev cJ9_min_f86c9 : ByteArray := prog_12_method_70_code
def yJ9_min_f86c9 : MethodName := ⟨RJ9, "min", "(JJ)J"⟩
def RJ10 : String := "java/lang/System"
def TJ10 : u_T := fun k => match k with
  | _ => ("", "", "", false)
def tyJ10 : Nat → FieldType := fun k => match k with
  | _ => .int
abbrev wsJ100 : List Cond := u_ws RJ10 TJ10 0
theorem nmJ10 : ∀ a, a < 0 → ∀ b, b < 0 → a ≠ b → (TJ10 a).2.1 ≠ (TJ10 b).2.1 := by decide +kernel
theorem tyJ10_ok : ∀ k, k < 0 → parseFieldDescriptor (TJ10 k).2.2.1 = some (tyJ10 k) := by decide +kernel
def RL : String := "ShowRoomLaw"
abbrev cL_law : ByteArray := code
def yL_law : MethodName := ⟨RL, "law", "([I)Z"⟩
abbrev vwCl : List vw_C := [(RX0, TX0, 5), (RX1, TX1, 13), (RX2, TX2, 5), (RX3, TX3, 4), (RX4, TX4, 19), (RX5, TX5, 2), (RX6, TX6, 9), (RX7, TX7, 11), (RX8, TX8, 59)]
-- the cells, by number: an array of ints, of longs, an object (its class, its fields: 0 int, 1 long, 2 boolean, k+3 the cell k)
def layL : List (Nat ⊕ (Nat ⊕ (Nat × List Nat))) := [
  .inr (.inr (7, [4, 9, 0, 10, 22, 34, 38, 42, 48, 50, 51])),
  .inr (.inr (6, [5, 0, 0, 0, 0, 0, 6, 7, 8])),
  .inl 90,
  .inl 4,
  .inl 24,
  .inl 24,
  .inl 24,
  .inr (.inr (4, [2, 0, 0, 0, 11, 12, 1, 13, 14, 15, 0, 16, 17, 0, 18, 19, 0, 20, 21])),
  .inl 4,
  .inr (.inl 4),
  .inl 24,
  .inl 24,
  .inl 24,
  .inl 12,
  .inl 288,
  .inl 6,
  .inl 6,
  .inl 16,
  .inl 4,
  .inr (.inr (4, [2, 0, 0, 0, 23, 24, 1, 25, 26, 27, 0, 28, 29, 0, 30, 31, 0, 32, 33])),
  .inl 4,
  .inr (.inl 4),
  .inl 24,
  .inl 24,
  .inl 24,
  .inl 12,
  .inl 288,
  .inl 6,
  .inl 6,
  .inl 16,
  .inl 4,
  .inr (.inr (3, [0, 35, 36, 37])),
  .inl 30,
  .inl 30,
  .inl 30,
  .inr (.inr (0, [10, 39, 40, 41, 0])),
  .inr (.inl 16),
  .inl 3,
  .inl 3,
  .inr (.inr (1, [10, 38, 43, 44, 0, 45, 46, 47, 0, 0, 0, 1, 1])),
  .inr (.inl 34),
  .inr (.inl 34),
  .inr (.inl 34),
  .inr (.inl 34),
  .inr (.inl 34),
  .inr (.inr (2, [10, 38, 49, 0, 0])),
  .inr (.inl 49),
  .inr (.inr (5, [10, 38])),
  .inl 7,
  .inr (.inr (8, [0, 0, 53, 54, 55, 0, 0, 56, 57, 0, 58, 59, 0, 60, 61, 62, 0, 63, 0, 0, 64, 65, 66, 67, 0, 0, 2, 0, 0, 68, 69, 70, 71, 72, 73, 0, 74, 75, 0, 76, 77, 78, 1, 1, 0, 0, 1, 1, 0, 79, 1, 1, 80, 81, 82, 2, 83, 0, 2])),
  .inl 4,
  .inl 4,
  .inl 72,
  .inl 13,
  .inl 312,
  .inl 6,
  .inl 6,
  .inl 24,
  .inl 6,
  .inl 24,
  .inl 90,
  .inl 30,
  .inl 30,
  .inl 30,
  .inl 7,
  .inl 4,
  .inl 48,
  .inr (.inl 4),
  .inl 12,
  .inl 12,
  .inl 12,
  .inr (.inl 40),
  .inr (.inl 40),
  .inr (.inl 40),
  .inr (.inl 40),
  .inr (.inl 41),
  .inl 3,
  .inr (.inl 49),
  .inr (.inl 216),
  .inr (.inl 216),
  .inl 500]
