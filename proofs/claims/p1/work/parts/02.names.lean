def RX0 : String := "Wavesale$Bundle"
def TX0 : u_T := fun k => match k with
  | _ => ("", "", "", false)
def tyX0 : Nat → FieldType := fun k => match k with
  | _ => .int
abbrev wsX00 : List Cond := u_ws RX0 TX0 0
theorem nmX0 : ∀ a, a < 0 → ∀ b, b < 0 → a ≠ b → (TX0 a).2.1 ≠ (TX0 b).2.1 := by decide +kernel
theorem tyX0_ok : ∀ k, k < 0 → parseFieldDescriptor (TX0 k).2.2.1 = some (tyX0 k) := by decide +kernel
abbrev cX0_many : ByteArray := prog_2_method_2_code
def yX0_many : MethodName := ⟨RX0, "many", "(II)I"⟩
abbrev cX0_replaced : ByteArray := prog_2_method_3_code
def yX0_replaced : MethodName := ⟨RX0, "replaced", "(III)I"⟩
abbrev cX0_total : ByteArray := prog_2_method_4_code
def yX0_total : MethodName := ⟨RX0, "total", "(I[I)I"⟩
abbrev cX0_together : ByteArray := prog_2_method_5_code
def yX0_together : MethodName := ⟨RX0, "together", "([II)I"⟩
abbrev cX0_isWithin : ByteArray := prog_2_method_6_code
def yX0_isWithin : MethodName := ⟨RX0, "isWithin", "(I[I)Z"⟩
abbrev cX0_dearer : ByteArray := prog_2_method_7_code
def yX0_dearer : MethodName := ⟨RX0, "dearer", "(II[I[I)I"⟩
def RX1 : String := "Wavesale$Clock"
def TX1 : u_T := fun k => match k with
  | 0 => ("Wavesale$Clock", "price", "[I", true)
  | 1 => ("Wavesale$Clock", "held", "[I", true)
  | 2 => ("Wavesale$Clock", "wished", "[I", true)
  | 3 => ("Wavesale$Clock", "eligible", "[I", true)
  | 4 => ("Wavesale$Clock", "waivers", "[I", true)
  | 5 => ("Wavesale$Clock", "contradictions", "[I", true)
  | 6 => ("Wavesale$Clock", "logPrice", "[[I", true)
  | 7 => ("Wavesale$Clock", "logWished", "[[I", true)
  | 8 => ("Wavesale$Clock", "logHeld", "[[I", true)
  | 9 => ("Wavesale$Clock", "rounds", "I", false)
  | 10 => ("Wavesale$Clock", "logStep", "[I", true)
  | 11 => ("Wavesale$Clock", "logWaived", "[I", true)
  | _ => ("Wavesale$Clock", "waived", "I", false)
def tyX1 : Nat → FieldType := fun k => match k with
  | 0 => .array .int
  | 1 => .array .int
  | 2 => .array .int
  | 3 => .array .int
  | 4 => .array .int
  | 5 => .array .int
  | 6 => .array (.array .int)
  | 7 => .array (.array .int)
  | 8 => .array (.array .int)
  | 9 => .int
  | 10 => .array .int
  | 11 => .array .int
  | _ => .int
abbrev wsX10 : List Cond := u_ws RX1 TX1 13
theorem nmX1 : ∀ a, a < 13 → ∀ b, b < 13 → a ≠ b → (TX1 a).2.1 ≠ (TX1 b).2.1 := by decide +kernel
theorem tyX1_ok : ∀ k, k < 13 → parseFieldDescriptor (TX1 k).2.2.1 = some (tyX1 k) := by decide +kernel
abbrev cX1_init : ByteArray := prog_3_method_1_code
def yX1_init : MethodName := ⟨RX1, "<init>", "()V"⟩
abbrev cX1_begin : ByteArray := prog_3_method_2_code
def yX1_begin : MethodName := ⟨RX1, "begin", "(LWavesale$Terms;)V"⟩
abbrev cX1_mayWish : ByteArray := prog_3_method_3_code
def yX1_mayWish : MethodName := ⟨RX1, "mayWish", "(LWavesale$Terms;III)Z"⟩
abbrev cX1_wishedByAllies : ByteArray := prog_3_method_4_code
def yX1_wishedByAllies : MethodName := ⟨RX1, "wishedByAllies", "(LWavesale$Terms;II)I"⟩
abbrev cX1_greatestWish : ByteArray := prog_3_method_5_code
def yX1_greatestWish : MethodName := ⟨RX1, "greatestWish", "(LWavesale$Terms;II)I"⟩
abbrev cX1_hasWaived : ByteArray := prog_3_method_6_code
def yX1_hasWaived : MethodName := ⟨RX1, "hasWaived", "(I)Z"⟩
abbrev cX1_useWaiver : ByteArray := prog_3_method_7_code
def yX1_useWaiver : MethodName := ⟨RX1, "useWaiver", "(I)V"⟩
abbrev cX1_closeRound : ByteArray := prog_3_method_8_code
def yX1_closeRound : MethodName := ⟨RX1, "closeRound", "(LWavesale$Terms;I)Z"⟩
abbrev cX1_undoContradictions : ByteArray := prog_3_method_9_code
def yX1_undoContradictions : MethodName := ⟨RX1, "undoContradictions", "(LWavesale$Terms;)V"⟩
abbrev cX1_contradictedRound : ByteArray := prog_3_method_10_code
def yX1_contradictedRound : MethodName := ⟨RX1, "contradictedRound", "(I)I"⟩
abbrev cX1_lowerEligible : ByteArray := prog_3_method_11_code
def yX1_lowerEligible : MethodName := ⟨RX1, "lowerEligible", "(LWavesale$Terms;)V"⟩
abbrev cX1_moveHeld : ByteArray := prog_3_method_12_code
def yX1_moveHeld : MethodName := ⟨RX1, "moveHeld", "(LWavesale$Terms;I)V"⟩
abbrev cX1_raisePrices : ByteArray := prog_3_method_13_code
def yX1_raisePrices : MethodName := ⟨RX1, "raisePrices", "(LWavesale$Terms;I)Z"⟩
abbrev cX1_runLog : ByteArray := prog_3_method_14_code
def yX1_runLog : MethodName := ⟨RX1, "runLog", "(LWavesale$Terms;LWavesale$Clock;IIII)V"⟩
abbrev cX1_lastValue : ByteArray := prog_3_method_15_code
def yX1_lastValue : MethodName := ⟨RX1, "lastValue", "(I)I"⟩
abbrev cX1_allPrices : ByteArray := prog_3_method_16_code
def yX1_allPrices : MethodName := ⟨RX1, "allPrices", "()I"⟩
abbrev cX1_allContradictions : ByteArray := prog_3_method_17_code
def yX1_allContradictions : MethodName := ⟨RX1, "allContradictions", "()I"⟩
def RX2 : String := "Wavesale$Market"
def TX2 : u_T := fun k => match k with
  | 0 => ("Wavesale$Market", "counts", "[I", true)
  | 1 => ("Wavesale$Market", "codes", "[[I", true)
  | 2 => ("Wavesale$Market", "amounts", "[[I", true)
  | 3 => ("Wavesale$Market", "winner", "[I", true)
  | 4 => ("Wavesale$Market", "worths", "[I", true)
  | 5 => ("Wavesale$Market", "out", "I", false)
  | 6 => ("Wavesale$Market", "best", "[I", true)
  | 7 => ("Wavesale$Market", "bestPicks", "[[I", true)
  | 8 => ("Wavesale$Market", "picks", "[I", true)
  | 9 => ("Wavesale$Market", "taken", "[I", true)
  | _ => ("Wavesale$Market", "takenByGroup", "[[I", true)
def tyX2 : Nat → FieldType := fun k => match k with
  | 0 => .array .int
  | 1 => .array (.array .int)
  | 2 => .array (.array .int)
  | 3 => .array .int
  | 4 => .array .int
  | 5 => .int
  | 6 => .array .int
  | 7 => .array (.array .int)
  | 8 => .array .int
  | 9 => .array .int
  | _ => .array (.array .int)
abbrev wsX20 : List Cond := u_ws RX2 TX2 11
theorem nmX2 : ∀ a, a < 11 → ∀ b, b < 11 → a ≠ b → (TX2 a).2.1 ≠ (TX2 b).2.1 := by decide +kernel
theorem tyX2_ok : ∀ k, k < 11 → parseFieldDescriptor (TX2 k).2.2.1 = some (tyX2 k) := by decide +kernel
abbrev cX2_init : ByteArray := prog_4_method_1_code
def yX2_init : MethodName := ⟨RX2, "<init>", "()V"⟩
abbrev cX2_isOut : ByteArray := prog_4_method_2_code
def yX2_isOut : MethodName := ⟨RX2, "isOut", "(I)Z"⟩
abbrev cX2_winners : ByteArray := prog_4_method_3_code
def yX2_winners : MethodName := ⟨RX2, "winners", "()I"⟩
abbrev cX2_amountWon : ByteArray := prog_4_method_4_code
def yX2_amountWon : MethodName := ⟨RX2, "amountWon", "(I)I"⟩
abbrev cX2_blocksWon : ByteArray := prog_4_method_5_code
def yX2_blocksWon : MethodName := ⟨RX2, "blocksWon", "(II)I"⟩
abbrev cX2_add : ByteArray := prog_4_method_6_code
def yX2_add : MethodName := ⟨RX2, "add", "(LWavesale$Terms;III)V"⟩
abbrev cX2_leaveOut : ByteArray := prog_4_method_7_code
def yX2_leaveOut : MethodName := ⟨RX2, "leaveOut", "(I)V"⟩
abbrev cX2_pickFrom : ByteArray := prog_4_method_8_code
def yX2_pickFrom : MethodName := ⟨RX2, "pickFrom", "(LWavesale$Market;LWavesale$Terms;IIII)V"⟩
abbrev cX2_fits : ByteArray := prog_4_method_9_code
def yX2_fits : MethodName := ⟨RX2, "fits", "(LWavesale$Terms;II)Z"⟩
abbrev cX2_take : ByteArray := prog_4_method_10_code
def yX2_take : MethodName := ⟨RX2, "take", "(LWavesale$Terms;II)V"⟩
abbrev cX2_giveBack : ByteArray := prog_4_method_11_code
def yX2_giveBack : MethodName := ⟨RX2, "giveBack", "(LWavesale$Terms;II)V"⟩
abbrev cX2_moveTaken : ByteArray := prog_4_method_12_code
def yX2_moveTaken : MethodName := ⟨RX2, "moveTaken", "(LWavesale$Terms;III)V"⟩
abbrev cX2_keepIfBetter : ByteArray := prog_4_method_13_code
def yX2_keepIfBetter : MethodName := ⟨RX2, "keepIfBetter", "(II)V"⟩
abbrev cX2_isAhead : ByteArray := prog_4_method_14_code
def yX2_isAhead : MethodName := ⟨RX2, "isAhead", "([I[I)Z"⟩
abbrev cX2_findWinners : ByteArray := prog_4_method_15_code
def yX2_findWinners : MethodName := ⟨RX2, "findWinners", "()V"⟩
abbrev cX2_worthOf : ByteArray := prog_4_method_16_code
def yX2_worthOf : MethodName := ⟨RX2, "worthOf", "(I)I"⟩
abbrev cX2_signals : ByteArray := prog_4_method_17_code
def yX2_signals : MethodName := ⟨RX2, "signals", "(LWavesale$Terms;)I"⟩
abbrev cX2_isSignal : ByteArray := prog_4_method_18_code
def yX2_isSignal : MethodName := ⟨RX2, "isSignal", "(LWavesale$Terms;II)Z"⟩
abbrev cX2_asksFor : ByteArray := prog_4_method_19_code
def yX2_asksFor : MethodName := ⟨RX2, "asksFor", "(II)Z"⟩
def RX3 : String := "Wavesale$Names"
def TX3 : u_T := fun k => match k with
  | 0 => ("Wavesale$Names", "holders", "[[I", true)
  | _ => ("Wavesale$Names", "clashes", "I", false)
def tyX3 : Nat → FieldType := fun k => match k with
  | 0 => .array (.array .int)
  | _ => .int
abbrev wsX30 : List Cond := u_ws RX3 TX3 2
theorem nmX3 : ∀ a, a < 2 → ∀ b, b < 2 → a ≠ b → (TX3 a).2.1 ≠ (TX3 b).2.1 := by decide +kernel
theorem tyX3_ok : ∀ k, k < 2 → parseFieldDescriptor (TX3 k).2.2.1 = some (tyX3 k) := by decide +kernel
abbrev cX3_init : ByteArray := prog_5_method_1_code
def yX3_init : MethodName := ⟨RX3, "<init>", "()V"⟩
abbrev cX3_give : ByteArray := prog_5_method_2_code
def yX3_give : MethodName := ⟨RX3, "give", "(LWavesale$Terms;LWavesale$Market;)V"⟩
abbrev cX3_giveByTurn : ByteArray := prog_5_method_3_code
def yX3_giveByTurn : MethodName := ⟨RX3, "giveByTurn", "(LWavesale$Terms;LWavesale$Market;II)V"⟩
abbrev cX3_clashesOf : ByteArray := prog_5_method_4_code
def yX3_clashesOf : MethodName := ⟨RX3, "clashesOf", "(LWavesale$Terms;I)I"⟩
abbrev cX3_clashesBetween : ByteArray := prog_5_method_5_code
def yX3_clashesBetween : MethodName := ⟨RX3, "clashesBetween", "([I[I)I"⟩
abbrev cX3_draw : ByteArray := prog_5_method_6_code
def yX3_draw : MethodName := ⟨RX3, "draw", "(LWavesale$Terms;ILjava/lang/StringBuilder;)V"⟩
abbrev cX3_agreeWith : ByteArray := prog_5_method_7_code
def yX3_agreeWith : MethodName := ⟨RX3, "agreeWith", "(LWavesale$Terms;LWavesale$Market;)Z"⟩
abbrev cX3_heldBy : ByteArray := prog_5_method_8_code
def yX3_heldBy : MethodName := ⟨RX3, "heldBy", "(II)I"⟩
def RX4 : String := "Wavesale$Payments"
def TX4 : u_T := fun k => match k with
  | _ => ("Wavesale$Payments", "rows", "[[I", true)
def tyX4 : Nat → FieldType := fun k => match k with
  | _ => .array (.array .int)
abbrev wsX40 : List Cond := u_ws RX4 TX4 1
theorem nmX4 : ∀ a, a < 1 → ∀ b, b < 1 → a ≠ b → (TX4 a).2.1 ≠ (TX4 b).2.1 := by decide +kernel
theorem tyX4_ok : ∀ k, k < 1 → parseFieldDescriptor (TX4 k).2.2.1 = some (tyX4 k) := by decide +kernel
abbrev cX4_init : ByteArray := prog_6_method_1_code
def yX4_init : MethodName := ⟨RX4, "<init>", "()V"⟩
abbrev cX4_find : ByteArray := prog_6_method_2_code
def yX4_find : MethodName := ⟨RX4, "find", "(LWavesale$Market;)V"⟩
abbrev cX4_harmOf : ByteArray := prog_6_method_3_code
def yX4_harmOf : MethodName := ⟨RX4, "harmOf", "(LWavesale$Market;I)I"⟩
abbrev cX4_objection : ByteArray := prog_6_method_4_code
def yX4_objection : MethodName := ⟨RX4, "objection", "(LWavesale$Market;II)I"⟩
abbrev cX4_strongest : ByteArray := prog_6_method_5_code
def yX4_strongest : MethodName := ⟨RX4, "strongest", "(LWavesale$Market;)I"⟩
abbrev cX4_raiseOutside : ByteArray := prog_6_method_6_code
def yX4_raiseOutside : MethodName := ⟨RX4, "raiseOutside", "(II)V"⟩
abbrev cX4_raiseEach : ByteArray := prog_6_method_7_code
def yX4_raiseEach : MethodName := ⟨RX4, "raiseEach", "(III)I"⟩
abbrev cX4_roomOutside : ByteArray := prog_6_method_8_code
def yX4_roomOutside : MethodName := ⟨RX4, "roomOutside", "(II)I"⟩
def RX5 : String := "Wavesale$Stations"
def TX5 : u_T := fun k => match k with
  | 0 => ("Wavesale$Stations", "asks", "[I", true)
  | 1 => ("Wavesale$Stations", "count", "I", false)
  | 2 => ("Wavesale$Stations", "regions", "[I", true)
  | 3 => ("Wavesale$Stations", "disturbed", "[I", true)
  | _ => ("Wavesale$Stations", "inChannel", "[I", true)
def tyX5 : Nat → FieldType := fun k => match k with
  | 0 => .array .int
  | 1 => .int
  | 2 => .array .int
  | 3 => .array .int
  | _ => .array .int
abbrev wsX50 : List Cond := u_ws RX5 TX5 5
theorem nmX5 : ∀ a, a < 5 → ∀ b, b < 5 → a ≠ b → (TX5 a).2.1 ≠ (TX5 b).2.1 := by decide +kernel
theorem tyX5_ok : ∀ k, k < 5 → parseFieldDescriptor (TX5 k).2.2.1 = some (tyX5 k) := by decide +kernel
abbrev cX5_init : ByteArray := prog_7_method_1_code
def yX5_init : MethodName := ⟨RX5, "<init>", "()V"⟩
abbrev cX5_add : ByteArray := prog_7_method_2_code
def yX5_add : MethodName := ⟨RX5, "add", "(II)I"⟩
abbrev cX5_countIn : ByteArray := prog_7_method_3_code
def yX5_countIn : MethodName := ⟨RX5, "countIn", "(I)I"⟩
abbrev cX5_pack : ByteArray := prog_7_method_4_code
def yX5_pack : MethodName := ⟨RX5, "pack", "(LWavesale$Terms;II)Z"⟩
abbrev cX5_channelOf : ByteArray := prog_7_method_5_code
def yX5_channelOf : MethodName := ⟨RX5, "channelOf", "(I)I"⟩
abbrev cX5_cheapest : ByteArray := prog_7_method_6_code
def yX5_cheapest : MethodName := ⟨RX5, "cheapest", "(LWavesale$Terms;I)I"⟩
abbrev cX5_asksOf : ByteArray := prog_7_method_7_code
def yX5_asksOf : MethodName := ⟨RX5, "asksOf", "(I)I"⟩
abbrev cX5_findDisturbed : ByteArray := prog_7_method_8_code
def yX5_findDisturbed : MethodName := ⟨RX5, "findDisturbed", "(LWavesale$Terms;)V"⟩
abbrev cX5_packAgain : ByteArray := prog_7_method_9_code
def yX5_packAgain : MethodName := ⟨RX5, "packAgain", "(II)Z"⟩
abbrev cX5_packFrom : ByteArray := prog_7_method_10_code
def yX5_packFrom : MethodName := ⟨RX5, "packFrom", "(LWavesale$Stations;IIII)Z"⟩
def RX6 : String := "Wavesale$Terms"
def TX6 : u_T := fun k => match k with
  | 0 => ("Wavesale$Terms", "supply", "[I", true)
  | 1 => ("Wavesale$Terms", "points", "[I", true)
  | 2 => ("Wavesale$Terms", "start", "[I", true)
  | 3 => ("Wavesale$Terms", "neighbours", "[I", true)
  | 4 => ("Wavesale$Terms", "regions", "I", false)
  | 5 => ("Wavesale$Terms", "budget", "[I", true)
  | 6 => ("Wavesale$Terms", "eligible", "[I", true)
  | 7 => ("Wavesale$Terms", "credit", "[I", true)
  | 8 => ("Wavesale$Terms", "group", "[I", true)
  | 9 => ("Wavesale$Terms", "bidders", "I", false)
  | 10 => ("Wavesale$Terms", "cap", "I", false)
  | _ => ("Wavesale$Terms", "isRule", "Z", false)
def tyX6 : Nat → FieldType := fun k => match k with
  | 0 => .array .int
  | 1 => .array .int
  | 2 => .array .int
  | 3 => .array .int
  | 4 => .int
  | 5 => .array .int
  | 6 => .array .int
  | 7 => .array .int
  | 8 => .array .int
  | 9 => .int
  | 10 => .int
  | _ => .boolean
abbrev wsX60 : List Cond := u_ws RX6 TX6 12
theorem nmX6 : ∀ a, a < 12 → ∀ b, b < 12 → a ≠ b → (TX6 a).2.1 ≠ (TX6 b).2.1 := by decide +kernel
theorem tyX6_ok : ∀ k, k < 12 → parseFieldDescriptor (TX6 k).2.2.1 = some (tyX6 k) := by decide +kernel
abbrev cX6_init : ByteArray := prog_8_method_1_code
def yX6_init : MethodName := ⟨RX6, "<init>", "()V"⟩
abbrev cX6_addRegion : ByteArray := prog_8_method_2_code
def yX6_addRegion : MethodName := ⟨RX6, "addRegion", "(III)I"⟩
abbrev cX6_addBorder : ByteArray := prog_8_method_3_code
def yX6_addBorder : MethodName := ⟨RX6, "addBorder", "(II)I"⟩
abbrev cX6_addBidder : ByteArray := prog_8_method_4_code
def yX6_addBidder : MethodName := ⟨RX6, "addBidder", "(IIII)I"⟩
abbrev cX6_areNeighbours : ByteArray := prog_8_method_5_code
def yX6_areNeighbours : MethodName := ⟨RX6, "areNeighbours", "(II)Z"⟩
abbrev cX6_areAllies : ByteArray := prog_8_method_6_code
def yX6_areAllies : MethodName := ⟨RX6, "areAllies", "(II)Z"⟩
abbrev cX6_isCode : ByteArray := prog_8_method_7_code
def yX6_isCode : MethodName := ⟨RX6, "isCode", "(I)Z"⟩
abbrev cX6_mayOffer : ByteArray := prog_8_method_8_code
def yX6_mayOffer : MethodName := ⟨RX6, "mayOffer", "(III)Z"⟩
abbrev cX6_isWithinCap : ByteArray := prog_8_method_9_code
def yX6_isWithinCap : MethodName := ⟨RX6, "isWithinCap", "(I)Z"⟩
def RX7 : String := "Wavesale"
def TX7 : u_T := fun k => match k with
  | 0 => ("Wavesale", "terms", "LWavesale$Terms;", true)
  | 1 => ("Wavesale", "clock", "LWavesale$Clock;", true)
  | 2 => ("Wavesale", "replay", "LWavesale$Clock;", true)
  | 3 => ("Wavesale", "market", "LWavesale$Market;", true)
  | 4 => ("Wavesale", "payments", "LWavesale$Payments;", true)
  | 5 => ("Wavesale", "names", "LWavesale$Names;", true)
  | 6 => ("Wavesale", "stations", "LWavesale$Stations;", true)
  | 7 => ("Wavesale", "stage", "I", false)
  | 8 => ("Wavesale", "step", "I", false)
  | 9 => ("Wavesale", "way", "I", false)
  | 10 => ("Wavesale", "deposits", "I", false)
  | _ => ("Wavesale", "refused", "I", false)
def tyX7 : Nat → FieldType := fun k => match k with
  | 0 => .object "Wavesale$Terms"
  | 1 => .object "Wavesale$Clock"
  | 2 => .object "Wavesale$Clock"
  | 3 => .object "Wavesale$Market"
  | 4 => .object "Wavesale$Payments"
  | 5 => .object "Wavesale$Names"
  | 6 => .object "Wavesale$Stations"
  | 7 => .int
  | 8 => .int
  | 9 => .int
  | 10 => .int
  | _ => .int
abbrev wsX70 : List Cond := u_ws RX7 TX7 12
theorem nmX7 : ∀ a, a < 12 → ∀ b, b < 12 → a ≠ b → (TX7 a).2.1 ≠ (TX7 b).2.1 := by decide +kernel
theorem tyX7_ok : ∀ k, k < 12 → parseFieldDescriptor (TX7 k).2.2.1 = some (tyX7 k) := by decide +kernel
abbrev cX7_init : ByteArray := prog_1_method_1_code
def yX7_init : MethodName := ⟨RX7, "<init>", "()V"⟩
abbrev cX7_region : ByteArray := prog_1_method_2_code
def yX7_region : MethodName := ⟨RX7, "region", "(III)I"⟩
abbrev cX7_border : ByteArray := prog_1_method_3_code
def yX7_border : MethodName := ⟨RX7, "border", "(II)I"⟩
abbrev cX7_bidder : ByteArray := prog_1_method_4_code
def yX7_bidder : MethodName := ⟨RX7, "bidder", "(IIII)I"⟩
abbrev cX7_rules : ByteArray := prog_1_method_5_code
def yX7_rules : MethodName := ⟨RX7, "rules", "(IZ)I"⟩
abbrev cX7_step : ByteArray := prog_1_method_6_code
def yX7_step : MethodName := ⟨RX7, "step", "(I)I"⟩
abbrev cX7_open : ByteArray := prog_1_method_7_code
def yX7_open : MethodName := ⟨RX7, "open", "()I"⟩
abbrev cX7_wish : ByteArray := prog_1_method_8_code
def yX7_wish : MethodName := ⟨RX7, "wish", "(III)I"⟩
abbrev cX7_waive : ByteArray := prog_1_method_9_code
def yX7_waive : MethodName := ⟨RX7, "waive", "(I)I"⟩
abbrev cX7_close : ByteArray := prog_1_method_10_code
def yX7_close : MethodName := ⟨RX7, "close", "(I)I"⟩
abbrev cX7_offer : ByteArray := prog_1_method_11_code
def yX7_offer : MethodName := ⟨RX7, "offer", "(III)I"⟩
abbrev cX7_settle : ByteArray := prog_1_method_12_code
def yX7_settle : MethodName := ⟨RX7, "settle", "(I)I"⟩
abbrev cX7_fail : ByteArray := prog_1_method_13_code
def yX7_fail : MethodName := ⟨RX7, "fail", "(I)I"⟩
abbrev cX7_station : ByteArray := prog_1_method_14_code
def yX7_station : MethodName := ⟨RX7, "station", "(II)I"⟩
abbrev cX7_ask : ByteArray := prog_1_method_15_code
def yX7_ask : MethodName := ⟨RX7, "ask", "(II)I"⟩
abbrev cX7_packs : ByteArray := prog_1_method_16_code
def yX7_packs : MethodName := ⟨RX7, "packs", "(II)Z"⟩
abbrev cX7_channel : ByteArray := prog_1_method_17_code
def yX7_channel : MethodName := ⟨RX7, "channel", "(III)I"⟩
abbrev cX7_clear : ByteArray := prog_1_method_18_code
def yX7_clear : MethodName := ⟨RX7, "clear", "(I)I"⟩
abbrev cX7_ofRegion : ByteArray := prog_1_method_19_code
def yX7_ofRegion : MethodName := ⟨RX7, "ofRegion", "(II)I"⟩
abbrev cX7_ofBidder : ByteArray := prog_1_method_20_code
def yX7_ofBidder : MethodName := ⟨RX7, "ofBidder", "(II)I"⟩
abbrev cX7_wants : ByteArray := prog_1_method_21_code
def yX7_wants : MethodName := ⟨RX7, "wants", "(IIZ)I"⟩
abbrev cX7_priceIn : ByteArray := prog_1_method_22_code
def yX7_priceIn : MethodName := ⟨RX7, "priceIn", "(II)I"⟩
abbrev cX7_codeIn : ByteArray := prog_1_method_23_code
def yX7_codeIn : MethodName := ⟨RX7, "codeIn", "(IIZ)I"⟩
abbrev cX7_ofPackage : ByteArray := prog_1_method_24_code
def yX7_ofPackage : MethodName := ⟨RX7, "ofPackage", "(IIZ)I"⟩
abbrev cX7_wins : ByteArray := prog_1_method_25_code
def yX7_wins : MethodName := ⟨RX7, "wins", "(I)I"⟩
abbrev cX7_pays : ByteArray := prog_1_method_26_code
def yX7_pays : MethodName := ⟨RX7, "pays", "(IZ)I"⟩
abbrev cX7_holder : ByteArray := prog_1_method_27_code
def yX7_holder : MethodName := ⟨RX7, "holder", "(II)I"⟩
abbrev cX7_chart : ByteArray := prog_1_method_28_code
def yX7_chart : MethodName := ⟨RX7, "chart", "(I)Ljava/lang/String;"⟩
abbrev cX7_sale : ByteArray := prog_1_method_29_code
def yX7_sale : MethodName := ⟨RX7, "sale", "(I)I"⟩
abbrev cX7_worth : ByteArray := prog_1_method_30_code
def yX7_worth : MethodName := ⟨RX7, "worth", "(I)I"⟩
abbrev cX7_wouldPay : ByteArray := prog_1_method_31_code
def yX7_wouldPay : MethodName := ⟨RX7, "wouldPay", "(II)I"⟩
abbrev cX7_objects : ByteArray := prog_1_method_32_code
def yX7_objects : MethodName := ⟨RX7, "objects", "(II)I"⟩
abbrev cX7_most : ByteArray := prog_1_method_33_code
def yX7_most : MethodName := ⟨RX7, "most", "(II)I"⟩
abbrev cX7_contradicts : ByteArray := prog_1_method_34_code
def yX7_contradicts : MethodName := ⟨RX7, "contradicts", "(I)I"⟩
abbrev cX7_anew : ByteArray := prog_1_method_35_code
def yX7_anew : MethodName := ⟨RX7, "anew", "(IIII)I"⟩
abbrev cX7_knock : ByteArray := prog_1_method_36_code
def yX7_knock : MethodName := ⟨RX7, "knock", "()I"⟩
abbrev cX7_isSound : ByteArray := prog_1_method_37_code
def yX7_isSound : MethodName := ⟨RX7, "isSound", "()Z"⟩
abbrev cX7_digest : ByteArray := prog_1_method_38_code
def yX7_digest : MethodName := ⟨RX7, "digest", "()J"⟩
abbrev cX7_needBetween : ByteArray := prog_1_method_39_code
def yX7_needBetween : MethodName := ⟨RX7, "needBetween", "(III)V"⟩
abbrev cX7_needSet : ByteArray := prog_1_method_40_code
def yX7_needSet : MethodName := ⟨RX7, "needSet", "(II)V"⟩
abbrev cX7_needStage : ByteArray := prog_1_method_41_code
def yX7_needStage : MethodName := ⟨RX7, "needStage", "(I)V"⟩
abbrev cX7_needRegion : ByteArray := prog_1_method_42_code
def yX7_needRegion : MethodName := ⟨RX7, "needRegion", "(I)V"⟩
abbrev cX7_needBidder : ByteArray := prog_1_method_43_code
def yX7_needBidder : MethodName := ⟨RX7, "needBidder", "(I)V"⟩
abbrev cX7_needStation : ByteArray := prog_1_method_44_code
def yX7_needStation : MethodName := ⟨RX7, "needStation", "(I)V"⟩
abbrev cX7_needRound : ByteArray := prog_1_method_45_code
def yX7_needRound : MethodName := ⟨RX7, "needRound", "(I)V"⟩
abbrev cX7_endClock : ByteArray := prog_1_method_46_code
def yX7_endClock : MethodName := ⟨RX7, "endClock", "()V"⟩
abbrev cX7_paymentOf : ByteArray := prog_1_method_47_code
def yX7_paymentOf : MethodName := ⟨RX7, "paymentOf", "(I)I"⟩
abbrev cX7_dueOf : ByteArray := prog_1_method_48_code
def yX7_dueOf : MethodName := ⟨RX7, "dueOf", "(I)I"⟩
abbrev cX7_allDue : ByteArray := prog_1_method_49_code
def yX7_allDue : MethodName := ⟨RX7, "allDue", "()I"⟩
abbrev cX7_roundNow : ByteArray := prog_1_method_50_code
def yX7_roundNow : MethodName := ⟨RX7, "roundNow", "()I"⟩
abbrev cX7_regionFact : ByteArray := prog_1_method_51_code
def yX7_regionFact : MethodName := ⟨RX7, "regionFact", "(II)I"⟩
abbrev cX7_bidderFact : ByteArray := prog_1_method_52_code
def yX7_bidderFact : MethodName := ⟨RX7, "bidderFact", "(II)I"⟩
abbrev cX7_saleFact : ByteArray := prog_1_method_53_code
def yX7_saleFact : MethodName := ⟨RX7, "saleFact", "(I)I"⟩
abbrev cX7_isClockSound : ByteArray := prog_1_method_54_code
def yX7_isClockSound : MethodName := ⟨RX7, "isClockSound", "()Z"⟩
abbrev cX7_isSettlementSound : ByteArray := prog_1_method_55_code
def yX7_isSettlementSound : MethodName := ⟨RX7, "isSettlementSound", "()Z"⟩
abbrev cX7_isReplaySame : ByteArray := prog_1_method_56_code
def yX7_isReplaySame : MethodName := ⟨RX7, "isReplaySame", "()Z"⟩
abbrev cX7_mixed : ByteArray := prog_1_method_57_code
def yX7_mixed : MethodName := ⟨RX7, "mixed", "(JJ)J"⟩
abbrev cX7_withRegion : ByteArray := prog_1_method_58_code
def yX7_withRegion : MethodName := ⟨RX7, "withRegion", "(JILjava/lang/StringBuilder;)J"⟩
abbrev cX7_withBidder : ByteArray := prog_1_method_59_code
def yX7_withBidder : MethodName := ⟨RX7, "withBidder", "(JI)J"⟩
abbrev cX7_withLastRound : ByteArray := prog_1_method_60_code
def yX7_withLastRound : MethodName := ⟨RX7, "withLastRound", "(J)J"⟩
def RX8 : String := "WavesaleLaw$Out"
def TX8 : u_T := fun k => match k with
  | 0 => ("WavesaleLaw$Out", "n", "J", false)
  | _ => ("WavesaleLaw$Out", "s", "Ljava/lang/String;", false)
def tyX8 : Nat → FieldType := fun k => match k with
  | 0 => .long
  | _ => .object "java/lang/String"
abbrev wsX80 : List Cond := u_ws RX8 TX8 2
theorem nmX8 : ∀ a, a < 2 → ∀ b, b < 2 → a ≠ b → (TX8 a).2.1 ≠ (TX8 b).2.1 := by decide +kernel
theorem tyX8_ok : ∀ k, k < 2 → parseFieldDescriptor (TX8 k).2.2.1 = some (tyX8 k) := by decide +kernel
abbrev cX8_init : ByteArray := prog_10_method_1_code
def yX8_init : MethodName := ⟨RX8, "<init>", "()V"⟩
def RX9 : String := "WavesaleModel$Bidder"
def TX9 : u_T := fun k => match k with
  | 0 => ("WavesaleModel$Bidder", "budget", "I", false)
  | 1 => ("WavesaleModel$Bidder", "eligible", "I", false)
  | 2 => ("WavesaleModel$Bidder", "credit", "I", false)
  | 3 => ("WavesaleModel$Bidder", "group", "I", false)
  | 4 => ("WavesaleModel$Bidder", "isOut", "Z", false)
  | _ => ("WavesaleModel$Bidder", "packages", "Ljava/util/ArrayList;", true)
def tyX9 : Nat → FieldType := fun k => match k with
  | 0 => .int
  | 1 => .int
  | 2 => .int
  | 3 => .int
  | 4 => .boolean
  | _ => .object "java/util/ArrayList"
abbrev wsX90 : List Cond := u_ws RX9 TX9 6
theorem nmX9 : ∀ a, a < 6 → ∀ b, b < 6 → a ≠ b → (TX9 a).2.1 ≠ (TX9 b).2.1 := by decide +kernel
theorem tyX9_ok : ∀ k, k < 6 → parseFieldDescriptor (TX9 k).2.2.1 = some (tyX9 k) := by decide +kernel
abbrev cX9_init : ByteArray := prog_12_method_1_code
def yX9_init : MethodName := ⟨RX9, "<init>", "()V"⟩
abbrev cX9_many : ByteArray := prog_12_method_2_code
def yX9_many : MethodName := ⟨RX9, "many", "()I"⟩
abbrev cX9_code : ByteArray := prog_12_method_3_code
def yX9_code : MethodName := ⟨RX9, "code", "(I)I"⟩
abbrev cX9_amount : ByteArray := prog_12_method_4_code
def yX9_amount : MethodName := ⟨RX9, "amount", "(I)I"⟩
def RX10 : String := "WavesaleModel$Choice"
def TX10 : u_T := fun k => match k with
  | 0 => ("WavesaleModel$Choice", "picks", "[I", true)
  | 1 => ("WavesaleModel$Choice", "now", "[I", true)
  | 2 => ("WavesaleModel$Choice", "worths", "[I", true)
  | 3 => ("WavesaleModel$Choice", "rest", "[I", true)
  | 4 => ("WavesaleModel$Choice", "inGroups", "[I", true)
  | 5 => ("WavesaleModel$Choice", "most", "I", false)
  | _ => ("WavesaleModel$Choice", "this$0", "LWavesaleModel;", true)
def tyX10 : Nat → FieldType := fun k => match k with
  | 0 => .array .int
  | 1 => .array .int
  | 2 => .array .int
  | 3 => .array .int
  | 4 => .array .int
  | 5 => .int
  | _ => .object "WavesaleModel"
abbrev wsX100 : List Cond := u_ws RX10 TX10 7
theorem nmX10 : ∀ a, a < 7 → ∀ b, b < 7 → a ≠ b → (TX10 a).2.1 ≠ (TX10 b).2.1 := by decide +kernel
theorem tyX10_ok : ∀ k, k < 7 → parseFieldDescriptor (TX10 k).2.2.1 = some (tyX10 k) := by decide +kernel
abbrev cX10_init : ByteArray := prog_13_method_1_code
def yX10_init : MethodName := ⟨RX10, "<init>", "(LWavesaleModel;)V"⟩
abbrev cX10_pick : ByteArray := prog_13_method_2_code
def yX10_pick : MethodName := ⟨RX10, "pick", "(III)V"⟩
abbrev cX10_canTake : ByteArray := prog_13_method_3_code
def yX10_canTake : MethodName := ⟨RX10, "canTake", "(LWavesaleModel$Bidder;I)Z"⟩
abbrev cX10_take : ByteArray := prog_13_method_4_code
def yX10_take : MethodName := ⟨RX10, "take", "(LWavesaleModel$Bidder;II)V"⟩
abbrev cX10_amount : ByteArray := prog_13_method_5_code
def yX10_amount : MethodName := ⟨RX10, "amount", "(I)I"⟩
abbrev cX10_winners : ByteArray := prog_13_method_6_code
def yX10_winners : MethodName := ⟨RX10, "winners", "()I"⟩
abbrev cX10_worth : ByteArray := prog_13_method_7_code
def yX10_worth : MethodName := ⟨RX10, "worth", "(I)I"⟩
abbrev cX10_all : ByteArray := prog_13_method_8_code
def yX10_all : MethodName := ⟨RX10, "all", "()I"⟩
abbrev cX10_objection : ByteArray := prog_13_method_9_code
def yX10_objection : MethodName := ⟨RX10, "objection", "(I[I)I"⟩
abbrev cX10_payments : ByteArray := prog_13_method_10_code
def yX10_payments : MethodName := ⟨RX10, "payments", "(I)[I"⟩
abbrev cX10_raise : ByteArray := prog_13_method_11_code
def yX10_raise : MethodName := ⟨RX10, "raise", "(II[I)V"⟩
def RX11 : String := "WavesaleModel$Clock"
def TX11 : u_T := fun k => match k with
  | 0 => ("WavesaleModel$Clock", "prices", "[I", true)
  | 1 => ("WavesaleModel$Clock", "held", "[I", false)
  | 2 => ("WavesaleModel$Clock", "wished", "[I", false)
  | 3 => ("WavesaleModel$Clock", "hasWaived", "[Z", false)
  | 4 => ("WavesaleModel$Clock", "eligible", "[I", true)
  | 5 => ("WavesaleModel$Clock", "waivers", "[I", true)
  | 6 => ("WavesaleModel$Clock", "contradictions", "[I", true)
  | 7 => ("WavesaleModel$Clock", "oldPrices", "Ljava/util/ArrayList;", true)
  | 8 => ("WavesaleModel$Clock", "oldHeld", "Ljava/util/ArrayList;", true)
  | 9 => ("WavesaleModel$Clock", "isOver", "Z", false)
  | _ => ("WavesaleModel$Clock", "this$0", "LWavesaleModel;", true)
def tyX11 : Nat → FieldType := fun k => match k with
  | 0 => .array .int
  | 1 => .array .int
  | 2 => .array .int
  | 3 => .array .boolean
  | 4 => .array .int
  | 5 => .array .int
  | 6 => .array .int
  | 7 => .object "java/util/ArrayList"
  | 8 => .object "java/util/ArrayList"
  | 9 => .boolean
  | _ => .object "WavesaleModel"
abbrev wsX110 : List Cond := u_ws RX11 TX11 11
theorem nmX11 : ∀ a, a < 11 → ∀ b, b < 11 → a ≠ b → (TX11 a).2.1 ≠ (TX11 b).2.1 := by decide +kernel
theorem tyX11_ok : ∀ k, k < 11 → parseFieldDescriptor (TX11 k).2.2.1 = some (tyX11 k) := by decide +kernel
abbrev cX11_init : ByteArray := prog_14_method_1_code
def yX11_init : MethodName := ⟨RX11, "<init>", "(LWavesaleModel;)V"⟩
abbrev cX11_heldIn : ByteArray := prog_14_method_2_code
def yX11_heldIn : MethodName := ⟨RX11, "heldIn", "(I)I"⟩
abbrev cX11_wishedIn : ByteArray := prog_14_method_3_code
def yX11_wishedIn : MethodName := ⟨RX11, "wishedIn", "(I)I"⟩
abbrev cX11_contradicts : ByteArray := prog_14_method_4_code
def yX11_contradicts : MethodName := ⟨RX11, "contradicts", "(I)I"⟩
abbrev cX11_close : ByteArray := prog_14_method_5_code
def yX11_close : MethodName := ⟨RX11, "close", "(I)V"⟩
def RX12 : String := "WavesaleModel$Region"
def TX12 : u_T := fun k => match k with
  | 0 => ("WavesaleModel$Region", "supply", "I", false)
  | 1 => ("WavesaleModel$Region", "points", "I", false)
  | 2 => ("WavesaleModel$Region", "start", "I", false)
  | _ => ("WavesaleModel$Region", "beside", "I", false)
def tyX12 : Nat → FieldType := fun k => match k with
  | 0 => .int
  | 1 => .int
  | 2 => .int
  | _ => .int
abbrev wsX120 : List Cond := u_ws RX12 TX12 4
theorem nmX12 : ∀ a, a < 4 → ∀ b, b < 4 → a ≠ b → (TX12 a).2.1 ≠ (TX12 b).2.1 := by decide +kernel
theorem tyX12_ok : ∀ k, k < 4 → parseFieldDescriptor (TX12 k).2.2.1 = some (tyX12 k) := by decide +kernel
abbrev cX12_init : ByteArray := prog_15_method_1_code
def yX12_init : MethodName := ⟨RX12, "<init>", "()V"⟩
def RX13 : String := "WavesaleModel$Round"
def TX13 : u_T := fun k => match k with
  | 0 => ("WavesaleModel$Round", "step", "I", false)
  | 1 => ("WavesaleModel$Round", "prices", "[I", false)
  | 2 => ("WavesaleModel$Round", "wished", "[I", false)
  | 3 => ("WavesaleModel$Round", "held", "[I", false)
  | _ => ("WavesaleModel$Round", "hasWaived", "[Z", false)
def tyX13 : Nat → FieldType := fun k => match k with
  | 0 => .int
  | 1 => .array .int
  | 2 => .array .int
  | 3 => .array .int
  | _ => .array .boolean
abbrev wsX130 : List Cond := u_ws RX13 TX13 5
theorem nmX13 : ∀ a, a < 5 → ∀ b, b < 5 → a ≠ b → (TX13 a).2.1 ≠ (TX13 b).2.1 := by decide +kernel
theorem tyX13_ok : ∀ k, k < 5 → parseFieldDescriptor (TX13 k).2.2.1 = some (tyX13 k) := by decide +kernel
abbrev cX13_init : ByteArray := prog_16_method_1_code
def yX13_init : MethodName := ⟨RX13, "<init>", "()V"⟩
def RX14 : String := "WavesaleModel"
def TX14 : u_T := fun k => match k with
  | 0 => ("WavesaleModel", "thrown", "I", false)
  | 1 => ("WavesaleModel", "stage", "I", false)
  | 2 => ("WavesaleModel", "cap", "I", false)
  | 3 => ("WavesaleModel", "isRule", "Z", false)
  | 4 => ("WavesaleModel", "step", "I", false)
  | 5 => ("WavesaleModel", "deposits", "I", false)
  | 6 => ("WavesaleModel", "refused", "I", false)
  | 7 => ("WavesaleModel", "way", "I", false)
  | 8 => ("WavesaleModel", "regions", "Ljava/util/ArrayList;", true)
  | 9 => ("WavesaleModel", "bidders", "Ljava/util/ArrayList;", true)
  | 10 => ("WavesaleModel", "log", "Ljava/util/ArrayList;", true)
  | 11 => ("WavesaleModel", "stations", "Ljava/util/ArrayList;", true)
  | 12 => ("WavesaleModel", "clock", "LWavesaleModel$Clock;", false)
  | 13 => ("WavesaleModel", "kept", "[I", true)
  | 14 => ("WavesaleModel", "payments", "[I", true)
  | 15 => ("WavesaleModel", "turns", "[I", true)
  | _ => ("WavesaleModel", "sum", "J", false)
def tyX14 : Nat → FieldType := fun k => match k with
  | 0 => .int
  | 1 => .int
  | 2 => .int
  | 3 => .boolean
  | 4 => .int
  | 5 => .int
  | 6 => .int
  | 7 => .int
  | 8 => .object "java/util/ArrayList"
  | 9 => .object "java/util/ArrayList"
  | 10 => .object "java/util/ArrayList"
  | 11 => .object "java/util/ArrayList"
  | 12 => .object "WavesaleModel$Clock"
  | 13 => .array .int
  | 14 => .array .int
  | 15 => .array .int
  | _ => .long
abbrev wsX140 : List Cond := u_ws RX14 TX14 17
theorem nmX14 : ∀ a, a < 17 → ∀ b, b < 17 → a ≠ b → (TX14 a).2.1 ≠ (TX14 b).2.1 := by decide +kernel
theorem tyX14_ok : ∀ k, k < 17 → parseFieldDescriptor (TX14 k).2.2.1 = some (tyX14 k) := by decide +kernel
abbrev cX14_init : ByteArray := prog_11_method_1_code
def yX14_init : MethodName := ⟨RX14, "<init>", "()V"⟩
abbrev cX14_thrown : ByteArray := prog_11_method_2_code
def yX14_thrown : MethodName := ⟨RX14, "thrown", "()I"⟩
abbrev cX14_refuse : ByteArray := prog_11_method_3_code
def yX14_refuse : MethodName := ⟨RX14, "refuse", "(I)I"⟩
abbrev cX14_is : ByteArray := prog_11_method_4_code
def yX14_is : MethodName := ⟨RX14, "is", "(III)Z"⟩
abbrev cX14_codes : ByteArray := prog_11_method_5_code
def yX14_codes : MethodName := ⟨RX14, "codes", "()[I"⟩
abbrev cX14_power : ByteArray := prog_11_method_6_code
def yX14_power : MethodName := ⟨RX14, "power", "(I)I"⟩
abbrev cX14_of : ByteArray := prog_11_method_7_code
def yX14_of : MethodName := ⟨RX14, "of", "(II)I"⟩
abbrev cX14_with : ByteArray := prog_11_method_8_code
def yX14_with : MethodName := ⟨RX14, "with", "(III)I"⟩
abbrev cX14_points : ByteArray := prog_11_method_9_code
def yX14_points : MethodName := ⟨RX14, "points", "(I)I"⟩
abbrev cX14_isRegion : ByteArray := prog_11_method_10_code
def yX14_isRegion : MethodName := ⟨RX14, "isRegion", "(I)Z"⟩
abbrev cX14_isBidder : ByteArray := prog_11_method_11_code
def yX14_isBidder : MethodName := ⟨RX14, "isBidder", "(I)Z"⟩
abbrev cX14_areStations : ByteArray := prog_11_method_12_code
def yX14_areStations : MethodName := ⟨RX14, "areStations", "(I)Z"⟩
abbrev cX14_areBidders : ByteArray := prog_11_method_13_code
def yX14_areBidders : MethodName := ⟨RX14, "areBidders", "(I)Z"⟩
abbrev cX14_region : ByteArray := prog_11_method_14_code
def yX14_region : MethodName := ⟨RX14, "region", "(III)I"⟩
abbrev cX14_border : ByteArray := prog_11_method_15_code
def yX14_border : MethodName := ⟨RX14, "border", "(II)I"⟩
abbrev cX14_bidder : ByteArray := prog_11_method_16_code
def yX14_bidder : MethodName := ⟨RX14, "bidder", "(IIII)I"⟩
abbrev cX14_rules : ByteArray := prog_11_method_17_code
def yX14_rules : MethodName := ⟨RX14, "rules", "(IZ)I"⟩
abbrev cX14_step : ByteArray := prog_11_method_18_code
def yX14_step : MethodName := ⟨RX14, "step", "(I)I"⟩
abbrev cX14_open : ByteArray := prog_11_method_19_code
def yX14_open : MethodName := ⟨RX14, "open", "()I"⟩
abbrev cX14_canWish : ByteArray := prog_11_method_20_code
def yX14_canWish : MethodName := ⟨RX14, "canWish", "(III)Z"⟩
abbrev cX14_wish : ByteArray := prog_11_method_21_code
def yX14_wish : MethodName := ⟨RX14, "wish", "(III)I"⟩
abbrev cX14_waive : ByteArray := prog_11_method_22_code
def yX14_waive : MethodName := ⟨RX14, "waive", "(I)I"⟩
abbrev cX14_close : ByteArray := prog_11_method_23_code
def yX14_close : MethodName := ⟨RX14, "close", "(I)I"⟩
abbrev cX14_closeOne : ByteArray := prog_11_method_24_code
def yX14_closeOne : MethodName := ⟨RX14, "closeOne", "()V"⟩
abbrev cX14_addPackage : ByteArray := prog_11_method_25_code
def yX14_addPackage : MethodName := ⟨RX14, "addPackage", "(LWavesaleModel$Bidder;II)V"⟩
abbrev cX14_offer : ByteArray := prog_11_method_26_code
def yX14_offer : MethodName := ⟨RX14, "offer", "(III)I"⟩
abbrev cX14_keep : ByteArray := prog_11_method_27_code
def yX14_keep : MethodName := ⟨RX14, "keep", "()V"⟩
abbrev cX14_holds : ByteArray := prog_11_method_28_code
def yX14_holds : MethodName := ⟨RX14, "holds", "(III)I"⟩
abbrev cX14_clashes : ByteArray := prog_11_method_29_code
def yX14_clashes : MethodName := ⟨RX14, "clashes", "(IIII)I"⟩
abbrev cX14_settle : ByteArray := prog_11_method_30_code
def yX14_settle : MethodName := ⟨RX14, "settle", "(I)I"⟩
abbrev cX14_winnersKept : ByteArray := prog_11_method_31_code
def yX14_winnersKept : MethodName := ⟨RX14, "winnersKept", "()I"⟩
abbrev cX14_fail : ByteArray := prog_11_method_32_code
def yX14_fail : MethodName := ⟨RX14, "fail", "(I)I"⟩
abbrev cX14_station : ByteArray := prog_11_method_33_code
def yX14_station : MethodName := ⟨RX14, "station", "(II)I"⟩
abbrev cX14_ask : ByteArray := prog_11_method_34_code
def yX14_ask : MethodName := ⟨RX14, "ask", "(II)I"⟩
abbrev cX14_areDisturbing : ByteArray := prog_11_method_35_code
def yX14_areDisturbing : MethodName := ⟨RX14, "areDisturbing", "(II)Z"⟩
abbrev cX14_canPack : ByteArray := prog_11_method_36_code
def yX14_canPack : MethodName := ⟨RX14, "canPack", "(II[I)Z"⟩
abbrev cX14_isFree : ByteArray := prog_11_method_37_code
def yX14_isFree : MethodName := ⟨RX14, "isFree", "(II)Z"⟩
abbrev cX14_packs : ByteArray := prog_11_method_38_code
def yX14_packs : MethodName := ⟨RX14, "packs", "(II)Z"⟩
abbrev cX14_channel : ByteArray := prog_11_method_39_code
def yX14_channel : MethodName := ⟨RX14, "channel", "(III)I"⟩
abbrev cX14_isFits : ByteArray := prog_11_method_40_code
def yX14_isFits : MethodName := ⟨RX14, "isFits", "(III[I)Z"⟩
abbrev cX14_clearNow : ByteArray := prog_11_method_41_code
def yX14_clearNow : MethodName := ⟨RX14, "clearNow", "(I)I"⟩
abbrev cX14_clear : ByteArray := prog_11_method_42_code
def yX14_clear : MethodName := ⟨RX14, "clear", "(I)I"⟩
abbrev cX14_ofRegionNow : ByteArray := prog_11_method_43_code
def yX14_ofRegionNow : MethodName := ⟨RX14, "ofRegionNow", "(II)I"⟩
abbrev cX14_stationsIn : ByteArray := prog_11_method_44_code
def yX14_stationsIn : MethodName := ⟨RX14, "stationsIn", "(I)I"⟩
abbrev cX14_ofRegion : ByteArray := prog_11_method_45_code
def yX14_ofRegion : MethodName := ⟨RX14, "ofRegion", "(II)I"⟩
abbrev cX14_heldCode : ByteArray := prog_11_method_46_code
def yX14_heldCode : MethodName := ⟨RX14, "heldCode", "(I)I"⟩
abbrev cX14_wishedCode : ByteArray := prog_11_method_47_code
def yX14_wishedCode : MethodName := ⟨RX14, "wishedCode", "(I)I"⟩
abbrev cX14_ofBidderNow : ByteArray := prog_11_method_48_code
def yX14_ofBidderNow : MethodName := ⟨RX14, "ofBidderNow", "(II)I"⟩
abbrev cX14_ofBidder : ByteArray := prog_11_method_49_code
def yX14_ofBidder : MethodName := ⟨RX14, "ofBidder", "(II)I"⟩
abbrev cX14_wants : ByteArray := prog_11_method_50_code
def yX14_wants : MethodName := ⟨RX14, "wants", "(IIZ)I"⟩
abbrev cX14_isRound : ByteArray := prog_11_method_51_code
def yX14_isRound : MethodName := ⟨RX14, "isRound", "(I)Z"⟩
abbrev cX14_priceIn : ByteArray := prog_11_method_52_code
def yX14_priceIn : MethodName := ⟨RX14, "priceIn", "(II)I"⟩
abbrev cX14_codeIn : ByteArray := prog_11_method_53_code
def yX14_codeIn : MethodName := ⟨RX14, "codeIn", "(IIZ)I"⟩
abbrev cX14_ofPackage : ByteArray := prog_11_method_54_code
def yX14_ofPackage : MethodName := ⟨RX14, "ofPackage", "(IIZ)I"⟩
abbrev cX14_winsNow : ByteArray := prog_11_method_55_code
def yX14_winsNow : MethodName := ⟨RX14, "winsNow", "(ILWavesaleModel$Choice;)I"⟩
abbrev cX14_wins : ByteArray := prog_11_method_56_code
def yX14_wins : MethodName := ⟨RX14, "wins", "(I)I"⟩
abbrev cX14_due : ByteArray := prog_11_method_57_code
def yX14_due : MethodName := ⟨RX14, "due", "(I)I"⟩
abbrev cX14_paid : ByteArray := prog_11_method_58_code
def yX14_paid : MethodName := ⟨RX14, "paid", "(I)I"⟩
abbrev cX14_pays : ByteArray := prog_11_method_59_code
def yX14_pays : MethodName := ⟨RX14, "pays", "(IZ)I"⟩
abbrev cX14_holderNow : ByteArray := prog_11_method_60_code
def yX14_holderNow : MethodName := ⟨RX14, "holderNow", "(II)I"⟩
abbrev cX14_holder : ByteArray := prog_11_method_61_code
def yX14_holder : MethodName := ⟨RX14, "holder", "(II)I"⟩
abbrev cX14_chartNow : ByteArray := prog_11_method_62_code
def yX14_chartNow : MethodName := ⟨RX14, "chartNow", "(I)Ljava/lang/String;"⟩
abbrev cX14_chart : ByteArray := prog_11_method_63_code
def yX14_chart : MethodName := ⟨RX14, "chart", "(I)Ljava/lang/String;"⟩
abbrev cX14_signals : ByteArray := prog_11_method_64_code
def yX14_signals : MethodName := ⟨RX14, "signals", "()I"⟩
abbrev cX14_isSignal : ByteArray := prog_11_method_65_code
def yX14_isSignal : MethodName := ⟨RX14, "isSignal", "(II)Z"⟩
abbrev cX14_saleNow : ByteArray := prog_11_method_66_code
def yX14_saleNow : MethodName := ⟨RX14, "saleNow", "(ILWavesaleModel$Choice;)I"⟩
abbrev cX14_sale : ByteArray := prog_11_method_67_code
def yX14_sale : MethodName := ⟨RX14, "sale", "(I)I"⟩
abbrev cX14_worth : ByteArray := prog_11_method_68_code
def yX14_worth : MethodName := ⟨RX14, "worth", "(I)I"⟩
abbrev cX14_wouldPay : ByteArray := prog_11_method_69_code
def yX14_wouldPay : MethodName := ⟨RX14, "wouldPay", "(II)I"⟩
abbrev cX14_objects : ByteArray := prog_11_method_70_code
def yX14_objects : MethodName := ⟨RX14, "objects", "(II)I"⟩
abbrev cX14_most : ByteArray := prog_11_method_71_code
def yX14_most : MethodName := ⟨RX14, "most", "(II)I"⟩
abbrev cX14_contradicts : ByteArray := prog_11_method_72_code
def yX14_contradicts : MethodName := ⟨RX14, "contradicts", "(I)I"⟩
abbrev cX14_runAnew : ByteArray := prog_11_method_73_code
def yX14_runAnew : MethodName := ⟨RX14, "runAnew", "(IIII)LWavesaleModel$Clock;"⟩
abbrev cX14_anew : ByteArray := prog_11_method_74_code
def yX14_anew : MethodName := ⟨RX14, "anew", "(IIII)I"⟩
abbrev cX14_knock : ByteArray := prog_11_method_75_code
def yX14_knock : MethodName := ⟨RX14, "knock", "()I"⟩
abbrev cX14_isSoundNow : ByteArray := prog_11_method_76_code
def yX14_isSoundNow : MethodName := ⟨RX14, "isSoundNow", "()Z"⟩
abbrev cX14_areNamed : ByteArray := prog_11_method_77_code
def yX14_areNamed : MethodName := ⟨RX14, "areNamed", "()Z"⟩
abbrev cX14_isLogged : ByteArray := prog_11_method_78_code
def yX14_isLogged : MethodName := ⟨RX14, "isLogged", "()Z"⟩
abbrev cX14_isSound : ByteArray := prog_11_method_79_code
def yX14_isSound : MethodName := ⟨RX14, "isSound", "()Z"⟩
abbrev cX14_add : ByteArray := prog_11_method_80_code
def yX14_add : MethodName := ⟨RX14, "add", "(J)V"⟩
abbrev cX14_digest : ByteArray := prog_11_method_81_code
def yX14_digest : MethodName := ⟨RX14, "digest", "()J"⟩
def RJx145de : String := "java/io/Serializable"
def TJx145de : u_T := fun k => match k with
  | _ => ("", "", "", false)
def tyJx145de : Nat → FieldType := fun k => match k with
  | _ => .int
abbrev wsJx145de0 : List Cond := u_ws RJx145de TJx145de 0
theorem nmJx145de : ∀ a, a < 0 → ∀ b, b < 0 → a ≠ b → (TJx145de a).2.1 ≠ (TJx145de b).2.1 := by decide +kernel
theorem tyJx145de_ok : ∀ k, k < 0 → parseFieldDescriptor (TJx145de k).2.2.1 = some (tyJx145de k) := by decide +kernel
def RJ5 : String := "java/lang/AbstractStringBuilder"
def TJ5 : u_T := fun k => match k with
  | _ => ("", "", "", false)
def tyJ5 : Nat → FieldType := fun k => match k with
  | _ => .int
abbrev wsJ50 : List Cond := u_ws RJ5 TJ5 0
theorem nmJ5 : ∀ a, a < 0 → ∀ b, b < 0 → a ≠ b → (TJ5 a).2.1 ≠ (TJ5 b).2.1 := by decide +kernel
theorem tyJ5_ok : ∀ k, k < 0 → parseFieldDescriptor (TJ5 k).2.2.1 = some (tyJ5 k) := by decide +kernel
abbrev cJ5_init_d00df : ByteArray := prog_18_method_2_code
def yJ5_init_d00df : MethodName := ⟨RJ5, "<init>", "(I)V"⟩
abbrev cJ5_length_8abf5 : ByteArray := prog_18_method_6_code
def yJ5_length_8abf5 : MethodName := ⟨RJ5, "length", "()I"⟩
abbrev cJ5_ensureCapacityInternal_d00df : ByteArray := prog_18_method_9_code
def yJ5_ensureCapacityInternal_d00df : MethodName := ⟨RJ5, "ensureCapacityInternal", "(I)V"⟩
abbrev cJ5_newCapacity_0f7a4 : ByteArray := prog_18_method_10_code
def yJ5_newCapacity_0f7a4 : MethodName := ⟨RJ5, "newCapacity", "(I)I"⟩
abbrev cJ5_inflate_da8c8 : ByteArray := prog_18_method_11_code
def yJ5_inflate_da8c8 : MethodName := ⟨RJ5, "inflate", "()V"⟩
abbrev cJ5_setLength_d00df : ByteArray := prog_18_method_13_code
def yJ5_setLength_d00df : MethodName := ⟨RJ5, "setLength", "(I)V"⟩
abbrev cJ5_append_cf1ce : ByteArray := prog_18_method_22_code
def yJ5_append_cf1ce : MethodName := ⟨RJ5, "append", "(Ljava/lang/String;)Ljava/lang/AbstractStringBuilder;"⟩
abbrev cJ5_appendNull_278bc : ByteArray := prog_18_method_26_code
def yJ5_appendNull_278bc : MethodName := ⟨RJ5, "appendNull", "()Ljava/lang/AbstractStringBuilder;"⟩
abbrev cJ5_append_3fe6f : ByteArray := prog_18_method_31_code
def yJ5_append_3fe6f : MethodName := ⟨RJ5, "append", "(C)Ljava/lang/AbstractStringBuilder;"⟩
abbrev cJ5_append_c97b9 : ByteArray := prog_18_method_32_code
def yJ5_append_c97b9 : MethodName := ⟨RJ5, "append", "(I)Ljava/lang/AbstractStringBuilder;"⟩
abbrev cJ5_getValue_6d5f1 : ByteArray := prog_18_method_64_code
def yJ5_getValue_6d5f1 : MethodName := ⟨RJ5, "getValue", "()[B"⟩
abbrev cJ5_isLatin1_aae02 : ByteArray := prog_18_method_68_code
def yJ5_isLatin1_aae02 : MethodName := ⟨RJ5, "isLatin1", "()Z"⟩
abbrev cJ5_inflateIfNeededFor_a7421 : ByteArray := prog_18_method_71_code
def yJ5_inflateIfNeededFor_a7421 : MethodName := ⟨RJ5, "inflateIfNeededFor", "(Ljava/lang/String;)V"⟩
abbrev cJ5_putStringAt_47b60 : ByteArray := prog_18_method_73_code
def yJ5_putStringAt_47b60 : MethodName := ⟨RJ5, "putStringAt", "(ILjava/lang/String;)V"⟩
def RJx2cfe8 : String := "java/lang/Appendable"
def TJx2cfe8 : u_T := fun k => match k with
  | _ => ("", "", "", false)
def tyJx2cfe8 : Nat → FieldType := fun k => match k with
  | _ => .int
abbrev wsJx2cfe80 : List Cond := u_ws RJx2cfe8 TJx2cfe8 0
theorem nmJx2cfe8 : ∀ a, a < 0 → ∀ b, b < 0 → a ≠ b → (TJx2cfe8 a).2.1 ≠ (TJx2cfe8 b).2.1 := by decide +kernel
theorem tyJx2cfe8_ok : ∀ k, k < 0 → parseFieldDescriptor (TJx2cfe8 k).2.2.1 = some (tyJx2cfe8 k) := by decide +kernel
def RJx00060 : String := "java/lang/ArrayIndexOutOfBoundsException"
def TJx00060 : u_T := fun k => match k with
  | 0 => ("java/lang/Throwable", "cause", "Ljava/lang/Throwable;", false)
  | 1 => ("java/lang/Throwable", "stackTrace", "[Ljava/lang/StackTraceElement;", false)
  | 2 => ("java/lang/Throwable", "suppressedExceptions", "Ljava/util/List;", false)
  | 3 => ("java/lang/Throwable", "detailMessage", "Ljava/lang/String;", false)
  | 4 => ("java/lang/Throwable", "backtrace", "Ljava/lang/Object;", false)
  | _ => ("java/lang/Throwable", "depth", "I", false)
def tyJx00060 : Nat → FieldType := fun k => match k with
  | 0 => .object "java/lang/Throwable"
  | 1 => .array (.object "java/lang/StackTraceElement")
  | 2 => .object "java/util/List"
  | 3 => .object "java/lang/String"
  | 4 => .object "java/lang/Object"
  | _ => .int
abbrev wsJx000600 : List Cond := u_ws RJx00060 TJx00060 6
theorem nmJx00060 : ∀ a, a < 6 → ∀ b, b < 6 → a ≠ b → (TJx00060 a).2.1 ≠ (TJx00060 b).2.1 := by decide +kernel
theorem tyJx00060_ok : ∀ k, k < 6 → parseFieldDescriptor (TJx00060 k).2.2.1 = some (tyJx00060 k) := by decide +kernel
abbrev cJx00060_init_d00df : ByteArray := prog_20_method_3_code
def yJx00060_init_d00df : MethodName := ⟨RJx00060, "<init>", "(I)V"⟩
def RJx9f9b0 : String := "java/lang/CharSequence"
def TJx9f9b0 : u_T := fun k => match k with
  | _ => ("", "", "", false)
def tyJx9f9b0 : Nat → FieldType := fun k => match k with
  | _ => .int
abbrev wsJx9f9b00 : List Cond := u_ws RJx9f9b0 TJx9f9b0 0
theorem nmJx9f9b0 : ∀ a, a < 0 → ∀ b, b < 0 → a ≠ b → (TJx9f9b0 a).2.1 ≠ (TJx9f9b0 b).2.1 := by decide +kernel
theorem tyJx9f9b0_ok : ∀ k, k < 0 → parseFieldDescriptor (TJx9f9b0 k).2.2.1 = some (tyJx9f9b0 k) := by decide +kernel
def RJx8e188 : String := "java/lang/Cloneable"
def TJx8e188 : u_T := fun k => match k with
  | _ => ("", "", "", false)
def tyJx8e188 : Nat → FieldType := fun k => match k with
  | _ => .int
abbrev wsJx8e1880 : List Cond := u_ws RJx8e188 TJx8e188 0
theorem nmJx8e188 : ∀ a, a < 0 → ∀ b, b < 0 → a ≠ b → (TJx8e188 a).2.1 ≠ (TJx8e188 b).2.1 := by decide +kernel
theorem tyJx8e188_ok : ∀ k, k < 0 → parseFieldDescriptor (TJx8e188 k).2.2.1 = some (tyJx8e188 k) := by decide +kernel
def RJxb160c : String := "java/lang/Comparable"
def TJxb160c : u_T := fun k => match k with
  | _ => ("", "", "", false)
def tyJxb160c : Nat → FieldType := fun k => match k with
  | _ => .int
abbrev wsJxb160c0 : List Cond := u_ws RJxb160c TJxb160c 0
theorem nmJxb160c : ∀ a, a < 0 → ∀ b, b < 0 → a ≠ b → (TJxb160c a).2.1 ≠ (TJxb160c b).2.1 := by decide +kernel
theorem tyJxb160c_ok : ∀ k, k < 0 → parseFieldDescriptor (TJxb160c k).2.2.1 = some (tyJxb160c k) := by decide +kernel
def RJxabbfe : String := "java/lang/Integer$IntegerCache"
def TJxabbfe : u_T := fun k => match k with
  | _ => ("", "", "", false)
def tyJxabbfe : Nat → FieldType := fun k => match k with
  | _ => .int
abbrev wsJxabbfe0 : List Cond := u_ws RJxabbfe TJxabbfe 0
theorem nmJxabbfe : ∀ a, a < 0 → ∀ b, b < 0 → a ≠ b → (TJxabbfe a).2.1 ≠ (TJxabbfe b).2.1 := by decide +kernel
theorem tyJxabbfe_ok : ∀ k, k < 0 → parseFieldDescriptor (TJxabbfe k).2.2.1 = some (tyJxabbfe k) := by decide +kernel
def RJ6 : String := "java/lang/Integer"
def TJ6 : u_T := fun k => match k with
  | _ => ("java/lang/Integer", "value", "I", true)
def tyJ6 : Nat → FieldType := fun k => match k with
  | _ => .int
abbrev wsJ60 : List Cond := u_ws RJ6 TJ6 1
theorem nmJ6 : ∀ a, a < 1 → ∀ b, b < 1 → a ≠ b → (TJ6 a).2.1 ≠ (TJ6 b).2.1 := by decide +kernel
theorem tyJ6_ok : ∀ k, k < 1 → parseFieldDescriptor (TJ6 k).2.2.1 = some (tyJ6 k) := by decide +kernel
abbrev cJ6_getChars_ba4f3 : ByteArray := prog_28_method_12_code
def yJ6_getChars_ba4f3 : MethodName := ⟨RJ6, "getChars", "(II[B)I"⟩
abbrev cJ6_stringSize_0f7a4 : ByteArray := prog_28_method_13_code
def yJ6_stringSize_0f7a4 : MethodName := ⟨RJ6, "stringSize", "(I)I"⟩
abbrev cJ6_valueOf_2dffe : ByteArray := prog_28_method_22_code
def yJ6_valueOf_2dffe : MethodName := ⟨RJ6, "valueOf", "(I)Ljava/lang/Integer;"⟩
abbrev cJ6_init_d00df : ByteArray := prog_28_method_23_code
def yJ6_init_d00df : MethodName := ⟨RJ6, "<init>", "(I)V"⟩
abbrev cJ6_intValue_8abf5 : ByteArray := prog_28_method_27_code
def yJ6_intValue_8abf5 : MethodName := ⟨RJ6, "intValue", "()I"⟩
abbrev cJ6_bitCount_0f7a4 : ByteArray := prog_28_method_49_code
def yJ6_bitCount_0f7a4 : MethodName := ⟨RJ6, "bitCount", "(I)I"⟩
def RJxab1ab : String := "java/lang/Iterable"
def TJxab1ab : u_T := fun k => match k with
  | _ => ("", "", "", false)
def tyJxab1ab : Nat → FieldType := fun k => match k with
  | _ => .int
abbrev wsJxab1ab0 : List Cond := u_ws RJxab1ab TJxab1ab 0
theorem nmJxab1ab : ∀ a, a < 0 → ∀ b, b < 0 → a ≠ b → (TJxab1ab a).2.1 ≠ (TJxab1ab b).2.1 := by decide +kernel
theorem tyJxab1ab_ok : ∀ k, k < 0 → parseFieldDescriptor (TJxab1ab k).2.2.1 = some (tyJxab1ab k) := by decide +kernel
def RJ9 : String := "java/lang/Math"
def TJ9 : u_T := fun k => match k with
  | _ => ("", "", "", false)
def tyJ9 : Nat → FieldType := fun k => match k with
  | _ => .int
abbrev wsJ90 : List Cond := u_ws RJ9 TJ9 0
theorem nmJ9 : ∀ a, a < 0 → ∀ b, b < 0 → a ≠ b → (TJ9 a).2.1 ≠ (TJ9 b).2.1 := by decide +kernel
theorem tyJ9_ok : ∀ k, k < 0 → parseFieldDescriptor (TJ9 k).2.2.1 = some (tyJ9 k) := by decide +kernel
abbrev cJ9_max_7cf53 : ByteArray := prog_31_method_65_code
def yJ9_max_7cf53 : MethodName := ⟨RJ9, "max", "(II)I"⟩
abbrev cJ9_min_7cf53 : ByteArray := prog_31_method_69_code
def yJ9_min_7cf53 : MethodName := ⟨RJ9, "min", "(II)I"⟩
def RJxd2413 : String := "java/lang/Number"
def TJxd2413 : u_T := fun k => match k with
  | _ => ("", "", "", false)
def tyJxd2413 : Nat → FieldType := fun k => match k with
  | _ => .int
abbrev wsJxd24130 : List Cond := u_ws RJxd2413 TJxd2413 0
theorem nmJxd2413 : ∀ a, a < 0 → ∀ b, b < 0 → a ≠ b → (TJxd2413 a).2.1 ≠ (TJxd2413 b).2.1 := by decide +kernel
theorem tyJxd2413_ok : ∀ k, k < 0 → parseFieldDescriptor (TJxd2413 k).2.2.1 = some (tyJxd2413 k) := by decide +kernel
abbrev cJxd2413_init_da8c8 : ByteArray := prog_32_method_1_code
def yJxd2413_init_da8c8 : MethodName := ⟨RJxd2413, "<init>", "()V"⟩
def RJ0 : String := "java/lang/String"
def TJ0 : u_T := fun k => match k with
  | 0 => ("java/lang/String", "value", "[B", true)
  | 1 => ("java/lang/String", "coder", "B", true)
  | 2 => ("java/lang/String", "hash", "I", false)
  | _ => ("java/lang/String", "hashIsZero", "Z", false)
def tyJ0 : Nat → FieldType := fun k => match k with
  | 0 => .array .byte
  | 1 => .byte
  | 2 => .int
  | _ => .boolean
abbrev wsJ00 : List Cond := u_ws RJ0 TJ0 4
theorem nmJ0 : ∀ a, a < 4 → ∀ b, b < 4 → a ≠ b → (TJ0 a).2.1 ≠ (TJ0 b).2.1 := by decide +kernel
theorem tyJ0_ok : ∀ k, k < 4 → parseFieldDescriptor (TJ0 k).2.2.1 = some (tyJ0 k) := by decide +kernel
abbrev cJ0_init_81219 : ByteArray := prog_34_method_53_code
def yJ0_init_81219 : MethodName := ⟨RJ0, "<init>", "(Ljava/lang/StringBuilder;)V"⟩
abbrev cJ0_length_8abf5 : ByteArray := prog_34_method_54_code
def yJ0_length_8abf5 : MethodName := ⟨RJ0, "length", "()I"⟩
abbrev cJ0_equals_9ea2d : ByteArray := prog_34_method_66_code
def yJ0_equals_9ea2d : MethodName := ⟨RJ0, "equals", "(Ljava/lang/Object;)Z"⟩
abbrev cJ0_getBytes_840e7 : ByteArray := prog_34_method_147_code
def yJ0_getBytes_840e7 : MethodName := ⟨RJ0, "getBytes", "([BIB)V"⟩
abbrev cJ0_init_db425 : ByteArray := prog_34_method_150_code
def yJ0_init_db425 : MethodName := ⟨RJ0, "<init>", "(Ljava/lang/AbstractStringBuilder;Ljava/lang/Void;)V"⟩
abbrev cJ0_coder_7d493 : ByteArray := prog_34_method_152_code
def yJ0_coder_7d493 : MethodName := ⟨RJ0, "coder", "()B"⟩
abbrev cJ0_checkIndex_df160 : ByteArray := prog_34_method_155_code
def yJ0_checkIndex_df160 : MethodName := ⟨RJ0, "checkIndex", "(II)V"⟩
abbrev cJ0_checkBoundsOffCount_cabcc : ByteArray := prog_34_method_157_code
def yJ0_checkBoundsOffCount_cabcc : MethodName := ⟨RJ0, "checkBoundsOffCount", "(III)I"⟩
abbrev cJ0_checkBoundsBeginEnd_23922 : ByteArray := prog_34_method_158_code
def yJ0_checkBoundsBeginEnd_23922 : MethodName := ⟨RJ0, "checkBoundsBeginEnd", "(III)V"⟩
def RJ4 : String := "java/lang/StringBuilder"
def TJ4 : u_T := fun k => match k with
  | 0 => ("java/lang/AbstractStringBuilder", "value", "[B", false)
  | 1 => ("java/lang/AbstractStringBuilder", "coder", "B", false)
  | 2 => ("java/lang/AbstractStringBuilder", "maybeLatin1", "Z", false)
  | _ => ("java/lang/AbstractStringBuilder", "count", "I", false)
def tyJ4 : Nat → FieldType := fun k => match k with
  | 0 => .array .byte
  | 1 => .byte
  | 2 => .boolean
  | _ => .int
abbrev wsJ40 : List Cond := u_ws RJ4 TJ4 4
theorem nmJ4 : ∀ a, a < 4 → ∀ b, b < 4 → a ≠ b → (TJ4 a).2.1 ≠ (TJ4 b).2.1 := by decide +kernel
theorem tyJ4_ok : ∀ k, k < 4 → parseFieldDescriptor (TJ4 k).2.2.1 = some (tyJ4 k) := by decide +kernel
abbrev cJ4_init_da8c8 : ByteArray := prog_35_method_1_code
def yJ4_init_da8c8 : MethodName := ⟨RJ4, "<init>", "()V"⟩
abbrev cJ4_append_15ec4 : ByteArray := prog_35_method_7_code
def yJ4_append_15ec4 : MethodName := ⟨RJ4, "append", "(Ljava/lang/String;)Ljava/lang/StringBuilder;"⟩
abbrev cJ4_append_cf468 : ByteArray := prog_35_method_14_code
def yJ4_append_cf468 : MethodName := ⟨RJ4, "append", "(C)Ljava/lang/StringBuilder;"⟩
abbrev cJ4_append_bf812 : ByteArray := prog_35_method_15_code
def yJ4_append_bf812 : MethodName := ⟨RJ4, "append", "(I)Ljava/lang/StringBuilder;"⟩
abbrev cJ4_toString_0e30d : ByteArray := prog_35_method_42_code
def yJ4_toString_0e30d : MethodName := ⟨RJ4, "toString", "()Ljava/lang/String;"⟩
abbrev cJ4_setLength_d00df : ByteArray := prog_35_method_89_code
def yJ4_setLength_d00df : MethodName := ⟨RJ4, "setLength", "(I)V"⟩
abbrev cJ4_length_8abf5 : ByteArray := prog_35_method_93_code
def yJ4_length_8abf5 : MethodName := ⟨RJ4, "length", "()I"⟩
def RJx7c733 : String := "java/lang/StringIndexOutOfBoundsException"
def TJx7c733 : u_T := fun k => match k with
  | 0 => ("java/lang/Throwable", "backtrace", "Ljava/lang/Object;", false)
  | 1 => ("java/lang/Throwable", "detailMessage", "Ljava/lang/String;", false)
  | 2 => ("java/lang/Throwable", "cause", "Ljava/lang/Throwable;", false)
  | 3 => ("java/lang/Throwable", "stackTrace", "[Ljava/lang/StackTraceElement;", false)
  | 4 => ("java/lang/Throwable", "depth", "I", false)
  | _ => ("java/lang/Throwable", "suppressedExceptions", "Ljava/util/List;", false)
def tyJx7c733 : Nat → FieldType := fun k => match k with
  | 0 => .object "java/lang/Object"
  | 1 => .object "java/lang/String"
  | 2 => .object "java/lang/Throwable"
  | 3 => .array (.object "java/lang/StackTraceElement")
  | 4 => .int
  | _ => .object "java/util/List"
abbrev wsJx7c7330 : List Cond := u_ws RJx7c733 TJx7c733 6
theorem nmJx7c733 : ∀ a, a < 6 → ∀ b, b < 6 → a ≠ b → (TJx7c733 a).2.1 ≠ (TJx7c733 b).2.1 := by decide +kernel
theorem tyJx7c733_ok : ∀ k, k < 6 → parseFieldDescriptor (TJx7c733 k).2.2.1 = some (tyJx7c733 k) := by decide +kernel
abbrev cJx7c733_init_d00df : ByteArray := prog_36_method_3_code
def yJx7c733_init_d00df : MethodName := ⟨RJx7c733, "<init>", "(I)V"⟩
def RJ1 : String := "java/lang/StringLatin1"
def TJ1 : u_T := fun k => match k with
  | _ => ("", "", "", false)
def tyJ1 : Nat → FieldType := fun k => match k with
  | _ => .int
abbrev wsJ10 : List Cond := u_ws RJ1 TJ1 0
theorem nmJ1 : ∀ a, a < 0 → ∀ b, b < 0 → a ≠ b → (TJ1 a).2.1 ≠ (TJ1 b).2.1 := by decide +kernel
theorem tyJ1_ok : ∀ k, k < 0 → parseFieldDescriptor (TJ1 k).2.2.1 = some (tyJ1 k) := by decide +kernel
abbrev cJ1_canEncode_fc78d : ByteArray := prog_37_method_3_code
def yJ1_canEncode_fc78d : MethodName := ⟨RJ1, "canEncode", "(C)Z"⟩
abbrev cJ1_equals_b5fdf : ByteArray := prog_37_method_13_code
def yJ1_equals_b5fdf : MethodName := ⟨RJ1, "equals", "([B[B)Z"⟩
abbrev cJ1_fillNull_b72d1 : ByteArray := prog_37_method_48_code
def yJ1_fillNull_b72d1 : MethodName := ⟨RJ1, "fillNull", "([BII)V"⟩
abbrev cJ1_inflate_0e8fd : ByteArray := prog_37_method_50_code
def yJ1_inflate_0e8fd : MethodName := ⟨RJ1, "inflate", "([BI[BII)V"⟩
def RJ2 : String := "java/lang/StringUTF16"
def TJ2 : u_T := fun k => match k with
  | _ => ("", "", "", false)
def tyJ2 : Nat → FieldType := fun k => match k with
  | _ => .int
abbrev wsJ20 : List Cond := u_ws RJ2 TJ2 0
theorem nmJ2 : ∀ a, a < 0 → ∀ b, b < 0 → a ≠ b → (TJ2 a).2.1 ≠ (TJ2 b).2.1 := by decide +kernel
theorem tyJ2_ok : ∀ k, k < 0 → parseFieldDescriptor (TJ2 k).2.2.1 = some (tyJ2 k) := by decide +kernel
abbrev cJ2_newBytesFor_77867 : ByteArray := prog_38_method_2_code
def yJ2_newBytesFor_77867 : MethodName := ⟨RJ2, "newBytesFor", "(I)[B"⟩
abbrev cJ2_newBytesLength_0f7a4 : ByteArray := prog_38_method_3_code
def yJ2_newBytesLength_0f7a4 : MethodName := ⟨RJ2, "newBytesLength", "(I)I"⟩
abbrev cJ2_putChar_b72d1 : ByteArray := prog_38_method_4_code
def yJ2_putChar_b72d1 : MethodName := ⟨RJ2, "putChar", "([BII)V"⟩
abbrev cJ2_getChar_3b067 : ByteArray := prog_38_method_5_code
def yJ2_getChar_3b067 : MethodName := ⟨RJ2, "getChar", "([BI)C"⟩
abbrev cJ2_length_9d52b : ByteArray := prog_38_method_6_code
def yJ2_length_9d52b : MethodName := ⟨RJ2, "length", "([B)I"⟩
abbrev cJ2_coderFromArrayLen_85cad : ByteArray := prog_38_method_15_code
def yJ2_coderFromArrayLen_85cad : MethodName := ⟨RJ2, "coderFromArrayLen", "([BI)B"⟩
abbrev cJ2_compress_39247 : ByteArray := prog_38_method_17_code
def yJ2_compress_39247 : MethodName := ⟨RJ2, "compress", "([BII)[B"⟩
abbrev cJ2_compress_5af95 : ByteArray := prog_38_method_22_code
def yJ2_compress_5af95 : MethodName := ⟨RJ2, "compress", "([BI[BII)I"⟩
abbrev cJ2_fillNull_b72d1 : ByteArray := prog_38_method_70_code
def yJ2_fillNull_b72d1 : MethodName := ⟨RJ2, "fillNull", "([BII)V"⟩
abbrev cJ2_putCharSB_b72d1 : ByteArray := prog_38_method_71_code
def yJ2_putCharSB_b72d1 : MethodName := ⟨RJ2, "putCharSB", "([BII)V"⟩
abbrev cJ2_getChars_46870 : ByteArray := prog_38_method_77_code
def yJ2_getChars_46870 : MethodName := ⟨RJ2, "getChars", "(III[B)I"⟩
abbrev cJ2_putCharsAt_cd4e5 : ByteArray := prog_38_method_81_code
def yJ2_putCharsAt_cd4e5 : MethodName := ⟨RJ2, "putCharsAt", "([BICCCC)I"⟩
abbrev cJ2_inflate_0e8fd : ByteArray := prog_38_method_86_code
def yJ2_inflate_0e8fd : MethodName := ⟨RJ2, "inflate", "([BI[BII)V"⟩
abbrev cJ2_getChars_ba4f3 : ByteArray := prog_38_method_89_code
def yJ2_getChars_ba4f3 : MethodName := ⟨RJ2, "getChars", "(II[B)I"⟩
abbrev cJ2_checkIndex_2214a : ByteArray := prog_38_method_91_code
def yJ2_checkIndex_2214a : MethodName := ⟨RJ2, "checkIndex", "(I[B)V"⟩
abbrev cJ2_checkBoundsBeginEnd_d044e : ByteArray := prog_38_method_93_code
def yJ2_checkBoundsBeginEnd_d044e : MethodName := ⟨RJ2, "checkBoundsBeginEnd", "(II[B)V"⟩
abbrev cJ2_checkBoundsOffCount_d044e : ByteArray := prog_38_method_94_code
def yJ2_checkBoundsOffCount_d044e : MethodName := ⟨RJ2, "checkBoundsOffCount", "(II[B)V"⟩
def RJ10 : String := "java/lang/System"
def TJ10 : u_T := fun k => match k with
  | _ => ("", "", "", false)
def tyJ10 : Nat → FieldType := fun k => match k with
  | _ => .int
abbrev wsJ100 : List Cond := u_ws RJ10 TJ10 0
theorem nmJ10 : ∀ a, a < 0 → ∀ b, b < 0 → a ≠ b → (TJ10 a).2.1 ≠ (TJ10 b).2.1 := by decide +kernel
theorem tyJ10_ok : ∀ k, k < 0 → parseFieldDescriptor (TJ10 k).2.2.1 = some (tyJ10 k) := by decide +kernel
def RJxfd54e : String := "java/lang/constant/Constable"
def TJxfd54e : u_T := fun k => match k with
  | _ => ("", "", "", false)
def tyJxfd54e : Nat → FieldType := fun k => match k with
  | _ => .int
abbrev wsJxfd54e0 : List Cond := u_ws RJxfd54e TJxfd54e 0
theorem nmJxfd54e : ∀ a, a < 0 → ∀ b, b < 0 → a ≠ b → (TJxfd54e a).2.1 ≠ (TJxfd54e b).2.1 := by decide +kernel
theorem tyJxfd54e_ok : ∀ k, k < 0 → parseFieldDescriptor (TJxfd54e k).2.2.1 = some (tyJxfd54e k) := by decide +kernel
def RJx3cf43 : String := "java/lang/constant/ConstantDesc"
def TJx3cf43 : u_T := fun k => match k with
  | _ => ("", "", "", false)
def tyJx3cf43 : Nat → FieldType := fun k => match k with
  | _ => .int
abbrev wsJx3cf430 : List Cond := u_ws RJx3cf43 TJx3cf43 0
theorem nmJx3cf43 : ∀ a, a < 0 → ∀ b, b < 0 → a ≠ b → (TJx3cf43 a).2.1 ≠ (TJx3cf43 b).2.1 := by decide +kernel
theorem tyJx3cf43_ok : ∀ k, k < 0 → parseFieldDescriptor (TJx3cf43 k).2.2.1 = some (tyJx3cf43 k) := by decide +kernel
def RJxa1e45 : String := "java/util/AbstractCollection"
def TJxa1e45 : u_T := fun k => match k with
  | _ => ("", "", "", false)
def tyJxa1e45 : Nat → FieldType := fun k => match k with
  | _ => .int
abbrev wsJxa1e450 : List Cond := u_ws RJxa1e45 TJxa1e45 0
theorem nmJxa1e45 : ∀ a, a < 0 → ∀ b, b < 0 → a ≠ b → (TJxa1e45 a).2.1 ≠ (TJxa1e45 b).2.1 := by decide +kernel
theorem tyJxa1e45_ok : ∀ k, k < 0 → parseFieldDescriptor (TJxa1e45 k).2.2.1 = some (tyJxa1e45 k) := by decide +kernel
abbrev cJxa1e45_init_da8c8 : ByteArray := prog_43_method_1_code
def yJxa1e45_init_da8c8 : MethodName := ⟨RJxa1e45, "<init>", "()V"⟩
def RJxc12de : String := "java/util/AbstractList"
def TJxc12de : u_T := fun k => match k with
  | _ => ("", "", "", false)
def tyJxc12de : Nat → FieldType := fun k => match k with
  | _ => .int
abbrev wsJxc12de0 : List Cond := u_ws RJxc12de TJxc12de 0
theorem nmJxc12de : ∀ a, a < 0 → ∀ b, b < 0 → a ≠ b → (TJxc12de a).2.1 ≠ (TJxc12de b).2.1 := by decide +kernel
theorem tyJxc12de_ok : ∀ k, k < 0 → parseFieldDescriptor (TJxc12de k).2.2.1 = some (tyJxc12de k) := by decide +kernel
abbrev cJxc12de_init_da8c8 : ByteArray := prog_44_method_1_code
def yJxc12de_init_da8c8 : MethodName := ⟨RJxc12de, "<init>", "()V"⟩
def RJx35411 : String := "java/util/ArrayList$Itr"
def TJx35411 : u_T := fun k => match k with
  | 0 => ("java/util/ArrayList$Itr", "cursor", "I", false)
  | 1 => ("java/util/ArrayList$Itr", "lastRet", "I", false)
  | 2 => ("java/util/ArrayList$Itr", "expectedModCount", "I", false)
  | _ => ("java/util/ArrayList$Itr", "this$0", "Ljava/util/ArrayList;", true)
def tyJx35411 : Nat → FieldType := fun k => match k with
  | 0 => .int
  | 1 => .int
  | 2 => .int
  | _ => .object "java/util/ArrayList"
abbrev wsJx354110 : List Cond := u_ws RJx35411 TJx35411 4
theorem nmJx35411 : ∀ a, a < 4 → ∀ b, b < 4 → a ≠ b → (TJx35411 a).2.1 ≠ (TJx35411 b).2.1 := by decide +kernel
theorem tyJx35411_ok : ∀ k, k < 4 → parseFieldDescriptor (TJx35411 k).2.2.1 = some (tyJx35411 k) := by decide +kernel
abbrev cJx35411_init_45d68 : ByteArray := prog_46_method_1_code
def yJx35411_init_45d68 : MethodName := ⟨RJx35411, "<init>", "(Ljava/util/ArrayList;)V"⟩
abbrev cJx35411_hasNext_aae02 : ByteArray := prog_46_method_2_code
def yJx35411_hasNext_aae02 : MethodName := ⟨RJx35411, "hasNext", "()Z"⟩
abbrev cJx35411_next_0502b : ByteArray := prog_46_method_3_code
def yJx35411_next_0502b : MethodName := ⟨RJx35411, "next", "()Ljava/lang/Object;"⟩
abbrev cJx35411_checkForComodification_da8c8 : ByteArray := prog_46_method_6_code
def yJx35411_checkForComodification_da8c8 : MethodName := ⟨RJx35411, "checkForComodification", "()V"⟩
def RJx4a65c : String := "java/util/ArrayList"
def TJx4a65c : u_T := fun k => match k with
  | 0 => ("java/util/AbstractList", "modCount", "I", false)
  | 1 => ("java/util/ArrayList", "elementData", "[Ljava/lang/Object;", false)
  | _ => ("java/util/ArrayList", "size", "I", false)
def tyJx4a65c : Nat → FieldType := fun k => match k with
  | 0 => .int
  | 1 => .array (.object "java/lang/Object")
  | _ => .int
abbrev wsJx4a65c0 : List Cond := u_ws RJx4a65c TJx4a65c 3
theorem nmJx4a65c : ∀ a, a < 3 → ∀ b, b < 3 → a ≠ b → (TJx4a65c a).2.1 ≠ (TJx4a65c b).2.1 := by decide +kernel
theorem tyJx4a65c_ok : ∀ k, k < 3 → parseFieldDescriptor (TJx4a65c k).2.2.1 = some (tyJx4a65c k) := by decide +kernel
abbrev cJx4a65c_init_da8c8 : ByteArray := prog_45_method_2_code
def yJx4a65c_init_da8c8 : MethodName := ⟨RJx4a65c, "<init>", "()V"⟩
abbrev cJx4a65c_grow_92f84 : ByteArray := prog_45_method_6_code
def yJx4a65c_grow_92f84 : MethodName := ⟨RJx4a65c, "grow", "(I)[Ljava/lang/Object;"⟩
abbrev cJx4a65c_grow_d5877 : ByteArray := prog_45_method_7_code
def yJx4a65c_grow_d5877 : MethodName := ⟨RJx4a65c, "grow", "()[Ljava/lang/Object;"⟩
abbrev cJx4a65c_size_8abf5 : ByteArray := prog_45_method_8_code
def yJx4a65c_size_8abf5 : MethodName := ⟨RJx4a65c, "size", "()I"⟩
abbrev cJx4a65c_isEmpty_aae02 : ByteArray := prog_45_method_9_code
def yJx4a65c_isEmpty_aae02 : MethodName := ⟨RJx4a65c, "isEmpty", "()Z"⟩
abbrev cJx4a65c_elementData_915e3 : ByteArray := prog_45_method_18_code
def yJx4a65c_elementData_915e3 : MethodName := ⟨RJx4a65c, "elementData", "(I)Ljava/lang/Object;"⟩
abbrev cJx4a65c_get_915e3 : ByteArray := prog_45_method_20_code
def yJx4a65c_get_915e3 : MethodName := ⟨RJx4a65c, "get", "(I)Ljava/lang/Object;"⟩
abbrev cJx4a65c_set_bcc79 : ByteArray := prog_45_method_23_code
def yJx4a65c_set_bcc79 : MethodName := ⟨RJx4a65c, "set", "(ILjava/lang/Object;)Ljava/lang/Object;"⟩
abbrev cJx4a65c_add_72be8 : ByteArray := prog_45_method_24_code
def yJx4a65c_add_72be8 : MethodName := ⟨RJx4a65c, "add", "(Ljava/lang/Object;[Ljava/lang/Object;I)V"⟩
abbrev cJx4a65c_add_9ea2d : ByteArray := prog_45_method_25_code
def yJx4a65c_add_9ea2d : MethodName := ⟨RJx4a65c, "add", "(Ljava/lang/Object;)Z"⟩
abbrev cJx4a65c_iterator_32c93 : ByteArray := prog_45_method_55_code
def yJx4a65c_iterator_32c93 : MethodName := ⟨RJx4a65c, "iterator", "()Ljava/util/Iterator;"⟩
def RJ7 : String := "java/util/Arrays"
def TJ7 : u_T := fun k => match k with
  | _ => ("", "", "", false)
def tyJ7 : Nat → FieldType := fun k => match k with
  | _ => .int
abbrev wsJ70 : List Cond := u_ws RJ7 TJ7 0
theorem nmJ7 : ∀ a, a < 0 → ∀ b, b < 0 → a ≠ b → (TJ7 a).2.1 ≠ (TJ7 b).2.1 := by decide +kernel
theorem tyJ7_ok : ∀ k, k < 0 → parseFieldDescriptor (TJ7 k).2.2.1 = some (tyJ7 k) := by decide +kernel
abbrev cJ7_rangeCheck_23922 : ByteArray := prog_47_method_30_code
def yJ7_rangeCheck_23922 : MethodName := ⟨RJ7, "rangeCheck", "(III)V"⟩
abbrev cJ7_fill_53178 : ByteArray := prog_47_method_103_code
def yJ7_fill_53178 : MethodName := ⟨RJ7, "fill", "([II)V"⟩
abbrev cJ7_fill_eb02e : ByteArray := prog_47_method_110_code
def yJ7_fill_eb02e : MethodName := ⟨RJ7, "fill", "([BIIB)V"⟩
abbrev cJ7_copyOf_1904c : ByteArray := prog_47_method_119_code
def yJ7_copyOf_1904c : MethodName := ⟨RJ7, "copyOf", "([Ljava/lang/Object;I)[Ljava/lang/Object;"⟩
abbrev cJ7_copyOf_6403c : ByteArray := prog_47_method_120_code
def yJ7_copyOf_6403c : MethodName := ⟨RJ7, "copyOf", "([Ljava/lang/Object;ILjava/lang/Class;)[Ljava/lang/Object;"⟩
abbrev cJ7_copyOf_9075b : ByteArray := prog_47_method_121_code
def yJ7_copyOf_9075b : MethodName := ⟨RJ7, "copyOf", "([BI)[B"⟩
abbrev cJ7_checkLength_df160 : ByteArray := prog_47_method_131_code
def yJ7_checkLength_df160 : MethodName := ⟨RJ7, "checkLength", "(II)V"⟩
abbrev cJ7_copyOfRange_39247 : ByteArray := prog_47_method_132_code
def yJ7_copyOfRange_39247 : MethodName := ⟨RJ7, "copyOfRange", "([BII)[B"⟩
abbrev cJ7_copyOfRangeByte_39247 : ByteArray := prog_47_method_133_code
def yJ7_copyOfRangeByte_39247 : MethodName := ⟨RJ7, "copyOfRangeByte", "([BII)[B"⟩
def RJx5ef63 : String := "java/util/Collection"
def TJx5ef63 : u_T := fun k => match k with
  | _ => ("", "", "", false)
def tyJx5ef63 : Nat → FieldType := fun k => match k with
  | _ => .int
abbrev wsJx5ef630 : List Cond := u_ws RJx5ef63 TJx5ef63 0
theorem nmJx5ef63 : ∀ a, a < 0 → ∀ b, b < 0 → a ≠ b → (TJx5ef63 a).2.1 ≠ (TJx5ef63 b).2.1 := by decide +kernel
theorem tyJx5ef63_ok : ∀ k, k < 0 → parseFieldDescriptor (TJx5ef63 k).2.2.1 = some (tyJx5ef63 k) := by decide +kernel
def RJx4d0d8 : String := "java/util/Iterator"
def TJx4d0d8 : u_T := fun k => match k with
  | _ => ("", "", "", false)
def tyJx4d0d8 : Nat → FieldType := fun k => match k with
  | _ => .int
abbrev wsJx4d0d80 : List Cond := u_ws RJx4d0d8 TJx4d0d8 0
theorem nmJx4d0d8 : ∀ a, a < 0 → ∀ b, b < 0 → a ≠ b → (TJx4d0d8 a).2.1 ≠ (TJx4d0d8 b).2.1 := by decide +kernel
theorem tyJx4d0d8_ok : ∀ k, k < 0 → parseFieldDescriptor (TJx4d0d8 k).2.2.1 = some (tyJx4d0d8 k) := by decide +kernel
def RJxbd725 : String := "java/util/List"
def TJxbd725 : u_T := fun k => match k with
  | _ => ("", "", "", false)
def tyJxbd725 : Nat → FieldType := fun k => match k with
  | _ => .int
abbrev wsJxbd7250 : List Cond := u_ws RJxbd725 TJxbd725 0
theorem nmJxbd725 : ∀ a, a < 0 → ∀ b, b < 0 → a ≠ b → (TJxbd725 a).2.1 ≠ (TJxbd725 b).2.1 := by decide +kernel
theorem tyJxbd725_ok : ∀ k, k < 0 → parseFieldDescriptor (TJxbd725 k).2.2.1 = some (tyJxbd725 k) := by decide +kernel
def RJ15 : String := "java/util/Objects"
def TJ15 : u_T := fun k => match k with
  | _ => ("", "", "", false)
def tyJ15 : Nat → FieldType := fun k => match k with
  | _ => .int
abbrev wsJ150 : List Cond := u_ws RJ15 TJ15 0
theorem nmJ15 : ∀ a, a < 0 → ∀ b, b < 0 → a ≠ b → (TJ15 a).2.1 ≠ (TJ15 b).2.1 := by decide +kernel
theorem tyJ15_ok : ∀ k, k < 0 → parseFieldDescriptor (TJ15 k).2.2.1 = some (tyJ15 k) := by decide +kernel
abbrev cJ15_checkIndex_7cf53 : ByteArray := prog_51_method_17_code
def yJ15_checkIndex_7cf53 : MethodName := ⟨RJ15, "checkIndex", "(II)I"⟩
def RJxf0a74 : String := "java/util/RandomAccess"
def TJxf0a74 : u_T := fun k => match k with
  | _ => ("", "", "", false)
def tyJxf0a74 : Nat → FieldType := fun k => match k with
  | _ => .int
abbrev wsJxf0a740 : List Cond := u_ws RJxf0a74 TJxf0a74 0
theorem nmJxf0a74 : ∀ a, a < 0 → ∀ b, b < 0 → a ≠ b → (TJxf0a74 a).2.1 ≠ (TJxf0a74 b).2.1 := by decide +kernel
theorem tyJxf0a74_ok : ∀ k, k < 0 → parseFieldDescriptor (TJxf0a74 k).2.2.1 = some (tyJxf0a74 k) := by decide +kernel
def RJxa66e6 : String := "java/util/SequencedCollection"
def TJxa66e6 : u_T := fun k => match k with
  | _ => ("", "", "", false)
def tyJxa66e6 : Nat → FieldType := fun k => match k with
  | _ => .int
abbrev wsJxa66e60 : List Cond := u_ws RJxa66e6 TJxa66e6 0
theorem nmJxa66e6 : ∀ a, a < 0 → ∀ b, b < 0 → a ≠ b → (TJxa66e6 a).2.1 ≠ (TJxa66e6 b).2.1 := by decide +kernel
theorem tyJxa66e6_ok : ∀ k, k < 0 → parseFieldDescriptor (TJxa66e6 k).2.2.1 = some (tyJxa66e6 k) := by decide +kernel
def RJ8 : String := "jdk/internal/util/ArraysSupport"
def TJ8 : u_T := fun k => match k with
  | _ => ("", "", "", false)
def tyJ8 : Nat → FieldType := fun k => match k with
  | _ => .int
abbrev wsJ80 : List Cond := u_ws RJ8 TJ8 0
theorem nmJ8 : ∀ a, a < 0 → ∀ b, b < 0 → a ≠ b → (TJ8 a).2.1 ≠ (TJ8 b).2.1 := by decide +kernel
theorem tyJ8_ok : ∀ k, k < 0 → parseFieldDescriptor (TJ8 k).2.2.1 = some (tyJ8 k) := by decide +kernel
abbrev cJ8_newLength_cabcc : ByteArray := prog_54_method_27_code
def yJ8_newLength_cabcc : MethodName := ⟨RJ8, "newLength", "(III)I"⟩
abbrev cJ8_hugeLength_7cf53 : ByteArray := prog_54_method_28_code
def yJ8_hugeLength_7cf53 : MethodName := ⟨RJ8, "hugeLength", "(II)I"⟩
def RJ3 : String := "jdk/internal/util/Preconditions"
def TJ3 : u_T := fun k => match k with
  | _ => ("", "", "", false)
def tyJ3 : Nat → FieldType := fun k => match k with
  | _ => .int
abbrev wsJ30 : List Cond := u_ws RJ3 TJ3 0
theorem nmJ3 : ∀ a, a < 0 → ∀ b, b < 0 → a ≠ b → (TJ3 a).2.1 ≠ (TJ3 b).2.1 := by decide +kernel
theorem tyJ3_ok : ∀ k, k < 0 → parseFieldDescriptor (TJ3 k).2.2.1 = some (tyJ3 k) := by decide +kernel
abbrev cJ3_checkIndex_8e157 : ByteArray := prog_55_method_11_code
def yJ3_checkIndex_8e157 : MethodName := ⟨RJ3, "checkIndex", "(IILjava/util/function/BiFunction;)I"⟩
abbrev cJ3_checkFromToIndex_8c36e : ByteArray := prog_55_method_12_code
def yJ3_checkFromToIndex_8c36e : MethodName := ⟨RJ3, "checkFromToIndex", "(IIILjava/util/function/BiFunction;)I"⟩
abbrev cJ3_checkFromIndexSize_8c36e : ByteArray := prog_55_method_13_code
def yJ3_checkFromIndexSize_8c36e : MethodName := ⟨RJ3, "checkFromIndexSize", "(IIILjava/util/function/BiFunction;)I"⟩
def RL : String := "WavesaleLaw"
abbrev cL_region : ByteArray := method_2_code
def yL_region : MethodName := ⟨RL, "region", "(LWavesale;IIILWavesaleLaw$Out;)I"⟩
abbrev cL_border : ByteArray := method_3_code
def yL_border : MethodName := ⟨RL, "border", "(LWavesale;IILWavesaleLaw$Out;)I"⟩
abbrev cL_bidder : ByteArray := method_4_code
def yL_bidder : MethodName := ⟨RL, "bidder", "(LWavesale;IIIILWavesaleLaw$Out;)I"⟩
abbrev cL_rules : ByteArray := method_5_code
def yL_rules : MethodName := ⟨RL, "rules", "(LWavesale;IZLWavesaleLaw$Out;)I"⟩
abbrev cL_step : ByteArray := method_6_code
def yL_step : MethodName := ⟨RL, "step", "(LWavesale;ILWavesaleLaw$Out;)I"⟩
abbrev cL_open : ByteArray := method_7_code
def yL_open : MethodName := ⟨RL, "open", "(LWavesale;LWavesaleLaw$Out;)I"⟩
abbrev cL_wish : ByteArray := method_8_code
def yL_wish : MethodName := ⟨RL, "wish", "(LWavesale;IIILWavesaleLaw$Out;)I"⟩
abbrev cL_waive : ByteArray := method_9_code
def yL_waive : MethodName := ⟨RL, "waive", "(LWavesale;ILWavesaleLaw$Out;)I"⟩
abbrev cL_close : ByteArray := method_10_code
def yL_close : MethodName := ⟨RL, "close", "(LWavesale;ILWavesaleLaw$Out;)I"⟩
abbrev cL_offer : ByteArray := method_11_code
def yL_offer : MethodName := ⟨RL, "offer", "(LWavesale;IIILWavesaleLaw$Out;)I"⟩
abbrev cL_settle : ByteArray := method_12_code
def yL_settle : MethodName := ⟨RL, "settle", "(LWavesale;ILWavesaleLaw$Out;)I"⟩
abbrev cL_fail : ByteArray := method_13_code
def yL_fail : MethodName := ⟨RL, "fail", "(LWavesale;ILWavesaleLaw$Out;)I"⟩
abbrev cL_station : ByteArray := method_14_code
def yL_station : MethodName := ⟨RL, "station", "(LWavesale;IILWavesaleLaw$Out;)I"⟩
abbrev cL_ask : ByteArray := method_15_code
def yL_ask : MethodName := ⟨RL, "ask", "(LWavesale;IILWavesaleLaw$Out;)I"⟩
abbrev cL_packs : ByteArray := method_16_code
def yL_packs : MethodName := ⟨RL, "packs", "(LWavesale;IILWavesaleLaw$Out;)I"⟩
abbrev cL_channel : ByteArray := method_17_code
def yL_channel : MethodName := ⟨RL, "channel", "(LWavesale;IIILWavesaleLaw$Out;)I"⟩
abbrev cL_clear : ByteArray := method_18_code
def yL_clear : MethodName := ⟨RL, "clear", "(LWavesale;ILWavesaleLaw$Out;)I"⟩
abbrev cL_ofRegion : ByteArray := method_19_code
def yL_ofRegion : MethodName := ⟨RL, "ofRegion", "(LWavesale;IILWavesaleLaw$Out;)I"⟩
abbrev cL_ofBidder : ByteArray := method_20_code
def yL_ofBidder : MethodName := ⟨RL, "ofBidder", "(LWavesale;IILWavesaleLaw$Out;)I"⟩
abbrev cL_wants : ByteArray := method_21_code
def yL_wants : MethodName := ⟨RL, "wants", "(LWavesale;IIZLWavesaleLaw$Out;)I"⟩
abbrev cL_priceIn : ByteArray := method_22_code
def yL_priceIn : MethodName := ⟨RL, "priceIn", "(LWavesale;IILWavesaleLaw$Out;)I"⟩
abbrev cL_codeIn : ByteArray := method_23_code
def yL_codeIn : MethodName := ⟨RL, "codeIn", "(LWavesale;IIZLWavesaleLaw$Out;)I"⟩
abbrev cL_ofPackage : ByteArray := method_24_code
def yL_ofPackage : MethodName := ⟨RL, "ofPackage", "(LWavesale;IIZLWavesaleLaw$Out;)I"⟩
abbrev cL_wins : ByteArray := method_25_code
def yL_wins : MethodName := ⟨RL, "wins", "(LWavesale;ILWavesaleLaw$Out;)I"⟩
abbrev cL_pays : ByteArray := method_26_code
def yL_pays : MethodName := ⟨RL, "pays", "(LWavesale;IZLWavesaleLaw$Out;)I"⟩
abbrev cL_holder : ByteArray := method_27_code
def yL_holder : MethodName := ⟨RL, "holder", "(LWavesale;IILWavesaleLaw$Out;)I"⟩
abbrev cL_chart : ByteArray := method_28_code
def yL_chart : MethodName := ⟨RL, "chart", "(LWavesale;ILWavesaleLaw$Out;)I"⟩
abbrev cL_sale : ByteArray := method_29_code
def yL_sale : MethodName := ⟨RL, "sale", "(LWavesale;ILWavesaleLaw$Out;)I"⟩
abbrev cL_worth : ByteArray := method_30_code
def yL_worth : MethodName := ⟨RL, "worth", "(LWavesale;ILWavesaleLaw$Out;)I"⟩
abbrev cL_wouldPay : ByteArray := method_31_code
def yL_wouldPay : MethodName := ⟨RL, "wouldPay", "(LWavesale;IILWavesaleLaw$Out;)I"⟩
abbrev cL_objects : ByteArray := method_32_code
def yL_objects : MethodName := ⟨RL, "objects", "(LWavesale;IILWavesaleLaw$Out;)I"⟩
abbrev cL_most : ByteArray := method_33_code
def yL_most : MethodName := ⟨RL, "most", "(LWavesale;IILWavesaleLaw$Out;)I"⟩
abbrev cL_contradicts : ByteArray := method_34_code
def yL_contradicts : MethodName := ⟨RL, "contradicts", "(LWavesale;ILWavesaleLaw$Out;)I"⟩
abbrev cL_anew : ByteArray := method_35_code
def yL_anew : MethodName := ⟨RL, "anew", "(LWavesale;IIIILWavesaleLaw$Out;)I"⟩
abbrev cL_law : ByteArray := code
def yL_law : MethodName := ⟨RL, "law", "([I)Z"⟩
abbrev vwCl : List vw_C := [(RJ0, TJ0, 4), (RJ4, TJ4, 4), (RJ6, TJ6, 1), (RJx00060, TJx00060, 6), (RJx7c733, TJx7c733, 6), (RJx35411, TJx35411, 4), (RJx4a65c, TJx4a65c, 3), (RX1, TX1, 13), (RX2, TX2, 11), (RX3, TX3, 2), (RX4, TX4, 1), (RX5, TX5, 5), (RX6, TX6, 12), (RX7, TX7, 12), (RX8, TX8, 2), (RX9, TX9, 6), (RX10, TX10, 7), (RX11, TX11, 11), (RX12, TX12, 4), (RX13, TX13, 5), (RX14, TX14, 17)]
