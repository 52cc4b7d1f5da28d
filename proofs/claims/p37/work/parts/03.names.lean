def RX0 : String := "GuildSeals$Clerk"
def TX0 : u_T := fun k => match k with
  | 0 => ("GuildSeals$Clerk", "council", "LGuildSeals$Council;", true)
  | _ => ("GuildSeals$Clerk", "refusals", "LGuildSeals$Refusals;", true)
def tyX0 : Nat → FieldType := fun k => match k with
  | 0 => .object "GuildSeals$Council"
  | _ => .object "GuildSeals$Refusals"
theorem nmX0 : ∀ a, a < 2 → ∀ b, b < 2 → a ≠ b → (TX0 a).2.1 ≠ (TX0 b).2.1 := by decide +kernel
theorem tyX0_ok : ∀ k, k < 2 → parseFieldDescriptor (TX0 k).2.2.1 = some (tyX0 k) := by decide +kernel
abbrev cX0_init : ByteArray := prog_2_method_1_code
def yX0_init : MethodName := ⟨RX0, "<init>", "(LGuildSeals$Council;LGuildSeals$Refusals;)V"⟩
abbrev cX0_carryOutAll : ByteArray := prog_2_method_2_code
def yX0_carryOutAll : MethodName := ⟨RX0, "carryOutAll", "(LGuildSeals$Orders;)I"⟩
abbrev cX0_isWrong : ByteArray := prog_2_method_3_code
def yX0_isWrong : MethodName := ⟨RX0, "isWrong", "(IIII)Z"⟩
abbrev cX0_lacks : ByteArray := prog_2_method_4_code
def yX0_lacks : MethodName := ⟨RX0, "lacks", "(II)Z"⟩
abbrev cX0_isRefused : ByteArray := prog_2_method_5_code
def yX0_isRefused : MethodName := ⟨RX0, "isRefused", "(IIII)Z"⟩
abbrev cX0_perform : ByteArray := prog_2_method_6_code
def yX0_perform : MethodName := ⟨RX0, "perform", "(IIII)I"⟩
def RX1 : String := "GuildSeals$Council"
def TX1 : u_T := fun k => match k with
  | 0 => ("GuildSeals$Council", "matters", "I", false)
  | 1 => ("GuildSeals$Council", "decided", "I", false)
  | 2 => ("GuildSeals$Council", "hour", "I", false)
  | 3 => ("GuildSeals$Council", "inquiries", "I", false)
  | 4 => ("GuildSeals$Council", "faints", "I", false)
  | 5 => ("GuildSeals$Council", "isHeraldAwake", "Z", false)
  | 6 => ("GuildSeals$Council", "how", "[I", true)
  | 7 => ("GuildSeals$Council", "hourMade", "[I", true)
  | 8 => ("GuildSeals$Council", "book", "[I", true)
  | 9 => ("GuildSeals$Council", "amounts", "[I", true)
  | 10 => ("GuildSeals$Council", "answers", "[I", true)
  | 11 => ("GuildSeals$Council", "coins", "[I", true)
  | 12 => ("GuildSeals$Council", "doubt", "[I", true)
  | _ => ("GuildSeals$Council", "awake", "[Z", true)
def tyX1 : Nat → FieldType := fun k => match k with
  | 0 => .int
  | 1 => .int
  | 2 => .int
  | 3 => .int
  | 4 => .int
  | 5 => .boolean
  | 6 => .array .int
  | 7 => .array .int
  | 8 => .array .int
  | 9 => .array .int
  | 10 => .array .int
  | 11 => .array .int
  | 12 => .array .int
  | _ => .array .boolean
theorem nmX1 : ∀ a, a < 14 → ∀ b, b < 14 → a ≠ b → (TX1 a).2.1 ≠ (TX1 b).2.1 := by decide +kernel
theorem tyX1_ok : ∀ k, k < 14 → parseFieldDescriptor (TX1 k).2.2.1 = some (tyX1 k) := by decide +kernel
abbrev cX1_init : ByteArray := prog_3_method_1_code
def yX1_init : MethodName := ⟨RX1, "<init>", "()V"⟩
abbrev cX1_copyFrom : ByteArray := prog_3_method_2_code
def yX1_copyFrom : MethodName := ⟨RX1, "copyFrom", "(LGuildSeals$Council;)V"⟩
abbrev cX1_hasMatter : ByteArray := prog_3_method_3_code
def yX1_hasMatter : MethodName := ⟨RX1, "hasMatter", "(I)Z"⟩
abbrev cX1_hasGuild : ByteArray := prog_3_method_4_code
def yX1_hasGuild : MethodName := ⟨RX1, "hasGuild", "(I)Z"⟩
abbrev cX1_isGuildOf : ByteArray := prog_3_method_5_code
def yX1_isGuildOf : MethodName := ⟨RX1, "isGuildOf", "(II)Z"⟩
abbrev cX1_amountOf : ByteArray := prog_3_method_6_code
def yX1_amountOf : MethodName := ⟨RX1, "amountOf", "(II)I"⟩
abbrev cX1_answerOf : ByteArray := prog_3_method_7_code
def yX1_answerOf : MethodName := ⟨RX1, "answerOf", "(II)I"⟩
abbrev cX1_giveAnswer : ByteArray := prog_3_method_8_code
def yX1_giveAnswer : MethodName := ⟨RX1, "giveAnswer", "(III)V"⟩
abbrev cX1_makeMatter : ByteArray := prog_3_method_9_code
def yX1_makeMatter : MethodName := ⟨RX1, "makeMatter", "()I"⟩
abbrev cX1_setAmount : ByteArray := prog_3_method_10_code
def yX1_setAmount : MethodName := ⟨RX1, "setAmount", "(III)I"⟩
abbrev cX1_askGuild : ByteArray := prog_3_method_11_code
def yX1_askGuild : MethodName := ⟨RX1, "askGuild", "(II)I"⟩
abbrev cX1_wouldBeReady : ByteArray := prog_3_method_12_code
def yX1_wouldBeReady : MethodName := ⟨RX1, "wouldBeReady", "(II)Z"⟩
abbrev cX1_wouldAllBeReady : ByteArray := prog_3_method_13_code
def yX1_wouldAllBeReady : MethodName := ⟨RX1, "wouldAllBeReady", "(I)Z"⟩
abbrev cX1_isOrWouldBeReady : ByteArray := prog_3_method_14_code
def yX1_isOrWouldBeReady : MethodName := ⟨RX1, "isOrWouldBeReady", "(II)Z"⟩
abbrev cX1_decideMatter : ByteArray := prog_3_method_15_code
def yX1_decideMatter : MethodName := ⟨RX1, "decideMatter", "(I)I"⟩
abbrev cX1_enterInBook : ByteArray := prog_3_method_16_code
def yX1_enterInBook : MethodName := ⟨RX1, "enterInBook", "(II)V"⟩
abbrev cX1_isOpposed : ByteArray := prog_3_method_17_code
def yX1_isOpposed : MethodName := ⟨RX1, "isOpposed", "(I)Z"⟩
abbrev cX1_firstNotAsked : ByteArray := prog_3_method_18_code
def yX1_firstNotAsked : MethodName := ⟨RX1, "firstNotAsked", "(I)I"⟩
abbrev cX1_tellGuild : ByteArray := prog_3_method_19_code
def yX1_tellGuild : MethodName := ⟨RX1, "tellGuild", "(II)I"⟩
abbrev cX1_sealFor : ByteArray := prog_3_method_20_code
def yX1_sealFor : MethodName := ⟨RX1, "sealFor", "(II)V"⟩
abbrev cX1_letHeraldFaint : ByteArray := prog_3_method_21_code
def yX1_letHeraldFaint : MethodName := ⟨RX1, "letHeraldFaint", "()I"⟩
abbrev cX1_letHeraldWake : ByteArray := prog_3_method_22_code
def yX1_letHeraldWake : MethodName := ⟨RX1, "letHeraldWake", "()I"⟩
abbrev cX1_makeAwake : ByteArray := prog_3_method_23_code
def yX1_makeAwake : MethodName := ⟨RX1, "makeAwake", "(IZ)I"⟩
abbrev cX1_inquireOf : ByteArray := prog_3_method_24_code
def yX1_inquireOf : MethodName := ⟨RX1, "inquireOf", "(III)I"⟩
abbrev cX1_letHoursPass : ByteArray := prog_3_method_25_code
def yX1_letHoursPass : MethodName := ⟨RX1, "letHoursPass", "(I)I"⟩
abbrev cX1_doubtOf : ByteArray := prog_3_method_26_code
def yX1_doubtOf : MethodName := ⟨RX1, "doubtOf", "(I)I"⟩
abbrev cX1_canLearnByGuilds : ByteArray := prog_3_method_27_code
def yX1_canLearnByGuilds : MethodName := ⟨RX1, "canLearnByGuilds", "(I)Z"⟩
abbrev cX1_canLearnBySets : ByteArray := prog_3_method_28_code
def yX1_canLearnBySets : MethodName := ⟨RX1, "canLearnBySets", "(I)Z"⟩
abbrev cX1_setOfAwake : ByteArray := prog_3_method_29_code
def yX1_setOfAwake : MethodName := ⟨RX1, "setOfAwake", "()I"⟩
abbrev cX1_setOfDoubters : ByteArray := prog_3_method_30_code
def yX1_setOfDoubters : MethodName := ⟨RX1, "setOfDoubters", "(I)I"⟩
abbrev cX1_setOfGuilds : ByteArray := prog_3_method_31_code
def yX1_setOfGuilds : MethodName := ⟨RX1, "setOfGuilds", "(I)I"⟩
abbrev cX1_guildAtRank : ByteArray := prog_3_method_32_code
def yX1_guildAtRank : MethodName := ⟨RX1, "guildAtRank", "(I)I"⟩
abbrev cX1_countAhead : ByteArray := prog_3_method_33_code
def yX1_countAhead : MethodName := ⟨RX1, "countAhead", "(I)I"⟩
abbrev cX1_coinsByGuilds : ByteArray := prog_3_method_34_code
def yX1_coinsByGuilds : MethodName := ⟨RX1, "coinsByGuilds", "()I"⟩
abbrev cX1_coinsBySeals : ByteArray := prog_3_method_35_code
def yX1_coinsBySeals : MethodName := ⟨RX1, "coinsBySeals", "()I"⟩
abbrev cX1_numberOfMatter : ByteArray := prog_3_method_36_code
def yX1_numberOfMatter : MethodName := ⟨RX1, "numberOfMatter", "(II)I"⟩
abbrev cX1_numberOfGuild : ByteArray := prog_3_method_37_code
def yX1_numberOfGuild : MethodName := ⟨RX1, "numberOfGuild", "(II)I"⟩
abbrev cX1_numberOfAll : ByteArray := prog_3_method_38_code
def yX1_numberOfAll : MethodName := ⟨RX1, "numberOfAll", "(I)I"⟩
abbrev cX1_countMatters : ByteArray := prog_3_method_39_code
def yX1_countMatters : MethodName := ⟨RX1, "countMatters", "(I)I"⟩
abbrev cX1_countMattersOf : ByteArray := prog_3_method_40_code
def yX1_countMattersOf : MethodName := ⟨RX1, "countMattersOf", "(II)I"⟩
abbrev cX1_countHeardByAll : ByteArray := prog_3_method_41_code
def yX1_countHeardByAll : MethodName := ⟨RX1, "countHeardByAll", "()I"⟩
abbrev cX1_countGuilds : ByteArray := prog_3_method_42_code
def yX1_countGuilds : MethodName := ⟨RX1, "countGuilds", "(I)I"⟩
abbrev cX1_countAnswers : ByteArray := prog_3_method_43_code
def yX1_countAnswers : MethodName := ⟨RX1, "countAnswers", "(II)I"⟩
abbrev cX1_countAnswered : ByteArray := prog_3_method_44_code
def yX1_countAnswered : MethodName := ⟨RX1, "countAnswered", "(I)I"⟩
abbrev cX1_countHeard : ByteArray := prog_3_method_45_code
def yX1_countHeard : MethodName := ⟨RX1, "countHeard", "(I)I"⟩
abbrev cX1_sumOfAmounts : ByteArray := prog_3_method_46_code
def yX1_sumOfAmounts : MethodName := ⟨RX1, "sumOfAmounts", "(I)I"⟩
abbrev cX1_countAwake : ByteArray := prog_3_method_47_code
def yX1_countAwake : MethodName := ⟨RX1, "countAwake", "()I"⟩
abbrev cX1_countInDoubt : ByteArray := prog_3_method_48_code
def yX1_countInDoubt : MethodName := ⟨RX1, "countInDoubt", "()I"⟩
abbrev cX1_allDoubt : ByteArray := prog_3_method_49_code
def yX1_allDoubt : MethodName := ⟨RX1, "allDoubt", "()I"⟩
abbrev cX1_areSealsWhole : ByteArray := prog_3_method_50_code
def yX1_areSealsWhole : MethodName := ⟨RX1, "areSealsWhole", "()Z"⟩
abbrev cX1_areWaysAlike : ByteArray := prog_3_method_51_code
def yX1_areWaysAlike : MethodName := ⟨RX1, "areWaysAlike", "()Z"⟩
abbrev cX1_areDoubtsSingle : ByteArray := prog_3_method_52_code
def yX1_areDoubtsSingle : MethodName := ⟨RX1, "areDoubtsSingle", "()Z"⟩
def RX2 : String := "GuildSeals$History"
def TX2 : u_T := fun k => match k with
  | 0 => ("GuildSeals$History", "kept", "[LGuildSeals$Council;", true)
  | 1 => ("GuildSeals$History", "next", "I", false)
  | _ => ("GuildSeals$History", "size", "I", false)
def tyX2 : Nat → FieldType := fun k => match k with
  | 0 => .array (.object "GuildSeals$Council")
  | 1 => .int
  | _ => .int
theorem nmX2 : ∀ a, a < 3 → ∀ b, b < 3 → a ≠ b → (TX2 a).2.1 ≠ (TX2 b).2.1 := by decide +kernel
theorem tyX2_ok : ∀ k, k < 3 → parseFieldDescriptor (TX2 k).2.2.1 = some (tyX2 k) := by decide +kernel
abbrev cX2_init : ByteArray := prog_4_method_1_code
def yX2_init : MethodName := ⟨RX2, "<init>", "()V"⟩
abbrev cX2_keep : ByteArray := prog_4_method_2_code
def yX2_keep : MethodName := ⟨RX2, "keep", "(LGuildSeals$Council;)V"⟩
abbrev cX2_takeBack : ByteArray := prog_4_method_3_code
def yX2_takeBack : MethodName := ⟨RX2, "takeBack", "(LGuildSeals$Council;)V"⟩
def RX3 : String := "GuildSeals$Line"
def TX3 : u_T := fun k => match k with
  | 0 => ("GuildSeals$Line", "characters", "[C", true)
  | _ => ("GuildSeals$Line", "length", "I", false)
def tyX3 : Nat → FieldType := fun k => match k with
  | 0 => .array .char
  | _ => .int
theorem nmX3 : ∀ a, a < 2 → ∀ b, b < 2 → a ≠ b → (TX3 a).2.1 ≠ (TX3 b).2.1 := by decide +kernel
theorem tyX3_ok : ∀ k, k < 2 → parseFieldDescriptor (TX3 k).2.2.1 = some (tyX3 k) := by decide +kernel
abbrev cX3_init : ByteArray := prog_5_method_1_code
def yX3_init : MethodName := ⟨RX3, "<init>", "()V"⟩
abbrev cX3_write : ByteArray := prog_5_method_2_code
def yX3_write : MethodName := ⟨RX3, "write", "(LGuildSeals$Council;I)V"⟩
abbrev cX3_writeGuild : ByteArray := prog_5_method_3_code
def yX3_writeGuild : MethodName := ⟨RX3, "writeGuild", "(LGuildSeals$Council;II)V"⟩
abbrev cX3_signOfMatter : ByteArray := prog_5_method_4_code
def yX3_signOfMatter : MethodName := ⟨RX3, "signOfMatter", "(I)C"⟩
abbrev cX3_signOfAnswer : ByteArray := prog_5_method_5_code
def yX3_signOfAnswer : MethodName := ⟨RX3, "signOfAnswer", "(I)C"⟩
abbrev cX3_putNumber : ByteArray := prog_5_method_6_code
def yX3_putNumber : MethodName := ⟨RX3, "putNumber", "(I)V"⟩
abbrev cX3_put : ByteArray := prog_5_method_7_code
def yX3_put : MethodName := ⟨RX3, "put", "(C)V"⟩
def RX4 : String := "GuildSeals$Orders"
def TX4 : u_T := fun k => match k with
  | 0 => ("GuildSeals$Orders", "input", "[C", true)
  | 1 => ("GuildSeals$Orders", "length", "I", false)
  | 2 => ("GuildSeals$Orders", "position", "I", false)
  | 3 => ("GuildSeals$Orders", "hasFailed", "Z", false)
  | 4 => ("GuildSeals$Orders", "errorPosition", "I", false)
  | 5 => ("GuildSeals$Orders", "count", "I", false)
  | 6 => ("GuildSeals$Orders", "kinds", "[I", true)
  | 7 => ("GuildSeals$Orders", "matters", "[I", true)
  | 8 => ("GuildSeals$Orders", "guilds", "[I", true)
  | _ => ("GuildSeals$Orders", "numbers", "[I", true)
def tyX4 : Nat → FieldType := fun k => match k with
  | 0 => .array .char
  | 1 => .int
  | 2 => .int
  | 3 => .boolean
  | 4 => .int
  | 5 => .int
  | 6 => .array .int
  | 7 => .array .int
  | 8 => .array .int
  | _ => .array .int
theorem nmX4 : ∀ a, a < 10 → ∀ b, b < 10 → a ≠ b → (TX4 a).2.1 ≠ (TX4 b).2.1 := by decide +kernel
theorem tyX4_ok : ∀ k, k < 10 → parseFieldDescriptor (TX4 k).2.2.1 = some (tyX4 k) := by decide +kernel
abbrev cX4_init : ByteArray := prog_6_method_1_code
def yX4_init : MethodName := ⟨RX4, "<init>", "()V"⟩
abbrev cX4_addCharacter : ByteArray := prog_6_method_2_code
def yX4_addCharacter : MethodName := ⟨RX4, "addCharacter", "(C)V"⟩
abbrev cX4_readText : ByteArray := prog_6_method_3_code
def yX4_readText : MethodName := ⟨RX4, "readText", "()Z"⟩
abbrev cX4_readOrder : ByteArray := prog_6_method_4_code
def yX4_readOrder : MethodName := ⟨RX4, "readOrder", "()V"⟩
abbrev cX4_hasMatter : ByteArray := prog_6_method_5_code
def yX4_hasMatter : MethodName := ⟨RX4, "hasMatter", "(I)Z"⟩
abbrev cX4_hasGuild : ByteArray := prog_6_method_6_code
def yX4_hasGuild : MethodName := ⟨RX4, "hasGuild", "(I)Z"⟩
abbrev cX4_readLast : ByteArray := prog_6_method_7_code
def yX4_readLast : MethodName := ⟨RX4, "readLast", "(I)I"⟩
abbrev cX4_readLetter : ByteArray := prog_6_method_8_code
def yX4_readLetter : MethodName := ⟨RX4, "readLetter", "()I"⟩
abbrev cX4_readSign : ByteArray := prog_6_method_9_code
def yX4_readSign : MethodName := ⟨RX4, "readSign", "(C)V"⟩
abbrev cX4_readPlusOrMinus : ByteArray := prog_6_method_10_code
def yX4_readPlusOrMinus : MethodName := ⟨RX4, "readPlusOrMinus", "()I"⟩
abbrev cX4_readOneOrTwoDigits : ByteArray := prog_6_method_11_code
def yX4_readOneOrTwoDigits : MethodName := ⟨RX4, "readOneOrTwoDigits", "()I"⟩
abbrev cX4_readDigit : ByteArray := prog_6_method_12_code
def yX4_readDigit : MethodName := ⟨RX4, "readDigit", "()I"⟩
abbrev cX4_isDigit : ByteArray := prog_6_method_13_code
def yX4_isDigit : MethodName := ⟨RX4, "isDigit", "(C)Z"⟩
abbrev cX4_nextCharacter : ByteArray := prog_6_method_14_code
def yX4_nextCharacter : MethodName := ⟨RX4, "nextCharacter", "()C"⟩
def RX5 : String := "GuildSeals$Refusals"
def TX5 : u_T := fun k => match k with
  | 0 => ("GuildSeals$Refusals", "council", "LGuildSeals$Council;", true)
  | 1 => ("GuildSeals$Refusals", "reason", "I", false)
  | _ => ("GuildSeals$Refusals", "detail", "I", false)
def tyX5 : Nat → FieldType := fun k => match k with
  | 0 => .object "GuildSeals$Council"
  | 1 => .int
  | _ => .int
theorem nmX5 : ∀ a, a < 3 → ∀ b, b < 3 → a ≠ b → (TX5 a).2.1 ≠ (TX5 b).2.1 := by decide +kernel
theorem tyX5_ok : ∀ k, k < 3 → parseFieldDescriptor (TX5 k).2.2.1 = some (tyX5 k) := by decide +kernel
abbrev cX5_init : ByteArray := prog_7_method_1_code
def yX5_init : MethodName := ⟨RX5, "<init>", "(LGuildSeals$Council;)V"⟩
abbrev cX5_refusesMatter : ByteArray := prog_7_method_2_code
def yX5_refusesMatter : MethodName := ⟨RX5, "refusesMatter", "()Z"⟩
abbrev cX5_refusesSet : ByteArray := prog_7_method_3_code
def yX5_refusesSet : MethodName := ⟨RX5, "refusesSet", "(III)Z"⟩
abbrev cX5_refusesAsk : ByteArray := prog_7_method_4_code
def yX5_refusesAsk : MethodName := ⟨RX5, "refusesAsk", "(II)Z"⟩
abbrev cX5_refusesDecide : ByteArray := prog_7_method_5_code
def yX5_refusesDecide : MethodName := ⟨RX5, "refusesDecide", "(I)Z"⟩
abbrev cX5_refusesTell : ByteArray := prog_7_method_6_code
def yX5_refusesTell : MethodName := ⟨RX5, "refusesTell", "(II)Z"⟩
abbrev cX5_refusesFaint : ByteArray := prog_7_method_7_code
def yX5_refusesFaint : MethodName := ⟨RX5, "refusesFaint", "()Z"⟩
abbrev cX5_refusesWake : ByteArray := prog_7_method_8_code
def yX5_refusesWake : MethodName := ⟨RX5, "refusesWake", "()Z"⟩
abbrev cX5_refusesSleep : ByteArray := prog_7_method_9_code
def yX5_refusesSleep : MethodName := ⟨RX5, "refusesSleep", "(I)Z"⟩
abbrev cX5_refusesRouse : ByteArray := prog_7_method_10_code
def yX5_refusesRouse : MethodName := ⟨RX5, "refusesRouse", "(I)Z"⟩
abbrev cX5_refusesInquire : ByteArray := prog_7_method_11_code
def yX5_refusesInquire : MethodName := ⟨RX5, "refusesInquire", "(III)Z"⟩
abbrev cX5_hasFainted : ByteArray := prog_7_method_12_code
def yX5_hasFainted : MethodName := ⟨RX5, "hasFainted", "()Z"⟩
abbrev cX5_isNotOpen : ByteArray := prog_7_method_13_code
def yX5_isNotOpen : MethodName := ⟨RX5, "isNotOpen", "(I)Z"⟩
abbrev cX5_isNoGuildOf : ByteArray := prog_7_method_14_code
def yX5_isNoGuildOf : MethodName := ⟨RX5, "isNoGuildOf", "(II)Z"⟩
abbrev cX5_isAsleep : ByteArray := prog_7_method_15_code
def yX5_isAsleep : MethodName := ⟨RX5, "isAsleep", "(I)Z"⟩
abbrev cX5_isUndecided : ByteArray := prog_7_method_16_code
def yX5_isUndecided : MethodName := ⟨RX5, "isUndecided", "(I)Z"⟩
abbrev cX5_keepIf : ByteArray := prog_7_method_17_code
def yX5_keepIf : MethodName := ⟨RX5, "keepIf", "(ZII)Z"⟩
def RX6 : String := "GuildSeals"
def TX6 : u_T := fun k => match k with
  | 0 => ("GuildSeals", "council", "LGuildSeals$Council;", true)
  | 1 => ("GuildSeals", "beforeRun", "LGuildSeals$Council;", true)
  | 2 => ("GuildSeals", "snapshot", "LGuildSeals$Council;", true)
  | 3 => ("GuildSeals", "hasSnapshot", "Z", false)
  | 4 => ("GuildSeals", "history", "LGuildSeals$History;", true)
  | 5 => ("GuildSeals", "refusals", "LGuildSeals$Refusals;", true)
  | 6 => ("GuildSeals", "orders", "LGuildSeals$Orders;", true)
  | 7 => ("GuildSeals", "clerk", "LGuildSeals$Clerk;", true)
  | _ => ("GuildSeals", "written", "LGuildSeals$Line;", true)
def tyX6 : Nat → FieldType := fun k => match k with
  | 0 => .object "GuildSeals$Council"
  | 1 => .object "GuildSeals$Council"
  | 2 => .object "GuildSeals$Council"
  | 3 => .boolean
  | 4 => .object "GuildSeals$History"
  | 5 => .object "GuildSeals$Refusals"
  | 6 => .object "GuildSeals$Orders"
  | 7 => .object "GuildSeals$Clerk"
  | _ => .object "GuildSeals$Line"
theorem nmX6 : ∀ a, a < 9 → ∀ b, b < 9 → a ≠ b → (TX6 a).2.1 ≠ (TX6 b).2.1 := by decide +kernel
theorem tyX6_ok : ∀ k, k < 9 → parseFieldDescriptor (TX6 k).2.2.1 = some (tyX6 k) := by decide +kernel
abbrev cX6_init : ByteArray := prog_1_method_1_code
def yX6_init : MethodName := ⟨RX6, "<init>", "()V"⟩
abbrev cX6_matter : ByteArray := prog_1_method_2_code
def yX6_matter : MethodName := ⟨RX6, "matter", "()I"⟩
abbrev cX6_set : ByteArray := prog_1_method_3_code
def yX6_set : MethodName := ⟨RX6, "set", "(III)I"⟩
abbrev cX6_matterOf : ByteArray := prog_1_method_4_code
def yX6_matterOf : MethodName := ⟨RX6, "matterOf", "(II)I"⟩
abbrev cX6_answer : ByteArray := prog_1_method_5_code
def yX6_answer : MethodName := ⟨RX6, "answer", "(II)I"⟩
abbrev cX6_amount : ByteArray := prog_1_method_6_code
def yX6_amount : MethodName := ⟨RX6, "amount", "(II)I"⟩
abbrev cX6_ask : ByteArray := prog_1_method_7_code
def yX6_ask : MethodName := ⟨RX6, "ask", "(II)I"⟩
abbrev cX6_decide : ByteArray := prog_1_method_8_code
def yX6_decide : MethodName := ⟨RX6, "decide", "(I)I"⟩
abbrev cX6_tell : ByteArray := prog_1_method_9_code
def yX6_tell : MethodName := ⟨RX6, "tell", "(II)I"⟩
abbrev cX6_faint : ByteArray := prog_1_method_10_code
def yX6_faint : MethodName := ⟨RX6, "faint", "()I"⟩
abbrev cX6_wake : ByteArray := prog_1_method_11_code
def yX6_wake : MethodName := ⟨RX6, "wake", "()I"⟩
abbrev cX6_isAwake : ByteArray := prog_1_method_12_code
def yX6_isAwake : MethodName := ⟨RX6, "isAwake", "()Z"⟩
abbrev cX6_book : ByteArray := prog_1_method_13_code
def yX6_book : MethodName := ⟨RX6, "book", "(I)I"⟩
abbrev cX6_wouldSeal : ByteArray := prog_1_method_14_code
def yX6_wouldSeal : MethodName := ⟨RX6, "wouldSeal", "(I)Z"⟩
abbrev cX6_sleep : ByteArray := prog_1_method_15_code
def yX6_sleep : MethodName := ⟨RX6, "sleep", "(I)I"⟩
abbrev cX6_rouse : ByteArray := prog_1_method_16_code
def yX6_rouse : MethodName := ⟨RX6, "rouse", "(I)I"⟩
abbrev cX6_inquire : ByteArray := prog_1_method_17_code
def yX6_inquire : MethodName := ⟨RX6, "inquire", "(III)I"⟩
abbrev cX6_guildOf : ByteArray := prog_1_method_18_code
def yX6_guildOf : MethodName := ⟨RX6, "guildOf", "(II)I"⟩
abbrev cX6_canLearn : ByteArray := prog_1_method_19_code
def yX6_canLearn : MethodName := ⟨RX6, "canLearn", "(IZ)Z"⟩
abbrev cX6_pass : ByteArray := prog_1_method_20_code
def yX6_pass : MethodName := ⟨RX6, "pass", "(I)I"⟩
abbrev cX6_ranked : ByteArray := prog_1_method_21_code
def yX6_ranked : MethodName := ⟨RX6, "ranked", "(I)I"⟩
abbrev cX6_coins : ByteArray := prog_1_method_22_code
def yX6_coins : MethodName := ⟨RX6, "coins", "(Z)I"⟩
abbrev cX6_line : ByteArray := prog_1_method_23_code
def yX6_line : MethodName := ⟨RX6, "line", "(I)I"⟩
abbrev cX6_character : ByteArray := prog_1_method_24_code
def yX6_character : MethodName := ⟨RX6, "character", "(I)C"⟩
abbrev cX6_append : ByteArray := prog_1_method_25_code
def yX6_append : MethodName := ⟨RX6, "append", "(C)I"⟩
abbrev cX6_run : ByteArray := prog_1_method_26_code
def yX6_run : MethodName := ⟨RX6, "run", "()I"⟩
abbrev cX6_account : ByteArray := prog_1_method_29_code
def yX6_account : MethodName := ⟨RX6, "account", "(I)I"⟩
abbrev cX6_isWell : ByteArray := prog_1_method_30_code
def yX6_isWell : MethodName := ⟨RX6, "isWell", "()Z"⟩
abbrev cX6_meanDoubt : ByteArray := prog_1_method_31_code
def yX6_meanDoubt : MethodName := ⟨RX6, "meanDoubt", "()D"⟩
abbrev cX6_sealedShare : ByteArray := prog_1_method_32_code
def yX6_sealedShare : MethodName := ⟨RX6, "sealedShare", "()F"⟩
abbrev cX6_undo : ByteArray := prog_1_method_33_code
def yX6_undo : MethodName := ⟨RX6, "undo", "()I"⟩
abbrev cX6_startChange : ByteArray := prog_1_method_36_code
def yX6_startChange : MethodName := ⟨RX6, "startChange", "(Z)V"⟩
abbrev cX6_requireMatter : ByteArray := prog_1_method_37_code
def yX6_requireMatter : MethodName := ⟨RX6, "requireMatter", "(I)V"⟩
abbrev cX6_requireGuild : ByteArray := prog_1_method_38_code
def yX6_requireGuild : MethodName := ⟨RX6, "requireGuild", "(I)V"⟩
abbrev cX6_requireFromTo : ByteArray := prog_1_method_39_code
def yX6_requireFromTo : MethodName := ⟨RX6, "requireFromTo", "(III)V"⟩
def RX7 : String := "GuildSealsModel"
def TX7 : u_T := fun k => match k with
  | _ => ("", "", "", false)
def tyX7 : Nat → FieldType := fun k => match k with
  | _ => .int
theorem nmX7 : ∀ a, a < 0 → ∀ b, b < 0 → a ≠ b → (TX7 a).2.1 ≠ (TX7 b).2.1 := by decide +kernel
theorem tyX7_ok : ∀ k, k < 0 → parseFieldDescriptor (TX7 k).2.2.1 = some (tyX7 k) := by decide +kernel
def RJx145de : String := "java/io/Serializable"
def TJx145de : u_T := fun k => match k with
  | _ => ("", "", "", false)
def tyJx145de : Nat → FieldType := fun k => match k with
  | _ => .int
theorem nmJx145de : ∀ a, a < 0 → ∀ b, b < 0 → a ≠ b → (TJx145de a).2.1 ≠ (TJx145de b).2.1 := by decide +kernel
theorem tyJx145de_ok : ∀ k, k < 0 → parseFieldDescriptor (TJx145de k).2.2.1 = some (tyJx145de k) := by decide +kernel
def RJ5 : String := "java/lang/AbstractStringBuilder"
def TJ5 : u_T := fun k => match k with
  | _ => ("", "", "", false)
def tyJ5 : Nat → FieldType := fun k => match k with
  | _ => .int
theorem nmJ5 : ∀ a, a < 0 → ∀ b, b < 0 → a ≠ b → (TJ5 a).2.1 ≠ (TJ5 b).2.1 := by decide +kernel
theorem tyJ5_ok : ∀ k, k < 0 → parseFieldDescriptor (TJ5 k).2.2.1 = some (tyJ5 k) := by decide +kernel
abbrev cJ5_init_d00df : ByteArray := prog_11_method_2_code
def yJ5_init_d00df : MethodName := ⟨RJ5, "<init>", "(I)V"⟩
abbrev cJ5_length_8abf5 : ByteArray := prog_11_method_6_code
def yJ5_length_8abf5 : MethodName := ⟨RJ5, "length", "()I"⟩
abbrev cJ5_ensureCapacityInternal_d00df : ByteArray := prog_11_method_9_code
def yJ5_ensureCapacityInternal_d00df : MethodName := ⟨RJ5, "ensureCapacityInternal", "(I)V"⟩
abbrev cJ5_newCapacity_0f7a4 : ByteArray := prog_11_method_10_code
def yJ5_newCapacity_0f7a4 : MethodName := ⟨RJ5, "newCapacity", "(I)I"⟩
abbrev cJ5_inflate_da8c8 : ByteArray := prog_11_method_11_code
def yJ5_inflate_da8c8 : MethodName := ⟨RJ5, "inflate", "()V"⟩
abbrev cJ5_append_cf1ce : ByteArray := prog_11_method_22_code
def yJ5_append_cf1ce : MethodName := ⟨RJ5, "append", "(Ljava/lang/String;)Ljava/lang/AbstractStringBuilder;"⟩
abbrev cJ5_appendNull_278bc : ByteArray := prog_11_method_26_code
def yJ5_appendNull_278bc : MethodName := ⟨RJ5, "appendNull", "()Ljava/lang/AbstractStringBuilder;"⟩
abbrev cJ5_append_3fe6f : ByteArray := prog_11_method_31_code
def yJ5_append_3fe6f : MethodName := ⟨RJ5, "append", "(C)Ljava/lang/AbstractStringBuilder;"⟩
abbrev cJ5_append_c97b9 : ByteArray := prog_11_method_32_code
def yJ5_append_c97b9 : MethodName := ⟨RJ5, "append", "(I)Ljava/lang/AbstractStringBuilder;"⟩
abbrev cJ5_getValue_6d5f1 : ByteArray := prog_11_method_64_code
def yJ5_getValue_6d5f1 : MethodName := ⟨RJ5, "getValue", "()[B"⟩
abbrev cJ5_isLatin1_aae02 : ByteArray := prog_11_method_68_code
def yJ5_isLatin1_aae02 : MethodName := ⟨RJ5, "isLatin1", "()Z"⟩
abbrev cJ5_inflateIfNeededFor_a7421 : ByteArray := prog_11_method_71_code
def yJ5_inflateIfNeededFor_a7421 : MethodName := ⟨RJ5, "inflateIfNeededFor", "(Ljava/lang/String;)V"⟩
abbrev cJ5_putStringAt_47b60 : ByteArray := prog_11_method_73_code
def yJ5_putStringAt_47b60 : MethodName := ⟨RJ5, "putStringAt", "(ILjava/lang/String;)V"⟩
def RJx2cfe8 : String := "java/lang/Appendable"
def TJx2cfe8 : u_T := fun k => match k with
  | _ => ("", "", "", false)
def tyJx2cfe8 : Nat → FieldType := fun k => match k with
  | _ => .int
theorem nmJx2cfe8 : ∀ a, a < 0 → ∀ b, b < 0 → a ≠ b → (TJx2cfe8 a).2.1 ≠ (TJx2cfe8 b).2.1 := by decide +kernel
theorem tyJx2cfe8_ok : ∀ k, k < 0 → parseFieldDescriptor (TJx2cfe8 k).2.2.1 = some (tyJx2cfe8 k) := by decide +kernel
def RJx00060 : String := "java/lang/ArrayIndexOutOfBoundsException"
def TJx00060 : u_T := fun k => match k with
  | 0 => ("java/lang/Throwable", "backtrace", "Ljava/lang/Object;", false)
  | 1 => ("java/lang/Throwable", "detailMessage", "Ljava/lang/String;", false)
  | 2 => ("java/lang/Throwable", "cause", "Ljava/lang/Throwable;", false)
  | 3 => ("java/lang/Throwable", "stackTrace", "[Ljava/lang/StackTraceElement;", false)
  | 4 => ("java/lang/Throwable", "depth", "I", false)
  | _ => ("java/lang/Throwable", "suppressedExceptions", "Ljava/util/List;", false)
def tyJx00060 : Nat → FieldType := fun k => match k with
  | 0 => .object "java/lang/Object"
  | 1 => .object "java/lang/String"
  | 2 => .object "java/lang/Throwable"
  | 3 => .array (.object "java/lang/StackTraceElement")
  | 4 => .int
  | _ => .object "java/util/List"
theorem nmJx00060 : ∀ a, a < 6 → ∀ b, b < 6 → a ≠ b → (TJx00060 a).2.1 ≠ (TJx00060 b).2.1 := by decide +kernel
theorem tyJx00060_ok : ∀ k, k < 6 → parseFieldDescriptor (TJx00060 k).2.2.1 = some (tyJx00060 k) := by decide +kernel
abbrev cJx00060_init_a7421 : ByteArray := prog_14_method_2_code
def yJx00060_init_a7421 : MethodName := ⟨RJx00060, "<init>", "(Ljava/lang/String;)V"⟩
def RJx9f9b0 : String := "java/lang/CharSequence"
def TJx9f9b0 : u_T := fun k => match k with
  | _ => ("", "", "", false)
def tyJx9f9b0 : Nat → FieldType := fun k => match k with
  | _ => .int
theorem nmJx9f9b0 : ∀ a, a < 0 → ∀ b, b < 0 → a ≠ b → (TJx9f9b0 a).2.1 ≠ (TJx9f9b0 b).2.1 := by decide +kernel
theorem tyJx9f9b0_ok : ∀ k, k < 0 → parseFieldDescriptor (TJx9f9b0 k).2.2.1 = some (tyJx9f9b0 k) := by decide +kernel
def RJ11 : String := "java/lang/Character"
def TJ11 : u_T := fun k => match k with
  | _ => ("", "", "", false)
def tyJ11 : Nat → FieldType := fun k => match k with
  | _ => .int
theorem nmJ11 : ∀ a, a < 0 → ∀ b, b < 0 → a ≠ b → (TJ11 a).2.1 ≠ (TJ11 b).2.1 := by decide +kernel
theorem tyJ11_ok : ∀ k, k < 0 → parseFieldDescriptor (TJ11 k).2.2.1 = some (tyJ11 k) := by decide +kernel
abbrev cJ11_isValidCodePoint_9a6ad : ByteArray := prog_16_method_11_code
def yJ11_isValidCodePoint_9a6ad : MethodName := ⟨RJ11, "isValidCodePoint", "(I)Z"⟩
abbrev cJ11_highSurrogate_5068e : ByteArray := prog_16_method_28_code
def yJ11_highSurrogate_5068e : MethodName := ⟨RJ11, "highSurrogate", "(I)C"⟩
abbrev cJ11_lowSurrogate_5068e : ByteArray := prog_16_method_29_code
def yJ11_lowSurrogate_5068e : MethodName := ⟨RJ11, "lowSurrogate", "(I)C"⟩
def RJx8e188 : String := "java/lang/Cloneable"
def TJx8e188 : u_T := fun k => match k with
  | _ => ("", "", "", false)
def tyJx8e188 : Nat → FieldType := fun k => match k with
  | _ => .int
theorem nmJx8e188 : ∀ a, a < 0 → ∀ b, b < 0 → a ≠ b → (TJx8e188 a).2.1 ≠ (TJx8e188 b).2.1 := by decide +kernel
theorem tyJx8e188_ok : ∀ k, k < 0 → parseFieldDescriptor (TJx8e188 k).2.2.1 = some (tyJx8e188 k) := by decide +kernel
def RJxb160c : String := "java/lang/Comparable"
def TJxb160c : u_T := fun k => match k with
  | _ => ("", "", "", false)
def tyJxb160c : Nat → FieldType := fun k => match k with
  | _ => .int
theorem nmJxb160c : ∀ a, a < 0 → ∀ b, b < 0 → a ≠ b → (TJxb160c a).2.1 ≠ (TJxb160c b).2.1 := by decide +kernel
theorem tyJxb160c_ok : ∀ k, k < 0 → parseFieldDescriptor (TJxb160c k).2.2.1 = some (tyJxb160c k) := by decide +kernel
def RJ6 : String := "java/lang/Integer"
def TJ6 : u_T := fun k => match k with
  | _ => ("", "", "", false)
def tyJ6 : Nat → FieldType := fun k => match k with
  | _ => .int
theorem nmJ6 : ∀ a, a < 0 → ∀ b, b < 0 → a ≠ b → (TJ6 a).2.1 ≠ (TJ6 b).2.1 := by decide +kernel
theorem tyJ6_ok : ∀ k, k < 0 → parseFieldDescriptor (TJ6 k).2.2.1 = some (tyJ6 k) := by decide +kernel
abbrev cJ6_getChars_ba4f3 : ByteArray := prog_23_method_12_code
def yJ6_getChars_ba4f3 : MethodName := ⟨RJ6, "getChars", "(II[B)I"⟩
abbrev cJ6_stringSize_0f7a4 : ByteArray := prog_23_method_13_code
def yJ6_stringSize_0f7a4 : MethodName := ⟨RJ6, "stringSize", "(I)I"⟩
def RJ9 : String := "java/lang/Math"
def TJ9 : u_T := fun k => match k with
  | _ => ("", "", "", false)
def tyJ9 : Nat → FieldType := fun k => match k with
  | _ => .int
theorem nmJ9 : ∀ a, a < 0 → ∀ b, b < 0 → a ≠ b → (TJ9 a).2.1 ≠ (TJ9 b).2.1 := by decide +kernel
theorem tyJ9_ok : ∀ k, k < 0 → parseFieldDescriptor (TJ9 k).2.2.1 = some (tyJ9 k) := by decide +kernel
abbrev cJ9_abs_0f7a4 : ByteArray := prog_24_method_59_code
def yJ9_abs_0f7a4 : MethodName := ⟨RJ9, "abs", "(I)I"⟩
abbrev cJ9_max_7cf53 : ByteArray := prog_24_method_65_code
def yJ9_max_7cf53 : MethodName := ⟨RJ9, "max", "(II)I"⟩
abbrev cJ9_min_7cf53 : ByteArray := prog_24_method_69_code
def yJ9_min_7cf53 : MethodName := ⟨RJ9, "min", "(II)I"⟩
def RJxd2413 : String := "java/lang/Number"
def TJxd2413 : u_T := fun k => match k with
  | _ => ("", "", "", false)
def tyJxd2413 : Nat → FieldType := fun k => match k with
  | _ => .int
theorem nmJxd2413 : ∀ a, a < 0 → ∀ b, b < 0 → a ≠ b → (TJxd2413 a).2.1 ≠ (TJxd2413 b).2.1 := by decide +kernel
theorem tyJxd2413_ok : ∀ k, k < 0 → parseFieldDescriptor (TJxd2413 k).2.2.1 = some (tyJxd2413 k) := by decide +kernel
def RJ0 : String := "java/lang/String"
def TJ0 : u_T := fun k => match k with
  | 0 => ("java/lang/String", "value", "[B", true)
  | 1 => ("java/lang/String", "coder", "B", true)
  | 2 => ("java/lang/String", "hash", "I", false)
  | _ => ("java/lang/String", "hashIsZero", "Z", false)
def tyJ0 : Nat → FieldType := fun k => match k with
  | 0 => .array .byte
  | 1 => .byte
  | 2 => .int
  | _ => .boolean
theorem nmJ0 : ∀ a, a < 4 → ∀ b, b < 4 → a ≠ b → (TJ0 a).2.1 ≠ (TJ0 b).2.1 := by decide +kernel
theorem tyJ0_ok : ∀ k, k < 4 → parseFieldDescriptor (TJ0 k).2.2.1 = some (tyJ0 k) := by decide +kernel
abbrev cJ0_init_81219 : ByteArray := prog_27_method_53_code
def yJ0_init_81219 : MethodName := ⟨RJ0, "<init>", "(Ljava/lang/StringBuilder;)V"⟩
abbrev cJ0_length_8abf5 : ByteArray := prog_27_method_54_code
def yJ0_length_8abf5 : MethodName := ⟨RJ0, "length", "()I"⟩
abbrev cJ0_charAt_5068e : ByteArray := prog_27_method_56_code
def yJ0_charAt_5068e : MethodName := ⟨RJ0, "charAt", "(I)C"⟩
abbrev cJ0_indexOf_0f7a4 : ByteArray := prog_27_method_79_code
def yJ0_indexOf_0f7a4 : MethodName := ⟨RJ0, "indexOf", "(I)I"⟩
abbrev cJ0_indexOf_7cf53 : ByteArray := prog_27_method_80_code
def yJ0_indexOf_7cf53 : MethodName := ⟨RJ0, "indexOf", "(II)I"⟩
abbrev cJ0_getBytes_840e7 : ByteArray := prog_27_method_147_code
def yJ0_getBytes_840e7 : MethodName := ⟨RJ0, "getBytes", "([BIB)V"⟩
abbrev cJ0_init_db425 : ByteArray := prog_27_method_150_code
def yJ0_init_db425 : MethodName := ⟨RJ0, "<init>", "(Ljava/lang/AbstractStringBuilder;Ljava/lang/Void;)V"⟩
abbrev cJ0_coder_7d493 : ByteArray := prog_27_method_152_code
def yJ0_coder_7d493 : MethodName := ⟨RJ0, "coder", "()B"⟩
abbrev cJ0_isLatin1_aae02 : ByteArray := prog_27_method_154_code
def yJ0_isLatin1_aae02 : MethodName := ⟨RJ0, "isLatin1", "()Z"⟩
abbrev cJ0_checkIndex_df160 : ByteArray := prog_27_method_155_code
def yJ0_checkIndex_df160 : MethodName := ⟨RJ0, "checkIndex", "(II)V"⟩
abbrev cJ0_checkBoundsOffCount_cabcc : ByteArray := prog_27_method_157_code
def yJ0_checkBoundsOffCount_cabcc : MethodName := ⟨RJ0, "checkBoundsOffCount", "(III)I"⟩
abbrev cJ0_checkBoundsBeginEnd_23922 : ByteArray := prog_27_method_158_code
def yJ0_checkBoundsBeginEnd_23922 : MethodName := ⟨RJ0, "checkBoundsBeginEnd", "(III)V"⟩
def RJ4 : String := "java/lang/StringBuilder"
def TJ4 : u_T := fun k => match k with
  | 0 => ("java/lang/AbstractStringBuilder", "value", "[B", false)
  | 1 => ("java/lang/AbstractStringBuilder", "coder", "B", false)
  | 2 => ("java/lang/AbstractStringBuilder", "maybeLatin1", "Z", false)
  | _ => ("java/lang/AbstractStringBuilder", "count", "I", false)
def tyJ4 : Nat → FieldType := fun k => match k with
  | 0 => .array .byte
  | 1 => .byte
  | 2 => .boolean
  | _ => .int
theorem nmJ4 : ∀ a, a < 4 → ∀ b, b < 4 → a ≠ b → (TJ4 a).2.1 ≠ (TJ4 b).2.1 := by decide +kernel
theorem tyJ4_ok : ∀ k, k < 4 → parseFieldDescriptor (TJ4 k).2.2.1 = some (tyJ4 k) := by decide +kernel
abbrev cJ4_init_da8c8 : ByteArray := prog_28_method_1_code
def yJ4_init_da8c8 : MethodName := ⟨RJ4, "<init>", "()V"⟩
abbrev cJ4_append_15ec4 : ByteArray := prog_28_method_7_code
def yJ4_append_15ec4 : MethodName := ⟨RJ4, "append", "(Ljava/lang/String;)Ljava/lang/StringBuilder;"⟩
abbrev cJ4_append_cf468 : ByteArray := prog_28_method_14_code
def yJ4_append_cf468 : MethodName := ⟨RJ4, "append", "(C)Ljava/lang/StringBuilder;"⟩
abbrev cJ4_append_bf812 : ByteArray := prog_28_method_15_code
def yJ4_append_bf812 : MethodName := ⟨RJ4, "append", "(I)Ljava/lang/StringBuilder;"⟩
abbrev cJ4_toString_0e30d : ByteArray := prog_28_method_42_code
def yJ4_toString_0e30d : MethodName := ⟨RJ4, "toString", "()Ljava/lang/String;"⟩
abbrev cJ4_length_8abf5 : ByteArray := prog_28_method_93_code
def yJ4_length_8abf5 : MethodName := ⟨RJ4, "length", "()I"⟩
def RJ1 : String := "java/lang/StringLatin1"
def TJ1 : u_T := fun k => match k with
  | _ => ("", "", "", false)
def tyJ1 : Nat → FieldType := fun k => match k with
  | _ => .int
theorem nmJ1 : ∀ a, a < 0 → ∀ b, b < 0 → a ≠ b → (TJ1 a).2.1 ≠ (TJ1 b).2.1 := by decide +kernel
theorem tyJ1_ok : ∀ k, k < 0 → parseFieldDescriptor (TJ1 k).2.2.1 = some (tyJ1 k) := by decide +kernel
abbrev cJ1_charAt_3b067 : ByteArray := prog_29_method_2_code
def yJ1_charAt_3b067 : MethodName := ⟨RJ1, "charAt", "([BI)C"⟩
abbrev cJ1_canEncode_fc78d : ByteArray := prog_29_method_3_code
def yJ1_canEncode_fc78d : MethodName := ⟨RJ1, "canEncode", "(C)Z"⟩
abbrev cJ1_canEncode_9a6ad : ByteArray := prog_29_method_4_code
def yJ1_canEncode_9a6ad : MethodName := ⟨RJ1, "canEncode", "(I)Z"⟩
abbrev cJ1_indexOf_4cfef : ByteArray := prog_29_method_22_code
def yJ1_indexOf_4cfef : MethodName := ⟨RJ1, "indexOf", "([BIII)I"⟩
abbrev cJ1_indexOfChar_4cfef : ByteArray := prog_29_method_23_code
def yJ1_indexOfChar_4cfef : MethodName := ⟨RJ1, "indexOfChar", "([BIII)I"⟩
abbrev cJ1_inflate_0e8fd : ByteArray := prog_29_method_50_code
def yJ1_inflate_0e8fd : MethodName := ⟨RJ1, "inflate", "([BI[BII)V"⟩
def RJ2 : String := "java/lang/StringUTF16"
def TJ2 : u_T := fun k => match k with
  | _ => ("", "", "", false)
def tyJ2 : Nat → FieldType := fun k => match k with
  | _ => .int
theorem nmJ2 : ∀ a, a < 0 → ∀ b, b < 0 → a ≠ b → (TJ2 a).2.1 ≠ (TJ2 b).2.1 := by decide +kernel
theorem tyJ2_ok : ∀ k, k < 0 → parseFieldDescriptor (TJ2 k).2.2.1 = some (tyJ2 k) := by decide +kernel
abbrev cJ2_newBytesFor_77867 : ByteArray := prog_30_method_2_code
def yJ2_newBytesFor_77867 : MethodName := ⟨RJ2, "newBytesFor", "(I)[B"⟩
abbrev cJ2_newBytesLength_0f7a4 : ByteArray := prog_30_method_3_code
def yJ2_newBytesLength_0f7a4 : MethodName := ⟨RJ2, "newBytesLength", "(I)I"⟩
abbrev cJ2_putChar_b72d1 : ByteArray := prog_30_method_4_code
def yJ2_putChar_b72d1 : MethodName := ⟨RJ2, "putChar", "([BII)V"⟩
abbrev cJ2_getChar_3b067 : ByteArray := prog_30_method_5_code
def yJ2_getChar_3b067 : MethodName := ⟨RJ2, "getChar", "([BI)C"⟩
abbrev cJ2_length_9d52b : ByteArray := prog_30_method_6_code
def yJ2_length_9d52b : MethodName := ⟨RJ2, "length", "([B)I"⟩
abbrev cJ2_coderFromArrayLen_85cad : ByteArray := prog_30_method_15_code
def yJ2_coderFromArrayLen_85cad : MethodName := ⟨RJ2, "coderFromArrayLen", "([BI)B"⟩
abbrev cJ2_compress_39247 : ByteArray := prog_30_method_17_code
def yJ2_compress_39247 : MethodName := ⟨RJ2, "compress", "([BII)[B"⟩
abbrev cJ2_compress_5af95 : ByteArray := prog_30_method_22_code
def yJ2_compress_5af95 : MethodName := ⟨RJ2, "compress", "([BI[BII)I"⟩
abbrev cJ2_indexOf_4cfef : ByteArray := prog_30_method_40_code
def yJ2_indexOf_4cfef : MethodName := ⟨RJ2, "indexOf", "([BIII)I"⟩
abbrev cJ2_indexOfChar_4cfef : ByteArray := prog_30_method_47_code
def yJ2_indexOfChar_4cfef : MethodName := ⟨RJ2, "indexOfChar", "([BIII)I"⟩
abbrev cJ2_indexOfCharUnsafe_4cfef : ByteArray := prog_30_method_48_code
def yJ2_indexOfCharUnsafe_4cfef : MethodName := ⟨RJ2, "indexOfCharUnsafe", "([BIII)I"⟩
abbrev cJ2_indexOfSupplementary_4cfef : ByteArray := prog_30_method_49_code
def yJ2_indexOfSupplementary_4cfef : MethodName := ⟨RJ2, "indexOfSupplementary", "([BIII)I"⟩
abbrev cJ2_putCharSB_b72d1 : ByteArray := prog_30_method_71_code
def yJ2_putCharSB_b72d1 : MethodName := ⟨RJ2, "putCharSB", "([BII)V"⟩
abbrev cJ2_getChars_46870 : ByteArray := prog_30_method_77_code
def yJ2_getChars_46870 : MethodName := ⟨RJ2, "getChars", "(III[B)I"⟩
abbrev cJ2_putCharsAt_cd4e5 : ByteArray := prog_30_method_81_code
def yJ2_putCharsAt_cd4e5 : MethodName := ⟨RJ2, "putCharsAt", "([BICCCC)I"⟩
abbrev cJ2_charAt_3b067 : ByteArray := prog_30_method_83_code
def yJ2_charAt_3b067 : MethodName := ⟨RJ2, "charAt", "([BI)C"⟩
abbrev cJ2_inflate_0e8fd : ByteArray := prog_30_method_86_code
def yJ2_inflate_0e8fd : MethodName := ⟨RJ2, "inflate", "([BI[BII)V"⟩
abbrev cJ2_getChars_ba4f3 : ByteArray := prog_30_method_89_code
def yJ2_getChars_ba4f3 : MethodName := ⟨RJ2, "getChars", "(II[B)I"⟩
abbrev cJ2_checkIndex_2214a : ByteArray := prog_30_method_91_code
def yJ2_checkIndex_2214a : MethodName := ⟨RJ2, "checkIndex", "(I[B)V"⟩
abbrev cJ2_checkBoundsBeginEnd_d044e : ByteArray := prog_30_method_93_code
def yJ2_checkBoundsBeginEnd_d044e : MethodName := ⟨RJ2, "checkBoundsBeginEnd", "(II[B)V"⟩
abbrev cJ2_checkBoundsOffCount_d044e : ByteArray := prog_30_method_94_code
def yJ2_checkBoundsOffCount_d044e : MethodName := ⟨RJ2, "checkBoundsOffCount", "(II[B)V"⟩
def RJ10 : String := "java/lang/System"
def TJ10 : u_T := fun k => match k with
  | _ => ("", "", "", false)
def tyJ10 : Nat → FieldType := fun k => match k with
  | _ => .int
theorem nmJ10 : ∀ a, a < 0 → ∀ b, b < 0 → a ≠ b → (TJ10 a).2.1 ≠ (TJ10 b).2.1 := by decide +kernel
theorem tyJ10_ok : ∀ k, k < 0 → parseFieldDescriptor (TJ10 k).2.2.1 = some (tyJ10 k) := by decide +kernel
def RJxfd54e : String := "java/lang/constant/Constable"
def TJxfd54e : u_T := fun k => match k with
  | _ => ("", "", "", false)
def tyJxfd54e : Nat → FieldType := fun k => match k with
  | _ => .int
theorem nmJxfd54e : ∀ a, a < 0 → ∀ b, b < 0 → a ≠ b → (TJxfd54e a).2.1 ≠ (TJxfd54e b).2.1 := by decide +kernel
theorem tyJxfd54e_ok : ∀ k, k < 0 → parseFieldDescriptor (TJxfd54e k).2.2.1 = some (tyJxfd54e k) := by decide +kernel
def RJx3cf43 : String := "java/lang/constant/ConstantDesc"
def TJx3cf43 : u_T := fun k => match k with
  | _ => ("", "", "", false)
def tyJx3cf43 : Nat → FieldType := fun k => match k with
  | _ => .int
theorem nmJx3cf43 : ∀ a, a < 0 → ∀ b, b < 0 → a ≠ b → (TJx3cf43 a).2.1 ≠ (TJx3cf43 b).2.1 := by decide +kernel
theorem tyJx3cf43_ok : ∀ k, k < 0 → parseFieldDescriptor (TJx3cf43 k).2.2.1 = some (tyJx3cf43 k) := by decide +kernel
def RJ7 : String := "java/util/Arrays"
def TJ7 : u_T := fun k => match k with
  | _ => ("", "", "", false)
def tyJ7 : Nat → FieldType := fun k => match k with
  | _ => .int
theorem nmJ7 : ∀ a, a < 0 → ∀ b, b < 0 → a ≠ b → (TJ7 a).2.1 ≠ (TJ7 b).2.1 := by decide +kernel
theorem tyJ7_ok : ∀ k, k < 0 → parseFieldDescriptor (TJ7 k).2.2.1 = some (tyJ7 k) := by decide +kernel
abbrev cJ7_copyOf_9075b : ByteArray := prog_36_method_121_code
def yJ7_copyOf_9075b : MethodName := ⟨RJ7, "copyOf", "([BI)[B"⟩
abbrev cJ7_checkLength_df160 : ByteArray := prog_36_method_131_code
def yJ7_checkLength_df160 : MethodName := ⟨RJ7, "checkLength", "(II)V"⟩
abbrev cJ7_copyOfRange_39247 : ByteArray := prog_36_method_132_code
def yJ7_copyOfRange_39247 : MethodName := ⟨RJ7, "copyOfRange", "([BII)[B"⟩
abbrev cJ7_copyOfRangeByte_39247 : ByteArray := prog_36_method_133_code
def yJ7_copyOfRangeByte_39247 : MethodName := ⟨RJ7, "copyOfRangeByte", "([BII)[B"⟩
def RJ8 : String := "jdk/internal/util/ArraysSupport"
def TJ8 : u_T := fun k => match k with
  | _ => ("", "", "", false)
def tyJ8 : Nat → FieldType := fun k => match k with
  | _ => .int
theorem nmJ8 : ∀ a, a < 0 → ∀ b, b < 0 → a ≠ b → (TJ8 a).2.1 ≠ (TJ8 b).2.1 := by decide +kernel
theorem tyJ8_ok : ∀ k, k < 0 → parseFieldDescriptor (TJ8 k).2.2.1 = some (tyJ8 k) := by decide +kernel
abbrev cJ8_newLength_cabcc : ByteArray := prog_38_method_27_code
def yJ8_newLength_cabcc : MethodName := ⟨RJ8, "newLength", "(III)I"⟩
abbrev cJ8_hugeLength_7cf53 : ByteArray := prog_38_method_28_code
def yJ8_hugeLength_7cf53 : MethodName := ⟨RJ8, "hugeLength", "(II)I"⟩
def RJ3 : String := "jdk/internal/util/Preconditions"
def TJ3 : u_T := fun k => match k with
  | _ => ("", "", "", false)
def tyJ3 : Nat → FieldType := fun k => match k with
  | _ => .int
theorem nmJ3 : ∀ a, a < 0 → ∀ b, b < 0 → a ≠ b → (TJ3 a).2.1 ≠ (TJ3 b).2.1 := by decide +kernel
theorem tyJ3_ok : ∀ k, k < 0 → parseFieldDescriptor (TJ3 k).2.2.1 = some (tyJ3 k) := by decide +kernel
abbrev cJ3_checkIndex_8e157 : ByteArray := prog_39_method_11_code
def yJ3_checkIndex_8e157 : MethodName := ⟨RJ3, "checkIndex", "(IILjava/util/function/BiFunction;)I"⟩
abbrev cJ3_checkFromToIndex_8c36e : ByteArray := prog_39_method_12_code
def yJ3_checkFromToIndex_8c36e : MethodName := ⟨RJ3, "checkFromToIndex", "(IIILjava/util/function/BiFunction;)I"⟩
abbrev cJ3_checkFromIndexSize_8c36e : ByteArray := prog_39_method_13_code
def yJ3_checkFromIndexSize_8c36e : MethodName := ⟨RJ3, "checkFromIndexSize", "(IIILjava/util/function/BiFunction;)I"⟩
def RL : String := "GuildSealsLaw"
abbrev cL_cell : ByteArray := method_2_code
def yL_cell : MethodName := ⟨RL, "cell", "([II)I"⟩
abbrev cL_matter : ByteArray := method_3_code
def yL_matter : MethodName := ⟨RL, "matter", "(LGuildSeals;)I"⟩
abbrev cL_set : ByteArray := method_4_code
def yL_set : MethodName := ⟨RL, "set", "(LGuildSeals;III)I"⟩
abbrev cL_of : ByteArray := method_5_code
def yL_of : MethodName := ⟨RL, "of", "(LGuildSeals;II)I"⟩
abbrev cL_answer : ByteArray := method_6_code
def yL_answer : MethodName := ⟨RL, "answer", "(LGuildSeals;II)I"⟩
abbrev cL_amount : ByteArray := method_7_code
def yL_amount : MethodName := ⟨RL, "amount", "(LGuildSeals;II)I"⟩
abbrev cL_ask : ByteArray := method_8_code
def yL_ask : MethodName := ⟨RL, "ask", "(LGuildSeals;II)I"⟩
abbrev cL_decide : ByteArray := method_9_code
def yL_decide : MethodName := ⟨RL, "decide", "(LGuildSeals;I)I"⟩
abbrev cL_tell : ByteArray := method_10_code
def yL_tell : MethodName := ⟨RL, "tell", "(LGuildSeals;II)I"⟩
abbrev cL_faint : ByteArray := method_11_code
def yL_faint : MethodName := ⟨RL, "faint", "(LGuildSeals;)I"⟩
abbrev cL_wake : ByteArray := method_12_code
def yL_wake : MethodName := ⟨RL, "wake", "(LGuildSeals;)I"⟩
abbrev cL_book : ByteArray := method_13_code
def yL_book : MethodName := ⟨RL, "book", "(LGuildSeals;I)I"⟩
abbrev cL_wouldSeal : ByteArray := method_14_code
def yL_wouldSeal : MethodName := ⟨RL, "wouldSeal", "(LGuildSeals;I)I"⟩
abbrev cL_sleep : ByteArray := method_15_code
def yL_sleep : MethodName := ⟨RL, "sleep", "(LGuildSeals;I)I"⟩
abbrev cL_rouse : ByteArray := method_16_code
def yL_rouse : MethodName := ⟨RL, "rouse", "(LGuildSeals;I)I"⟩
abbrev cL_inquire : ByteArray := method_17_code
def yL_inquire : MethodName := ⟨RL, "inquire", "(LGuildSeals;III)I"⟩
abbrev cL_guildOf : ByteArray := method_18_code
def yL_guildOf : MethodName := ⟨RL, "guildOf", "(LGuildSeals;II)I"⟩
abbrev cL_canLearn : ByteArray := method_19_code
def yL_canLearn : MethodName := ⟨RL, "canLearn", "(LGuildSeals;IZ)I"⟩
abbrev cL_pass : ByteArray := method_20_code
def yL_pass : MethodName := ⟨RL, "pass", "(LGuildSeals;I)I"⟩
abbrev cL_ranked : ByteArray := method_21_code
def yL_ranked : MethodName := ⟨RL, "ranked", "(LGuildSeals;I)I"⟩
abbrev cL_line : ByteArray := method_22_code
def yL_line : MethodName := ⟨RL, "line", "(LGuildSeals;I)I"⟩
abbrev cL_character : ByteArray := method_23_code
def yL_character : MethodName := ⟨RL, "character", "(LGuildSeals;I)I"⟩
abbrev cL_append : ByteArray := method_24_code
def yL_append : MethodName := ⟨RL, "append", "(LGuildSeals;C)I"⟩
abbrev cL_runs : ByteArray := method_25_code
def yL_runs : MethodName := ⟨RL, "runs", "(LGuildSeals;)I"⟩
abbrev cL_run : ByteArray := method_26_code
def yL_run : MethodName := ⟨RL, "run", "(LGuildSeals;Ljava/lang/String;)I"⟩
abbrev cL_undo : ByteArray := method_28_code
def yL_undo : MethodName := ⟨RL, "undo", "(LGuildSeals;)I"⟩
abbrev cL_drawn : ByteArray := method_29_code
def yL_drawn : MethodName := ⟨RL, "drawn", "([I)LGuildSeals;"⟩
abbrev cL_doubt : ByteArray := method_30_code
def yL_doubt : MethodName := ⟨RL, "doubt", "(LGuildSeals;I)I"⟩
abbrev cL_count : ByteArray := method_31_code
def yL_count : MethodName := ⟨RL, "count", "(LGuildSeals;II)I"⟩
abbrev cL_law : ByteArray := code
def yL_law : MethodName := ⟨RL, "law", "([I)Z"⟩
abbrev cL_matters : ByteArray := method_33_code
def yL_matters : MethodName := ⟨RL, "matters", "(LGuildSeals;)Z"⟩
abbrev cL_guilds : ByteArray := method_34_code
def yL_guilds : MethodName := ⟨RL, "guilds", "(LGuildSeals;)Z"⟩
abbrev cL_book_ : ByteArray := method_35_code
def yL_book_ : MethodName := ⟨RL, "book", "(LGuildSeals;)Z"⟩
abbrev cL_told : ByteArray := method_36_code
def yL_told : MethodName := ⟨RL, "told", "(LGuildSeals;)Z"⟩
abbrev cL_sum : ByteArray := method_37_code
def yL_sum : MethodName := ⟨RL, "sum", "(LGuildSeals;)J"⟩
abbrev cL_undone : ByteArray := method_38_code
def yL_undone : MethodName := ⟨RL, "undone", "([ILGuildSeals;)Z"⟩
abbrev vwCl : List vw_C := [(RJ0, TJ0, 4), (RJ4, TJ4, 4), (RJx00060, TJx00060, 6), (RX0, TX0, 2), (RX1, TX1, 14), (RX2, TX2, 3), (RX3, TX3, 2), (RX4, TX4, 10), (RX5, TX5, 3), (RX6, TX6, 9)]
