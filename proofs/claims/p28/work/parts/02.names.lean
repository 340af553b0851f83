/-! ===== BEGIN printed: names, fields, word lists, decode rows ===== -/
def RX0 : String := "SeekLeague$Forecast"
def TX0 : u_T := fun k => match k with
  | _ => ("", "", "", false)
def tyX0 : Nat → FieldType := fun k => match k with
  | _ => .int
theorem nmX0 : ∀ a, a < 0 → ∀ b, b < 0 → a ≠ b → (TX0 a).2.1 ≠ (TX0 b).2.1 := by decide +kernel
theorem tyX0_ok : ∀ k, k < 0 → parseFieldDescriptor (TX0 k).2.2.1 = some (tyX0 k) := by decide +kernel
abbrev cX0_spotsInSight : ByteArray := prog_2_method_2_code
def yX0_spotsInSight : MethodName := ⟨RX0, "spotsInSight", "(LSeekLeague$State;)I"⟩
abbrev cX0_playersWhoWouldEscape : ByteArray := prog_2_method_3_code
def yX0_playersWhoWouldEscape : MethodName := ⟨RX0, "playersWhoWouldEscape", "(LSeekLeague$State;)I"⟩
abbrev cX0_bestHidingSpot : ByteArray := prog_2_method_4_code
def yX0_bestHidingSpot : MethodName := ⟨RX0, "bestHidingSpot", "(LSeekLeague$State;)I"⟩
abbrev cX0_isBetterToHide : ByteArray := prog_2_method_5_code
def yX0_isBetterToHide : MethodName := ⟨RX0, "isBetterToHide", "(LSeekLeague$State;II)Z"⟩
abbrev cX0_stepsToSeeAll : ByteArray := prog_2_method_6_code
def yX0_stepsToSeeAll : MethodName := ⟨RX0, "stepsToSeeAll", "(LSeekLeague$State;)I"⟩
abbrev cX0_stepsDownForTheRest : ByteArray := prog_2_method_7_code
def yX0_stepsDownForTheRest : MethodName := ⟨RX0, "stepsDownForTheRest", "(LSeekLeague$State;I)I"⟩
def RX1 : String := "SeekLeague$MoveText"
def TX1 : u_T := fun k => match k with
  | 0 => ("SeekLeague$MoveText", "signs", "[I", true)
  | _ => ("SeekLeague$MoveText", "length", "I", false)
def tyX1 : Nat → FieldType := fun k => match k with
  | 0 => .array .int
  | _ => .int
theorem nmX1 : ∀ a, a < 2 → ∀ b, b < 2 → a ≠ b → (TX1 a).2.1 ≠ (TX1 b).2.1 := by decide +kernel
theorem tyX1_ok : ∀ k, k < 2 → parseFieldDescriptor (TX1 k).2.2.1 = some (tyX1 k) := by decide +kernel
abbrev cX1_init : ByteArray := prog_3_method_1_code
def yX1_init : MethodName := ⟨RX1, "<init>", "()V"⟩
def RX2 : String := "SeekLeague$Moves"
def TX2 : u_T := fun k => match k with
  | _ => ("", "", "", false)
def tyX2 : Nat → FieldType := fun k => match k with
  | _ => .int
theorem nmX2 : ∀ a, a < 0 → ∀ b, b < 0 → a ≠ b → (TX2 a).2.1 ≠ (TX2 b).2.1 := by decide +kernel
theorem tyX2_ok : ∀ k, k < 0 → parseFieldDescriptor (TX2 k).2.2.1 = some (tyX2 k) := by decide +kernel
abbrev cX2_changeSetting : ByteArray := prog_4_method_2_code
def yX2_changeSetting : MethodName := ⟨RX2, "changeSetting", "(LSeekLeague$State;II)I"⟩
abbrev cX2_addPlayer : ByteArray := prog_4_method_3_code
def yX2_addPlayer : MethodName := ⟨RX2, "addPlayer", "(LSeekLeague$State;)I"⟩
abbrev cX2_beginRound : ByteArray := prog_4_method_4_code
def yX2_beginRound : MethodName := ⟨RX2, "beginRound", "(LSeekLeague$State;II)I"⟩
abbrev cX2_countHidingSpots : ByteArray := prog_4_method_5_code
def yX2_countHidingSpots : MethodName := ⟨RX2, "countHidingSpots", "(LSeekLeague$State;)I"⟩
abbrev cX2_hidePlayer : ByteArray := prog_4_method_6_code
def yX2_hidePlayer : MethodName := ⟨RX2, "hidePlayer", "(LSeekLeague$State;II)I"⟩
abbrev cX2_beginSeeking : ByteArray := prog_4_method_7_code
def yX2_beginSeeking : MethodName := ⟨RX2, "beginSeeking", "(LSeekLeague$State;)I"⟩
abbrev cX2_moveSeeker : ByteArray := prog_4_method_8_code
def yX2_moveSeeker : MethodName := ⟨RX2, "moveSeeker", "(LSeekLeague$State;I)I"⟩
abbrev cX2_cryName : ByteArray := prog_4_method_9_code
def yX2_cryName : MethodName := ⟨RX2, "cryName", "(LSeekLeague$State;II)I"⟩
abbrev cX2_dashHome : ByteArray := prog_4_method_10_code
def yX2_dashHome : MethodName := ⟨RX2, "dashHome", "(LSeekLeague$State;I)I"⟩
abbrev cX2_findPlayer : ByteArray := prog_4_method_11_code
def yX2_findPlayer : MethodName := ⟨RX2, "findPlayer", "(LSeekLeague$State;II)V"⟩
abbrev cX2_countFindOfSpot : ByteArray := prog_4_method_12_code
def yX2_countFindOfSpot : MethodName := ⟨RX2, "countFindOfSpot", "(LSeekLeague$State;I)V"⟩
abbrev cX2_countFalseCry : ByteArray := prog_4_method_13_code
def yX2_countFalseCry : MethodName := ⟨RX2, "countFalseCry", "(LSeekLeague$State;)V"⟩
abbrev cX2_letAllEscape : ByteArray := prog_4_method_14_code
def yX2_letAllEscape : MethodName := ⟨RX2, "letAllEscape", "(LSeekLeague$State;)V"⟩
abbrev cX2_escape : ByteArray := prog_4_method_15_code
def yX2_escape : MethodName := ⟨RX2, "escape", "(LSeekLeague$State;II)V"⟩
abbrev cX2_endRoundIfNobodyIsHidden : ByteArray := prog_4_method_16_code
def yX2_endRoundIfNobodyIsHidden : MethodName := ⟨RX2, "endRoundIfNobodyIsHidden", "(LSeekLeague$State;)V"⟩
abbrev cX2_endRound : ByteArray := prog_4_method_17_code
def yX2_endRound : MethodName := ⟨RX2, "endRound", "(LSeekLeague$State;)V"⟩
abbrev cX2_restSpot : ByteArray := prog_4_method_18_code
def yX2_restSpot : MethodName := ⟨RX2, "restSpot", "(LSeekLeague$State;I)V"⟩
def RX3 : String := "SeekLeague$Past"
def TX3 : u_T := fun k => match k with
  | 0 => ("SeekLeague$Past", "states", "[LSeekLeague$State;", true)
  | _ => ("SeekLeague$Past", "count", "I", false)
def tyX3 : Nat → FieldType := fun k => match k with
  | 0 => .array (.object "SeekLeague$State")
  | _ => .int
theorem nmX3 : ∀ a, a < 2 → ∀ b, b < 2 → a ≠ b → (TX3 a).2.1 ≠ (TX3 b).2.1 := by decide +kernel
theorem tyX3_ok : ∀ k, k < 2 → parseFieldDescriptor (TX3 k).2.2.1 = some (tyX3 k) := by decide +kernel
abbrev cX3_init : ByteArray := prog_5_method_1_code
def yX3_init : MethodName := ⟨RX3, "<init>", "()V"⟩
abbrev cX3_draft : ByteArray := prog_5_method_2_code
def yX3_draft : MethodName := ⟨RX3, "draft", "(LSeekLeague$State;)V"⟩
abbrev cX3_keep : ByteArray := prog_5_method_3_code
def yX3_keep : MethodName := ⟨RX3, "keep", "(I)I"⟩
abbrev cX3_discardOldest : ByteArray := prog_5_method_4_code
def yX3_discardOldest : MethodName := ⟨RX3, "discardOldest", "()V"⟩
def RX4 : String := "SeekLeague$Ranks"
def TX4 : u_T := fun k => match k with
  | _ => ("", "", "", false)
def tyX4 : Nat → FieldType := fun k => match k with
  | _ => .int
theorem nmX4 : ∀ a, a < 0 → ∀ b, b < 0 → a ≠ b → (TX4 a).2.1 ≠ (TX4 b).2.1 := by decide +kernel
theorem tyX4_ok : ∀ k, k < 0 → parseFieldDescriptor (TX4 k).2.2.1 = some (tyX4 k) := by decide +kernel
abbrev cX4_isAhead : ByteArray := prog_6_method_2_code
def yX4_isAhead : MethodName := ⟨RX4, "isAhead", "(LSeekLeague$State;II)Z"⟩
abbrev cX4_placeOf : ByteArray := prog_6_method_3_code
def yX4_placeOf : MethodName := ⟨RX4, "placeOf", "(LSeekLeague$State;I)I"⟩
abbrev cX4_playerAt : ByteArray := prog_6_method_4_code
def yX4_playerAt : MethodName := ⟨RX4, "playerAt", "(LSeekLeague$State;I)I"⟩
abbrev cX4_seekerOfNextRound : ByteArray := prog_6_method_5_code
def yX4_seekerOfNextRound : MethodName := ⟨RX4, "seekerOfNextRound", "(LSeekLeague$State;)I"⟩
abbrev cX4_seeksSooner : ByteArray := prog_6_method_6_code
def yX4_seeksSooner : MethodName := ⟨RX4, "seeksSooner", "(LSeekLeague$State;II)Z"⟩
def RX5 : String := "SeekLeague$State"
def TX5 : u_T := fun k => match k with
  | 0 => ("SeekLeague$State", "settings", "[I", true)
  | 1 => ("SeekLeague$State", "points", "[I", true)
  | 2 => ("SeekLeague$State", "seekerRounds", "[I", true)
  | 3 => ("SeekLeague$State", "playersFound", "[I", true)
  | 4 => ("SeekLeague$State", "falseCries", "[I", true)
  | 5 => ("SeekLeague$State", "escapes", "[I", true)
  | 6 => ("SeekLeague$State", "hidesAt", "[I", true)
  | 7 => ("SeekLeague$State", "finds", "[I", true)
  | 8 => ("SeekLeague$State", "restedRounds", "[I", true)
  | 9 => ("SeekLeague$State", "players", "I", false)
  | 10 => ("SeekLeague$State", "roundsEnded", "I", false)
  | 11 => ("SeekLeague$State", "part", "I", false)
  | 12 => ("SeekLeague$State", "seeker", "I", false)
  | 13 => ("SeekLeague$State", "breaths", "I", false)
  | 14 => ("SeekLeague$State", "seekerSpot", "I", false)
  | _ => ("SeekLeague$State", "falseCriesOfRound", "I", false)
def tyX5 : Nat → FieldType := fun k => match k with
  | 0 => .array .int
  | 1 => .array .int
  | 2 => .array .int
  | 3 => .array .int
  | 4 => .array .int
  | 5 => .array .int
  | 6 => .array .int
  | 7 => .array .int
  | 8 => .array .int
  | 9 => .int
  | 10 => .int
  | 11 => .int
  | 12 => .int
  | 13 => .int
  | 14 => .int
  | _ => .int
theorem nmX5 : ∀ a, a < 16 → ∀ b, b < 16 → a ≠ b → (TX5 a).2.1 ≠ (TX5 b).2.1 := by decide +kernel
theorem tyX5_ok : ∀ k, k < 16 → parseFieldDescriptor (TX5 k).2.2.1 = some (tyX5 k) := by decide +kernel
abbrev cX5_init : ByteArray := prog_7_method_1_code
def yX5_init : MethodName := ⟨RX5, "<init>", "()V"⟩
abbrev cX5_copyFrom : ByteArray := prog_7_method_2_code
def yX5_copyFrom : MethodName := ⟨RX5, "copyFrom", "(LSeekLeague$State;)V"⟩
abbrev cX5_isSetting : ByteArray := prog_7_method_3_code
def yX5_isSetting : MethodName := ⟨RX5, "isSetting", "(I)Z"⟩
abbrev cX5_isPlayer : ByteArray := prog_7_method_4_code
def yX5_isPlayer : MethodName := ⟨RX5, "isPlayer", "(I)Z"⟩
abbrev cX5_isHidden : ByteArray := prog_7_method_5_code
def yX5_isHidden : MethodName := ⟨RX5, "isHidden", "(I)Z"⟩
abbrev cX5_hiddenCount : ByteArray := prog_7_method_6_code
def yX5_hiddenCount : MethodName := ⟨RX5, "hiddenCount", "()I"⟩
abbrev cX5_hidersAt : ByteArray := prog_7_method_7_code
def yX5_hidersAt : MethodName := ⟨RX5, "hidersAt", "(I)I"⟩
abbrev cX5_hiderCount : ByteArray := prog_7_method_8_code
def yX5_hiderCount : MethodName := ⟨RX5, "hiderCount", "(I)I"⟩
abbrev cX5_isRetired : ByteArray := prog_7_method_9_code
def yX5_isRetired : MethodName := ⟨RX5, "isRetired", "(I)Z"⟩
abbrev cX5_retiredCount : ByteArray := prog_7_method_10_code
def yX5_retiredCount : MethodName := ⟨RX5, "retiredCount", "()I"⟩
abbrev cX5_isHidingPlace : ByteArray := prog_7_method_11_code
def yX5_isHidingPlace : MethodName := ⟨RX5, "isHidingPlace", "(I)Z"⟩
abbrev cX5_isFull : ByteArray := prog_7_method_12_code
def yX5_isFull : MethodName := ⟨RX5, "isFull", "(I)Z"⟩
abbrev cX5_hasRoomToHide : ByteArray := prog_7_method_13_code
def yX5_hasRoomToHide : MethodName := ⟨RX5, "hasRoomToHide", "(I)Z"⟩
abbrev cX5_seekerSees : ByteArray := prog_7_method_14_code
def yX5_seekerSees : MethodName := ⟨RX5, "seekerSees", "(I)Z"⟩
abbrev cX5_wouldEscape : ByteArray := prog_7_method_15_code
def yX5_wouldEscape : MethodName := ⟨RX5, "wouldEscape", "(I)Z"⟩
abbrev cX5_sumOfPoints : ByteArray := prog_7_method_16_code
def yX5_sumOfPoints : MethodName := ⟨RX5, "sumOfPoints", "()I"⟩
def RX6 : String := "SeekLeague$Yard"
def TX6 : u_T := fun k => match k with
  | _ => ("", "", "", false)
def tyX6 : Nat → FieldType := fun k => match k with
  | _ => .int
theorem nmX6 : ∀ a, a < 0 → ∀ b, b < 0 → a ≠ b → (TX6 a).2.1 ≠ (TX6 b).2.1 := by decide +kernel
theorem tyX6_ok : ∀ k, k < 0 → parseFieldDescriptor (TX6 k).2.2.1 = some (tyX6 k) := by decide +kernel
abbrev cX6_isSpot : ByteArray := prog_8_method_2_code
def yX6_isSpot : MethodName := ⟨RX6, "isSpot", "(I)Z"⟩
abbrev cX6_distance : ByteArray := prog_8_method_3_code
def yX6_distance : MethodName := ⟨RX6, "distance", "(II)I"⟩
abbrev cX6_fromBase : ByteArray := prog_8_method_4_code
def yX6_fromBase : MethodName := ⟨RX6, "fromBase", "(I)I"⟩
abbrev cX6_stepsUp : ByteArray := prog_8_method_5_code
def yX6_stepsUp : MethodName := ⟨RX6, "stepsUp", "(II)I"⟩
abbrev cX6_beside : ByteArray := prog_8_method_6_code
def yX6_beside : MethodName := ⟨RX6, "beside", "(II)I"⟩
def RX7 : String := "SeekLeague"
def TX7 : u_T := fun k => match k with
  | 0 => ("SeekLeague", "now", "LSeekLeague$State;", true)
  | 1 => ("SeekLeague", "saved", "LSeekLeague$State;", true)
  | 2 => ("SeekLeague", "past", "LSeekLeague$Past;", true)
  | 3 => ("SeekLeague", "text", "LSeekLeague$MoveText;", true)
  | _ => ("SeekLeague", "hasSaved", "Z", false)
def tyX7 : Nat → FieldType := fun k => match k with
  | 0 => .object "SeekLeague$State"
  | 1 => .object "SeekLeague$State"
  | 2 => .object "SeekLeague$Past"
  | 3 => .object "SeekLeague$MoveText"
  | _ => .boolean
theorem nmX7 : ∀ a, a < 5 → ∀ b, b < 5 → a ≠ b → (TX7 a).2.1 ≠ (TX7 b).2.1 := by decide +kernel
theorem tyX7_ok : ∀ k, k < 5 → parseFieldDescriptor (TX7 k).2.2.1 = some (tyX7 k) := by decide +kernel
abbrev cX7_init : ByteArray := prog_1_method_1_code
def yX7_init : MethodName := ⟨RX7, "<init>", "()V"⟩
abbrev cX7_set : ByteArray := prog_1_method_2_code
def yX7_set : MethodName := ⟨RX7, "set", "(II)I"⟩
abbrev cX7_setting : ByteArray := prog_1_method_3_code
def yX7_setting : MethodName := ⟨RX7, "setting", "(I)I"⟩
abbrev cX7_join : ByteArray := prog_1_method_4_code
def yX7_join : MethodName := ⟨RX7, "join", "()I"⟩
abbrev cX7_start : ByteArray := prog_1_method_5_code
def yX7_start : MethodName := ⟨RX7, "start", "(II)I"⟩
abbrev cX7_hide : ByteArray := prog_1_method_6_code
def yX7_hide : MethodName := ⟨RX7, "hide", "(II)I"⟩
abbrev cX7_seek : ByteArray := prog_1_method_7_code
def yX7_seek : MethodName := ⟨RX7, "seek", "()I"⟩
abbrev cX7_walk : ByteArray := prog_1_method_8_code
def yX7_walk : MethodName := ⟨RX7, "walk", "(I)I"⟩
abbrev cX7_cry : ByteArray := prog_1_method_9_code
def yX7_cry : MethodName := ⟨RX7, "cry", "(II)I"⟩
abbrev cX7_dash : ByteArray := prog_1_method_10_code
def yX7_dash : MethodName := ⟨RX7, "dash", "(I)I"⟩
abbrev cX7_player : ByteArray := prog_1_method_11_code
def yX7_player : MethodName := ⟨RX7, "player", "(II)I"⟩
abbrev cX7_spot : ByteArray := prog_1_method_12_code
def yX7_spot : MethodName := ⟨RX7, "spot", "(II)I"⟩
abbrev cX7_ranked : ByteArray := prog_1_method_13_code
def yX7_ranked : MethodName := ⟨RX7, "ranked", "(I)I"⟩
abbrev cX7_nextSeeker : ByteArray := prog_1_method_14_code
def yX7_nextSeeker : MethodName := ⟨RX7, "nextSeeker", "()I"⟩
abbrev cX7_total : ByteArray := prog_1_method_15_code
def yX7_total : MethodName := ⟨RX7, "total", "(I)I"⟩
abbrev cX7_inSight : ByteArray := prog_1_method_16_code
def yX7_inSight : MethodName := ⟨RX7, "inSight", "()I"⟩
abbrev cX7_couldDash : ByteArray := prog_1_method_17_code
def yX7_couldDash : MethodName := ⟨RX7, "couldDash", "()I"⟩
abbrev cX7_bestSpot : ByteArray := prog_1_method_18_code
def yX7_bestSpot : MethodName := ⟨RX7, "bestSpot", "()I"⟩
abbrev cX7_fewestSteps : ByteArray := prog_1_method_19_code
def yX7_fewestSteps : MethodName := ⟨RX7, "fewestSteps", "()I"⟩
def RX8 : String := "SeekLeagueModel"
def TX8 : u_T := fun k => match k with
  | _ => ("", "", "", false)
def tyX8 : Nat → FieldType := fun k => match k with
  | _ => .int
theorem nmX8 : ∀ a, a < 0 → ∀ b, b < 0 → a ≠ b → (TX8 a).2.1 ≠ (TX8 b).2.1 := by decide +kernel
theorem tyX8_ok : ∀ k, k < 0 → parseFieldDescriptor (TX8 k).2.2.1 = some (tyX8 k) := by decide +kernel
def RJ6 : String := "java/lang/Integer"
def TJ6 : u_T := fun k => match k with
  | _ => ("", "", "", false)
def tyJ6 : Nat → FieldType := fun k => match k with
  | _ => .int
theorem nmJ6 : ∀ a, a < 0 → ∀ b, b < 0 → a ≠ b → (TJ6 a).2.1 ≠ (TJ6 b).2.1 := by decide +kernel
theorem tyJ6_ok : ∀ k, k < 0 → parseFieldDescriptor (TJ6 k).2.2.1 = some (tyJ6 k) := by decide +kernel
abbrev cJ6_bitCount_0f7a4 : ByteArray := prog_11_method_49_code
def yJ6_bitCount_0f7a4 : MethodName := ⟨RJ6, "bitCount", "(I)I"⟩
def RJ9 : String := "java/lang/Math"
def TJ9 : u_T := fun k => match k with
  | _ => ("", "", "", false)
def tyJ9 : Nat → FieldType := fun k => match k with
  | _ => .int
theorem nmJ9 : ∀ a, a < 0 → ∀ b, b < 0 → a ≠ b → (TJ9 a).2.1 ≠ (TJ9 b).2.1 := by decide +kernel
theorem tyJ9_ok : ∀ k, k < 0 → parseFieldDescriptor (TJ9 k).2.2.1 = some (tyJ9 k) := by decide +kernel
abbrev cJ9_floorMod_7cf53 : ByteArray := prog_12_method_50_code
def yJ9_floorMod_7cf53 : MethodName := ⟨RJ9, "floorMod", "(II)I"⟩
abbrev cJ9_max_7cf53 : ByteArray := prog_12_method_65_code
def yJ9_max_7cf53 : MethodName := ⟨RJ9, "max", "(II)I"⟩
abbrev cJ9_min_7cf53 : ByteArray := prog_12_method_69_code
def yJ9_min_7cf53 : MethodName := ⟨RJ9, "min", "(II)I"⟩
def RJ10 : String := "java/lang/System"
def TJ10 : u_T := fun k => match k with
  | _ => ("", "", "", false)
def tyJ10 : Nat → FieldType := fun k => match k with
  | _ => .int
theorem nmJ10 : ∀ a, a < 0 → ∀ b, b < 0 → a ≠ b → (TJ10 a).2.1 ≠ (TJ10 b).2.1 := by decide +kernel
theorem tyJ10_ok : ∀ k, k < 0 → parseFieldDescriptor (TJ10 k).2.2.1 = some (tyJ10 k) := by decide +kernel
def RJ7 : String := "java/util/Arrays"
def TJ7 : u_T := fun k => match k with
  | _ => ("", "", "", false)
def tyJ7 : Nat → FieldType := fun k => match k with
  | _ => .int
theorem nmJ7 : ∀ a, a < 0 → ∀ b, b < 0 → a ≠ b → (TJ7 a).2.1 ≠ (TJ7 b).2.1 := by decide +kernel
theorem tyJ7_ok : ∀ k, k < 0 → parseFieldDescriptor (TJ7 k).2.2.1 = some (tyJ7 k) := by decide +kernel
abbrev cJ7_fill_53178 : ByteArray := prog_14_method_103_code
def yJ7_fill_53178 : MethodName := ⟨RJ7, "fill", "([II)V"⟩
def RL : String := "SeekLeagueLaw"
abbrev cL_cell : ByteArray := method_2_code
def yL_cell : MethodName := ⟨RL, "cell", "([II)I"⟩
abbrev cL_low : ByteArray := method_3_code
def yL_low : MethodName := ⟨RL, "low", "(II)I"⟩
abbrev cL_apart : ByteArray := method_4_code
def yL_apart : MethodName := ⟨RL, "apart", "(II)I"⟩
abbrev cL_here : ByteArray := method_5_code
def yL_here : MethodName := ⟨RL, "here", "([II)I"⟩
abbrev cL_count : ByteArray := method_6_code
def yL_count : MethodName := ⟨RL, "count", "(I)I"⟩
abbrev cL_hidden : ByteArray := method_7_code
def yL_hidden : MethodName := ⟨RL, "hidden", "([I)I"⟩
abbrev cL_good : ByteArray := method_8_code
def yL_good : MethodName := ⟨RL, "good", "([I[II)Z"⟩
abbrev cL_end : ByteArray := method_9_code
def yL_end : MethodName := ⟨RL, "end", "([I[I[I[I)V"⟩
abbrev cL_ahead : ByteArray := method_10_code
def yL_ahead : MethodName := ⟨RL, "ahead", "([III)Z"⟩
abbrev cL_steps : ByteArray := method_11_code
def yL_steps : MethodName := ⟨RL, "steps", "([I[I)I"⟩
abbrev cL_league : ByteArray := method_12_code
def yL_league : MethodName := ⟨RL, "league", "(LSeekLeague;[I[I[I[I)Z"⟩
abbrev cL_law : ByteArray := code
def yL_law : MethodName := ⟨RL, "law", "([I)Z"⟩
abbrev vwCl : List vw_C := [(RX1, TX1, 2), (RX3, TX3, 2), (RX5, TX5, 16), (RX7, TX7, 5)]
