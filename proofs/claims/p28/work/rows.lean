section
-- ===== PART A: goes FIRST, ahead of the names: the tables' words, and 'selects' of the private methods out of them =====
/-- a private method of a class that the tables say can be made, by its rows of tables_1 -/
def lw_okq (q : MethodName × Nat) : Prop := (q.1.cls ≠ "java/lang/invoke/MethodHandle" ∧ q.1.cls ≠ "java/lang/invoke/VarHandle") ∧ Cond.instantiable q.1.cls q.2 ∈ tables_1 ∧ Cond.privateMethod q.1 ∈ tables_1 ∧ Cond.instanceMethod q.1 ∈ tables_1
theorem lw_p0 : lw_okq (⟨"SeekLeague$Past", "discardOldest", "()V"⟩, 2) := ⟨⟨by decide +kernel, by decide +kernel⟩, List.mem_of_getElem? (i := 122) (by decide +kernel), List.mem_of_getElem? (i := 196) (by decide +kernel), List.mem_of_getElem? (i := 197) (by decide +kernel)⟩
def lw_privs_1 : List (MethodName × Nat) := [(⟨"SeekLeague$Past", "discardOldest", "()V"⟩, 2)]
theorem lw_r1 : ∀ q ∈ lw_privs_1, lw_okq q := List.forall_mem_cons.mpr ⟨lw_p0, fun _ h => absurd h List.not_mem_nil⟩
def lw_privs : List (MethodName × Nat) := lw_privs_1
def lw_tbl : List Cond := k2_sels lw_privs ++ tables_1
theorem lw_privs_ok : ∀ q ∈ lw_privs, lw_okq q := lw_r1
end
section
/-! ===== BEGIN printed: names, fields, word lists, decode rows ===== -/
def RX0 : String := "SeekLeague$Forecast"
def TX0 : u_T := fun k => match k with
  | _ => ("", "", "", false)
def tyX0 : Nat → FieldType := fun k => match k with
  | _ => .int
theorem nmX0 : ∀ a, a < 0 → ∀ b, b < 0 → a ≠ b → (TX0 a).2.1 ≠ (TX0 b).2.1 := by decide +kernel
theorem tyX0_ok : ∀ k, k < 0 → parseFieldDescriptor (TX0 k).2.2.1 = some (tyX0 k) := by decide +kernel
abbrev cX0_spotsInSight : ByteArray := prog_2_method_2_code
def yX0_spotsInSight : MethodName := ⟨RX0, "spotsInSight", "(LSeekLeague$State;)I"⟩
abbrev cX0_playersWhoWouldEscape : ByteArray := prog_2_method_3_code
def yX0_playersWhoWouldEscape : MethodName := ⟨RX0, "playersWhoWouldEscape", "(LSeekLeague$State;)I"⟩
abbrev cX0_bestHidingSpot : ByteArray := prog_2_method_4_code
def yX0_bestHidingSpot : MethodName := ⟨RX0, "bestHidingSpot", "(LSeekLeague$State;)I"⟩
abbrev cX0_isBetterToHide : ByteArray := prog_2_method_5_code
def yX0_isBetterToHide : MethodName := ⟨RX0, "isBetterToHide", "(LSeekLeague$State;II)Z"⟩
abbrev cX0_stepsToSeeAll : ByteArray := prog_2_method_6_code
def yX0_stepsToSeeAll : MethodName := ⟨RX0, "stepsToSeeAll", "(LSeekLeague$State;)I"⟩
abbrev cX0_stepsDownForTheRest : ByteArray := prog_2_method_7_code
def yX0_stepsDownForTheRest : MethodName := ⟨RX0, "stepsDownForTheRest", "(LSeekLeague$State;I)I"⟩
def RX1 : String := "SeekLeague$MoveText"
def TX1 : u_T := fun k => match k with
  | 0 => ("SeekLeague$MoveText", "signs", "[I", true)
  | _ => ("SeekLeague$MoveText", "length", "I", false)
def tyX1 : Nat → FieldType := fun k => match k with
  | 0 => .array .int
  | _ => .int
theorem nmX1 : ∀ a, a < 2 → ∀ b, b < 2 → a ≠ b → (TX1 a).2.1 ≠ (TX1 b).2.1 := by decide +kernel
theorem tyX1_ok : ∀ k, k < 2 → parseFieldDescriptor (TX1 k).2.2.1 = some (tyX1 k) := by decide +kernel
abbrev cX1_init : ByteArray := prog_3_method_1_code
def yX1_init : MethodName := ⟨RX1, "<init>", "()V"⟩
def RX2 : String := "SeekLeague$Moves"
def TX2 : u_T := fun k => match k with
  | _ => ("", "", "", false)
def tyX2 : Nat → FieldType := fun k => match k with
  | _ => .int
theorem nmX2 : ∀ a, a < 0 → ∀ b, b < 0 → a ≠ b → (TX2 a).2.1 ≠ (TX2 b).2.1 := by decide +kernel
theorem tyX2_ok : ∀ k, k < 0 → parseFieldDescriptor (TX2 k).2.2.1 = some (tyX2 k) := by decide +kernel
abbrev cX2_changeSetting : ByteArray := prog_4_method_2_code
def yX2_changeSetting : MethodName := ⟨RX2, "changeSetting", "(LSeekLeague$State;II)I"⟩
abbrev cX2_addPlayer : ByteArray := prog_4_method_3_code
def yX2_addPlayer : MethodName := ⟨RX2, "addPlayer", "(LSeekLeague$State;)I"⟩
abbrev cX2_beginRound : ByteArray := prog_4_method_4_code
def yX2_beginRound : MethodName := ⟨RX2, "beginRound", "(LSeekLeague$State;II)I"⟩
abbrev cX2_countHidingSpots : ByteArray := prog_4_method_5_code
def yX2_countHidingSpots : MethodName := ⟨RX2, "countHidingSpots", "(LSeekLeague$State;)I"⟩
abbrev cX2_hidePlayer : ByteArray := prog_4_method_6_code
def yX2_hidePlayer : MethodName := ⟨RX2, "hidePlayer", "(LSeekLeague$State;II)I"⟩
abbrev cX2_beginSeeking : ByteArray := prog_4_method_7_code
def yX2_beginSeeking : MethodName := ⟨RX2, "beginSeeking", "(LSeekLeague$State;)I"⟩
abbrev cX2_moveSeeker : ByteArray := prog_4_method_8_code
def yX2_moveSeeker : MethodName := ⟨RX2, "moveSeeker", "(LSeekLeague$State;I)I"⟩
abbrev cX2_cryName : ByteArray := prog_4_method_9_code
def yX2_cryName : MethodName := ⟨RX2, "cryName", "(LSeekLeague$State;II)I"⟩
abbrev cX2_dashHome : ByteArray := prog_4_method_10_code
def yX2_dashHome : MethodName := ⟨RX2, "dashHome", "(LSeekLeague$State;I)I"⟩
abbrev cX2_findPlayer : ByteArray := prog_4_method_11_code
def yX2_findPlayer : MethodName := ⟨RX2, "findPlayer", "(LSeekLeague$State;II)V"⟩
abbrev cX2_countFindOfSpot : ByteArray := prog_4_method_12_code
def yX2_countFindOfSpot : MethodName := ⟨RX2, "countFindOfSpot", "(LSeekLeague$State;I)V"⟩
abbrev cX2_countFalseCry : ByteArray := prog_4_method_13_code
def yX2_countFalseCry : MethodName := ⟨RX2, "countFalseCry", "(LSeekLeague$State;)V"⟩
abbrev cX2_letAllEscape : ByteArray := prog_4_method_14_code
def yX2_letAllEscape : MethodName := ⟨RX2, "letAllEscape", "(LSeekLeague$State;)V"⟩
abbrev cX2_escape : ByteArray := prog_4_method_15_code
def yX2_escape : MethodName := ⟨RX2, "escape", "(LSeekLeague$State;II)V"⟩
abbrev cX2_endRoundIfNobodyIsHidden : ByteArray := prog_4_method_16_code
def yX2_endRoundIfNobodyIsHidden : MethodName := ⟨RX2, "endRoundIfNobodyIsHidden", "(LSeekLeague$State;)V"⟩
abbrev cX2_endRound : ByteArray := prog_4_method_17_code
def yX2_endRound : MethodName := ⟨RX2, "endRound", "(LSeekLeague$State;)V"⟩
abbrev cX2_restSpot : ByteArray := prog_4_method_18_code
def yX2_restSpot : MethodName := ⟨RX2, "restSpot", "(LSeekLeague$State;I)V"⟩
def RX3 : String := "SeekLeague$Past"
def TX3 : u_T := fun k => match k with
  | 0 => ("SeekLeague$Past", "states", "[LSeekLeague$State;", true)
  | _ => ("SeekLeague$Past", "count", "I", false)
def tyX3 : Nat → FieldType := fun k => match k with
  | 0 => .array (.object "SeekLeague$State")
  | _ => .int
theorem nmX3 : ∀ a, a < 2 → ∀ b, b < 2 → a ≠ b → (TX3 a).2.1 ≠ (TX3 b).2.1 := by decide +kernel
theorem tyX3_ok : ∀ k, k < 2 → parseFieldDescriptor (TX3 k).2.2.1 = some (tyX3 k) := by decide +kernel
abbrev cX3_init : ByteArray := prog_5_method_1_code
def yX3_init : MethodName := ⟨RX3, "<init>", "()V"⟩
abbrev cX3_draft : ByteArray := prog_5_method_2_code
def yX3_draft : MethodName := ⟨RX3, "draft", "(LSeekLeague$State;)V"⟩
abbrev cX3_keep : ByteArray := prog_5_method_3_code
def yX3_keep : MethodName := ⟨RX3, "keep", "(I)I"⟩
abbrev cX3_discardOldest : ByteArray := prog_5_method_4_code
def yX3_discardOldest : MethodName := ⟨RX3, "discardOldest", "()V"⟩
def RX4 : String := "SeekLeague$Ranks"
def TX4 : u_T := fun k => match k with
  | _ => ("", "", "", false)
def tyX4 : Nat → FieldType := fun k => match k with
  | _ => .int
theorem nmX4 : ∀ a, a < 0 → ∀ b, b < 0 → a ≠ b → (TX4 a).2.1 ≠ (TX4 b).2.1 := by decide +kernel
theorem tyX4_ok : ∀ k, k < 0 → parseFieldDescriptor (TX4 k).2.2.1 = some (tyX4 k) := by decide +kernel
abbrev cX4_isAhead : ByteArray := prog_6_method_2_code
def yX4_isAhead : MethodName := ⟨RX4, "isAhead", "(LSeekLeague$State;II)Z"⟩
abbrev cX4_placeOf : ByteArray := prog_6_method_3_code
def yX4_placeOf : MethodName := ⟨RX4, "placeOf", "(LSeekLeague$State;I)I"⟩
abbrev cX4_playerAt : ByteArray := prog_6_method_4_code
def yX4_playerAt : MethodName := ⟨RX4, "playerAt", "(LSeekLeague$State;I)I"⟩
abbrev cX4_seekerOfNextRound : ByteArray := prog_6_method_5_code
def yX4_seekerOfNextRound : MethodName := ⟨RX4, "seekerOfNextRound", "(LSeekLeague$State;)I"⟩
abbrev cX4_seeksSooner : ByteArray := prog_6_method_6_code
def yX4_seeksSooner : MethodName := ⟨RX4, "seeksSooner", "(LSeekLeague$State;II)Z"⟩
def RX5 : String := "SeekLeague$State"
def TX5 : u_T := fun k => match k with
  | 0 => ("SeekLeague$State", "settings", "[I", true)
  | 1 => ("SeekLeague$State", "points", "[I", true)
  | 2 => ("SeekLeague$State", "seekerRounds", "[I", true)
  | 3 => ("SeekLeague$State", "playersFound", "[I", true)
  | 4 => ("SeekLeague$State", "falseCries", "[I", true)
  | 5 => ("SeekLeague$State", "escapes", "[I", true)
  | 6 => ("SeekLeague$State", "hidesAt", "[I", true)
  | 7 => ("SeekLeague$State", "finds", "[I", true)
  | 8 => ("SeekLeague$State", "restedRounds", "[I", true)
  | 9 => ("SeekLeague$State", "players", "I", false)
  | 10 => ("SeekLeague$State", "roundsEnded", "I", false)
  | 11 => ("SeekLeague$State", "part", "I", false)
  | 12 => ("SeekLeague$State", "seeker", "I", false)
  | 13 => ("SeekLeague$State", "breaths", "I", false)
  | 14 => ("SeekLeague$State", "seekerSpot", "I", false)
  | _ => ("SeekLeague$State", "falseCriesOfRound", "I", false)
def tyX5 : Nat → FieldType := fun k => match k with
  | 0 => .array .int
  | 1 => .array .int
  | 2 => .array .int
  | 3 => .array .int
  | 4 => .array .int
  | 5 => .array .int
  | 6 => .array .int
  | 7 => .array .int
  | 8 => .array .int
  | 9 => .int
  | 10 => .int
  | 11 => .int
  | 12 => .int
  | 13 => .int
  | 14 => .int
  | _ => .int
theorem nmX5 : ∀ a, a < 16 → ∀ b, b < 16 → a ≠ b → (TX5 a).2.1 ≠ (TX5 b).2.1 := by decide +kernel
theorem tyX5_ok : ∀ k, k < 16 → parseFieldDescriptor (TX5 k).2.2.1 = some (tyX5 k) := by decide +kernel
abbrev cX5_init : ByteArray := prog_7_method_1_code
def yX5_init : MethodName := ⟨RX5, "<init>", "()V"⟩
abbrev cX5_copyFrom : ByteArray := prog_7_method_2_code
def yX5_copyFrom : MethodName := ⟨RX5, "copyFrom", "(LSeekLeague$State;)V"⟩
abbrev cX5_isSetting : ByteArray := prog_7_method_3_code
def yX5_isSetting : MethodName := ⟨RX5, "isSetting", "(I)Z"⟩
abbrev cX5_isPlayer : ByteArray := prog_7_method_4_code
def yX5_isPlayer : MethodName := ⟨RX5, "isPlayer", "(I)Z"⟩
abbrev cX5_isHidden : ByteArray := prog_7_method_5_code
def yX5_isHidden : MethodName := ⟨RX5, "isHidden", "(I)Z"⟩
abbrev cX5_hiddenCount : ByteArray := prog_7_method_6_code
def yX5_hiddenCount : MethodName := ⟨RX5, "hiddenCount", "()I"⟩
abbrev cX5_hidersAt : ByteArray := prog_7_method_7_code
def yX5_hidersAt : MethodName := ⟨RX5, "hidersAt", "(I)I"⟩
abbrev cX5_hiderCount : ByteArray := prog_7_method_8_code
def yX5_hiderCount : MethodName := ⟨RX5, "hiderCount", "(I)I"⟩
abbrev cX5_isRetired : ByteArray := prog_7_method_9_code
def yX5_isRetired : MethodName := ⟨RX5, "isRetired", "(I)Z"⟩
abbrev cX5_retiredCount : ByteArray := prog_7_method_10_code
def yX5_retiredCount : MethodName := ⟨RX5, "retiredCount", "()I"⟩
abbrev cX5_isHidingPlace : ByteArray := prog_7_method_11_code
def yX5_isHidingPlace : MethodName := ⟨RX5, "isHidingPlace", "(I)Z"⟩
abbrev cX5_isFull : ByteArray := prog_7_method_12_code
def yX5_isFull : MethodName := ⟨RX5, "isFull", "(I)Z"⟩
abbrev cX5_hasRoomToHide : ByteArray := prog_7_method_13_code
def yX5_hasRoomToHide : MethodName := ⟨RX5, "hasRoomToHide", "(I)Z"⟩
abbrev cX5_seekerSees : ByteArray := prog_7_method_14_code
def yX5_seekerSees : MethodName := ⟨RX5, "seekerSees", "(I)Z"⟩
abbrev cX5_wouldEscape : ByteArray := prog_7_method_15_code
def yX5_wouldEscape : MethodName := ⟨RX5, "wouldEscape", "(I)Z"⟩
abbrev cX5_sumOfPoints : ByteArray := prog_7_method_16_code
def yX5_sumOfPoints : MethodName := ⟨RX5, "sumOfPoints", "()I"⟩
def RX6 : String := "SeekLeague$Yard"
def TX6 : u_T := fun k => match k with
  | _ => ("", "", "", false)
def tyX6 : Nat → FieldType := fun k => match k with
  | _ => .int
theorem nmX6 : ∀ a, a < 0 → ∀ b, b < 0 → a ≠ b → (TX6 a).2.1 ≠ (TX6 b).2.1 := by decide +kernel
theorem tyX6_ok : ∀ k, k < 0 → parseFieldDescriptor (TX6 k).2.2.1 = some (tyX6 k) := by decide +kernel
abbrev cX6_isSpot : ByteArray := prog_8_method_2_code
def yX6_isSpot : MethodName := ⟨RX6, "isSpot", "(I)Z"⟩
abbrev cX6_distance : ByteArray := prog_8_method_3_code
def yX6_distance : MethodName := ⟨RX6, "distance", "(II)I"⟩
abbrev cX6_fromBase : ByteArray := prog_8_method_4_code
def yX6_fromBase : MethodName := ⟨RX6, "fromBase", "(I)I"⟩
abbrev cX6_stepsUp : ByteArray := prog_8_method_5_code
def yX6_stepsUp : MethodName := ⟨RX6, "stepsUp", "(II)I"⟩
abbrev cX6_beside : ByteArray := prog_8_method_6_code
def yX6_beside : MethodName := ⟨RX6, "beside", "(II)I"⟩
def RX7 : String := "SeekLeague"
def TX7 : u_T := fun k => match k with
  | 0 => ("SeekLeague", "now", "LSeekLeague$State;", true)
  | 1 => ("SeekLeague", "saved", "LSeekLeague$State;", true)
  | 2 => ("SeekLeague", "past", "LSeekLeague$Past;", true)
  | 3 => ("SeekLeague", "text", "LSeekLeague$MoveText;", true)
  | _ => ("SeekLeague", "hasSaved", "Z", false)
def tyX7 : Nat → FieldType := fun k => match k with
  | 0 => .object "SeekLeague$State"
  | 1 => .object "SeekLeague$State"
  | 2 => .object "SeekLeague$Past"
  | 3 => .object "SeekLeague$MoveText"
  | _ => .boolean
theorem nmX7 : ∀ a, a < 5 → ∀ b, b < 5 → a ≠ b → (TX7 a).2.1 ≠ (TX7 b).2.1 := by decide +kernel
theorem tyX7_ok : ∀ k, k < 5 → parseFieldDescriptor (TX7 k).2.2.1 = some (tyX7 k) := by decide +kernel
abbrev cX7_init : ByteArray := prog_1_method_1_code
def yX7_init : MethodName := ⟨RX7, "<init>", "()V"⟩
abbrev cX7_set : ByteArray := prog_1_method_2_code
def yX7_set : MethodName := ⟨RX7, "set", "(II)I"⟩
abbrev cX7_setting : ByteArray := prog_1_method_3_code
def yX7_setting : MethodName := ⟨RX7, "setting", "(I)I"⟩
abbrev cX7_join : ByteArray := prog_1_method_4_code
def yX7_join : MethodName := ⟨RX7, "join", "()I"⟩
abbrev cX7_start : ByteArray := prog_1_method_5_code
def yX7_start : MethodName := ⟨RX7, "start", "(II)I"⟩
abbrev cX7_hide : ByteArray := prog_1_method_6_code
def yX7_hide : MethodName := ⟨RX7, "hide", "(II)I"⟩
abbrev cX7_seek : ByteArray := prog_1_method_7_code
def yX7_seek : MethodName := ⟨RX7, "seek", "()I"⟩
abbrev cX7_walk : ByteArray := prog_1_method_8_code
def yX7_walk : MethodName := ⟨RX7, "walk", "(I)I"⟩
abbrev cX7_cry : ByteArray := prog_1_method_9_code
def yX7_cry : MethodName := ⟨RX7, "cry", "(II)I"⟩
abbrev cX7_dash : ByteArray := prog_1_method_10_code
def yX7_dash : MethodName := ⟨RX7, "dash", "(I)I"⟩
abbrev cX7_player : ByteArray := prog_1_method_11_code
def yX7_player : MethodName := ⟨RX7, "player", "(II)I"⟩
abbrev cX7_spot : ByteArray := prog_1_method_12_code
def yX7_spot : MethodName := ⟨RX7, "spot", "(II)I"⟩
abbrev cX7_ranked : ByteArray := prog_1_method_13_code
def yX7_ranked : MethodName := ⟨RX7, "ranked", "(I)I"⟩
abbrev cX7_nextSeeker : ByteArray := prog_1_method_14_code
def yX7_nextSeeker : MethodName := ⟨RX7, "nextSeeker", "()I"⟩
abbrev cX7_total : ByteArray := prog_1_method_15_code
def yX7_total : MethodName := ⟨RX7, "total", "(I)I"⟩
abbrev cX7_inSight : ByteArray := prog_1_method_16_code
def yX7_inSight : MethodName := ⟨RX7, "inSight", "()I"⟩
abbrev cX7_couldDash : ByteArray := prog_1_method_17_code
def yX7_couldDash : MethodName := ⟨RX7, "couldDash", "()I"⟩
abbrev cX7_bestSpot : ByteArray := prog_1_method_18_code
def yX7_bestSpot : MethodName := ⟨RX7, "bestSpot", "()I"⟩
abbrev cX7_fewestSteps : ByteArray := prog_1_method_19_code
def yX7_fewestSteps : MethodName := ⟨RX7, "fewestSteps", "()I"⟩
def RX8 : String := "SeekLeagueModel"
def TX8 : u_T := fun k => match k with
  | _ => ("", "", "", false)
def tyX8 : Nat → FieldType := fun k => match k with
  | _ => .int
theorem nmX8 : ∀ a, a < 0 → ∀ b, b < 0 → a ≠ b → (TX8 a).2.1 ≠ (TX8 b).2.1 := by decide +kernel
theorem tyX8_ok : ∀ k, k < 0 → parseFieldDescriptor (TX8 k).2.2.1 = some (tyX8 k) := by decide +kernel
def RJ6 : String := "java/lang/Integer"
def TJ6 : u_T := fun k => match k with
  | _ => ("", "", "", false)
def tyJ6 : Nat → FieldType := fun k => match k with
  | _ => .int
theorem nmJ6 : ∀ a, a < 0 → ∀ b, b < 0 → a ≠ b → (TJ6 a).2.1 ≠ (TJ6 b).2.1 := by decide +kernel
theorem tyJ6_ok : ∀ k, k < 0 → parseFieldDescriptor (TJ6 k).2.2.1 = some (tyJ6 k) := by decide +kernel
abbrev cJ6_bitCount_0f7a4 : ByteArray := prog_11_method_49_code
def yJ6_bitCount_0f7a4 : MethodName := ⟨RJ6, "bitCount", "(I)I"⟩
def RJ9 : String := "java/lang/Math"
def TJ9 : u_T := fun k => match k with
  | _ => ("", "", "", false)
def tyJ9 : Nat → FieldType := fun k => match k with
  | _ => .int
theorem nmJ9 : ∀ a, a < 0 → ∀ b, b < 0 → a ≠ b → (TJ9 a).2.1 ≠ (TJ9 b).2.1 := by decide +kernel
theorem tyJ9_ok : ∀ k, k < 0 → parseFieldDescriptor (TJ9 k).2.2.1 = some (tyJ9 k) := by decide +kernel
abbrev cJ9_floorMod_7cf53 : ByteArray := prog_12_method_50_code
def yJ9_floorMod_7cf53 : MethodName := ⟨RJ9, "floorMod", "(II)I"⟩
abbrev cJ9_max_7cf53 : ByteArray := prog_12_method_65_code
def yJ9_max_7cf53 : MethodName := ⟨RJ9, "max", "(II)I"⟩
abbrev cJ9_min_7cf53 : ByteArray := prog_12_method_69_code
def yJ9_min_7cf53 : MethodName := ⟨RJ9, "min", "(II)I"⟩
def RJ10 : String := "java/lang/System"
def TJ10 : u_T := fun k => match k with
  | _ => ("", "", "", false)
def tyJ10 : Nat → FieldType := fun k => match k with
  | _ => .int
theorem nmJ10 : ∀ a, a < 0 → ∀ b, b < 0 → a ≠ b → (TJ10 a).2.1 ≠ (TJ10 b).2.1 := by decide +kernel
theorem tyJ10_ok : ∀ k, k < 0 → parseFieldDescriptor (TJ10 k).2.2.1 = some (tyJ10 k) := by decide +kernel
def RJ7 : String := "java/util/Arrays"
def TJ7 : u_T := fun k => match k with
  | _ => ("", "", "", false)
def tyJ7 : Nat → FieldType := fun k => match k with
  | _ => .int
theorem nmJ7 : ∀ a, a < 0 → ∀ b, b < 0 → a ≠ b → (TJ7 a).2.1 ≠ (TJ7 b).2.1 := by decide +kernel
theorem tyJ7_ok : ∀ k, k < 0 → parseFieldDescriptor (TJ7 k).2.2.1 = some (tyJ7 k) := by decide +kernel
abbrev cJ7_fill_53178 : ByteArray := prog_14_method_103_code
def yJ7_fill_53178 : MethodName := ⟨RJ7, "fill", "([II)V"⟩
def RL : String := "SeekLeagueLaw"
abbrev cL_cell : ByteArray := method_2_code
def yL_cell : MethodName := ⟨RL, "cell", "([II)I"⟩
abbrev cL_low : ByteArray := method_3_code
def yL_low : MethodName := ⟨RL, "low", "(II)I"⟩
abbrev cL_apart : ByteArray := method_4_code
def yL_apart : MethodName := ⟨RL, "apart", "(II)I"⟩
abbrev cL_here : ByteArray := method_5_code
def yL_here : MethodName := ⟨RL, "here", "([II)I"⟩
abbrev cL_count : ByteArray := method_6_code
def yL_count : MethodName := ⟨RL, "count", "(I)I"⟩
abbrev cL_hidden : ByteArray := method_7_code
def yL_hidden : MethodName := ⟨RL, "hidden", "([I)I"⟩
abbrev cL_good : ByteArray := method_8_code
def yL_good : MethodName := ⟨RL, "good", "([I[II)Z"⟩
abbrev cL_end : ByteArray := method_9_code
def yL_end : MethodName := ⟨RL, "end", "([I[I[I[I)V"⟩
abbrev cL_ahead : ByteArray := method_10_code
def yL_ahead : MethodName := ⟨RL, "ahead", "([III)Z"⟩
abbrev cL_steps : ByteArray := method_11_code
def yL_steps : MethodName := ⟨RL, "steps", "([I[I)I"⟩
abbrev cL_league : ByteArray := method_12_code
def yL_league : MethodName := ⟨RL, "league", "(LSeekLeague;[I[I[I[I)Z"⟩
abbrev cL_law : ByteArray := code
def yL_law : MethodName := ⟨RL, "law", "([I)Z"⟩
abbrev vwCl : List vw_C := [(RX1, TX1, 2), (RX3, TX3, 2), (RX5, TX5, 16), (RX7, TX7, 5)]
end
section
theorem dX0_spotsInSight_0 : decode cX0_spotsInSight 0 = .ok (.aload_n 0, 1) := by decide +kernel
theorem dX0_spotsInSight_1 : decode cX0_spotsInSight 1 = .ok (.getfield 9, 3) := by decide +kernel
theorem dX0_spotsInSight_4 : decode cX0_spotsInSight 4 = .ok (.iconst 2, 1) := by decide +kernel
theorem dX0_spotsInSight_5 : decode cX0_spotsInSight 5 = .ok (.if_icmp .eq 7, 3) := by decide +kernel
theorem dX0_spotsInSight_8 : decode cX0_spotsInSight 8 = .ok (.sipush (-10003), 3) := by decide +kernel
theorem dX0_spotsInSight_11 : decode cX0_spotsInSight 11 = .ok (.ireturn, 1) := by decide +kernel
theorem dX0_spotsInSight_12 : decode cX0_spotsInSight 12 = .ok (.iconst 0, 1) := by decide +kernel
theorem dX0_spotsInSight_13 : decode cX0_spotsInSight 13 = .ok (.istore_n 1, 1) := by decide +kernel
theorem dX0_spotsInSight_14 : decode cX0_spotsInSight 14 = .ok (.iconst 0, 1) := by decide +kernel
theorem dX0_spotsInSight_15 : decode cX0_spotsInSight 15 = .ok (.istore_n 2, 1) := by decide +kernel
theorem dX0_spotsInSight_16 : decode cX0_spotsInSight 16 = .ok (.iload_n 2, 1) := by decide +kernel
theorem dX0_spotsInSight_17 : decode cX0_spotsInSight 17 = .ok (.bipush 16, 2) := by decide +kernel
theorem dX0_spotsInSight_19 : decode cX0_spotsInSight 19 = .ok (.if_icmp .ge 23, 3) := by decide +kernel
theorem dX0_spotsInSight_22 : decode cX0_spotsInSight 22 = .ok (.aload_n 0, 1) := by decide +kernel
theorem dX0_spotsInSight_23 : decode cX0_spotsInSight 23 = .ok (.iload_n 2, 1) := by decide +kernel
theorem dX0_spotsInSight_24 : decode cX0_spotsInSight 24 = .ok (.invokevirtual 17, 3) := by decide +kernel
theorem dX0_spotsInSight_27 : decode cX0_spotsInSight 27 = .ok (.ifCond .eq 9, 3) := by decide +kernel
theorem dX0_spotsInSight_30 : decode cX0_spotsInSight 30 = .ok (.iload_n 1, 1) := by decide +kernel
theorem dX0_spotsInSight_31 : decode cX0_spotsInSight 31 = .ok (.iconst 1, 1) := by decide +kernel
theorem dX0_spotsInSight_32 : decode cX0_spotsInSight 32 = .ok (.iload_n 2, 1) := by decide +kernel
theorem dX0_spotsInSight_33 : decode cX0_spotsInSight 33 = .ok (.ishl, 1) := by decide +kernel
theorem dX0_spotsInSight_34 : decode cX0_spotsInSight 34 = .ok (.ior, 1) := by decide +kernel
theorem dX0_spotsInSight_35 : decode cX0_spotsInSight 35 = .ok (.istore_n 1, 1) := by decide +kernel
theorem dX0_spotsInSight_36 : decode cX0_spotsInSight 36 = .ok (.iinc 2 1, 3) := by decide +kernel
theorem dX0_spotsInSight_39 : decode cX0_spotsInSight 39 = .ok (.goto (-23), 3) := by decide +kernel
theorem dX0_spotsInSight_42 : decode cX0_spotsInSight 42 = .ok (.iload_n 1, 1) := by decide +kernel
theorem dX0_spotsInSight_43 : decode cX0_spotsInSight 43 = .ok (.ireturn, 1) := by decide +kernel
theorem dX0_playersWhoWouldEscape_0 : decode cX0_playersWhoWouldEscape 0 = .ok (.aload_n 0, 1) := by decide +kernel
theorem dX0_playersWhoWouldEscape_1 : decode cX0_playersWhoWouldEscape 1 = .ok (.getfield 9, 3) := by decide +kernel
theorem dX0_playersWhoWouldEscape_4 : decode cX0_playersWhoWouldEscape 4 = .ok (.iconst 2, 1) := by decide +kernel
theorem dX0_playersWhoWouldEscape_5 : decode cX0_playersWhoWouldEscape 5 = .ok (.if_icmp .eq 7, 3) := by decide +kernel
theorem dX0_playersWhoWouldEscape_8 : decode cX0_playersWhoWouldEscape 8 = .ok (.sipush (-10003), 3) := by decide +kernel
theorem dX0_playersWhoWouldEscape_11 : decode cX0_playersWhoWouldEscape 11 = .ok (.ireturn, 1) := by decide +kernel
theorem dX0_playersWhoWouldEscape_12 : decode cX0_playersWhoWouldEscape 12 = .ok (.iconst 0, 1) := by decide +kernel
theorem dX0_playersWhoWouldEscape_13 : decode cX0_playersWhoWouldEscape 13 = .ok (.istore_n 1, 1) := by decide +kernel
theorem dX0_playersWhoWouldEscape_14 : decode cX0_playersWhoWouldEscape 14 = .ok (.iconst 0, 1) := by decide +kernel
theorem dX0_playersWhoWouldEscape_15 : decode cX0_playersWhoWouldEscape 15 = .ok (.istore_n 2, 1) := by decide +kernel
theorem dX0_playersWhoWouldEscape_16 : decode cX0_playersWhoWouldEscape 16 = .ok (.iload_n 2, 1) := by decide +kernel
theorem dX0_playersWhoWouldEscape_17 : decode cX0_playersWhoWouldEscape 17 = .ok (.aload_n 0, 1) := by decide +kernel
theorem dX0_playersWhoWouldEscape_18 : decode cX0_playersWhoWouldEscape 18 = .ok (.getfield 21, 3) := by decide +kernel
theorem dX0_playersWhoWouldEscape_21 : decode cX0_playersWhoWouldEscape 21 = .ok (.if_icmp .ge 23, 3) := by decide +kernel
theorem dX0_playersWhoWouldEscape_24 : decode cX0_playersWhoWouldEscape 24 = .ok (.aload_n 0, 1) := by decide +kernel
theorem dX0_playersWhoWouldEscape_25 : decode cX0_playersWhoWouldEscape 25 = .ok (.iload_n 2, 1) := by decide +kernel
theorem dX0_playersWhoWouldEscape_26 : decode cX0_playersWhoWouldEscape 26 = .ok (.invokevirtual 24, 3) := by decide +kernel
theorem dX0_playersWhoWouldEscape_29 : decode cX0_playersWhoWouldEscape 29 = .ok (.ifCond .eq 9, 3) := by decide +kernel
theorem dX0_playersWhoWouldEscape_32 : decode cX0_playersWhoWouldEscape 32 = .ok (.iload_n 1, 1) := by decide +kernel
theorem dX0_playersWhoWouldEscape_33 : decode cX0_playersWhoWouldEscape 33 = .ok (.iconst 1, 1) := by decide +kernel
theorem dX0_playersWhoWouldEscape_34 : decode cX0_playersWhoWouldEscape 34 = .ok (.iload_n 2, 1) := by decide +kernel
theorem dX0_playersWhoWouldEscape_35 : decode cX0_playersWhoWouldEscape 35 = .ok (.ishl, 1) := by decide +kernel
theorem dX0_playersWhoWouldEscape_36 : decode cX0_playersWhoWouldEscape 36 = .ok (.ior, 1) := by decide +kernel
theorem dX0_playersWhoWouldEscape_37 : decode cX0_playersWhoWouldEscape 37 = .ok (.istore_n 1, 1) := by decide +kernel
theorem dX0_playersWhoWouldEscape_38 : decode cX0_playersWhoWouldEscape 38 = .ok (.iinc 2 1, 3) := by decide +kernel
theorem dX0_playersWhoWouldEscape_41 : decode cX0_playersWhoWouldEscape 41 = .ok (.goto (-25), 3) := by decide +kernel
theorem dX0_playersWhoWouldEscape_44 : decode cX0_playersWhoWouldEscape 44 = .ok (.iload_n 1, 1) := by decide +kernel
theorem dX0_playersWhoWouldEscape_45 : decode cX0_playersWhoWouldEscape 45 = .ok (.ireturn, 1) := by decide +kernel
theorem dX0_bestHidingSpot_0 : decode cX0_bestHidingSpot 0 = .ok (.aload_n 0, 1) := by decide +kernel
theorem dX0_bestHidingSpot_1 : decode cX0_bestHidingSpot 1 = .ok (.getfield 9, 3) := by decide +kernel
theorem dX0_bestHidingSpot_4 : decode cX0_bestHidingSpot 4 = .ok (.iconst 1, 1) := by decide +kernel
theorem dX0_bestHidingSpot_5 : decode cX0_bestHidingSpot 5 = .ok (.if_icmp .eq 7, 3) := by decide +kernel
theorem dX0_bestHidingSpot_8 : decode cX0_bestHidingSpot 8 = .ok (.sipush (-10003), 3) := by decide +kernel
theorem dX0_bestHidingSpot_11 : decode cX0_bestHidingSpot 11 = .ok (.ireturn, 1) := by decide +kernel
theorem dX0_bestHidingSpot_12 : decode cX0_bestHidingSpot 12 = .ok (.sipush (-10006), 3) := by decide +kernel
theorem dX0_bestHidingSpot_15 : decode cX0_bestHidingSpot 15 = .ok (.istore_n 1, 1) := by decide +kernel
theorem dX0_bestHidingSpot_16 : decode cX0_bestHidingSpot 16 = .ok (.iconst 0, 1) := by decide +kernel
theorem dX0_bestHidingSpot_17 : decode cX0_bestHidingSpot 17 = .ok (.istore_n 2, 1) := by decide +kernel
theorem dX0_bestHidingSpot_18 : decode cX0_bestHidingSpot 18 = .ok (.iload_n 2, 1) := by decide +kernel
theorem dX0_bestHidingSpot_19 : decode cX0_bestHidingSpot 19 = .ok (.bipush 16, 2) := by decide +kernel
theorem dX0_bestHidingSpot_21 : decode cX0_bestHidingSpot 21 = .ok (.if_icmp .ge 35, 3) := by decide +kernel
theorem dX0_bestHidingSpot_24 : decode cX0_bestHidingSpot 24 = .ok (.aload_n 0, 1) := by decide +kernel
theorem dX0_bestHidingSpot_25 : decode cX0_bestHidingSpot 25 = .ok (.iload_n 2, 1) := by decide +kernel
theorem dX0_bestHidingSpot_26 : decode cX0_bestHidingSpot 26 = .ok (.invokevirtual 27, 3) := by decide +kernel
theorem dX0_bestHidingSpot_29 : decode cX0_bestHidingSpot 29 = .ok (.ifCond .eq 21, 3) := by decide +kernel
theorem dX0_bestHidingSpot_32 : decode cX0_bestHidingSpot 32 = .ok (.iload_n 1, 1) := by decide +kernel
theorem dX0_bestHidingSpot_33 : decode cX0_bestHidingSpot 33 = .ok (.invokestatic 30, 3) := by decide +kernel
theorem dX0_bestHidingSpot_36 : decode cX0_bestHidingSpot 36 = .ok (.ifCond .eq 12, 3) := by decide +kernel
theorem dX0_bestHidingSpot_39 : decode cX0_bestHidingSpot 39 = .ok (.aload_n 0, 1) := by decide +kernel
theorem dX0_bestHidingSpot_40 : decode cX0_bestHidingSpot 40 = .ok (.iload_n 2, 1) := by decide +kernel
theorem dX0_bestHidingSpot_41 : decode cX0_bestHidingSpot 41 = .ok (.iload_n 1, 1) := by decide +kernel
theorem dX0_bestHidingSpot_42 : decode cX0_bestHidingSpot 42 = .ok (.invokestatic 33, 3) := by decide +kernel
theorem dX0_bestHidingSpot_45 : decode cX0_bestHidingSpot 45 = .ok (.ifCond .eq 5, 3) := by decide +kernel
theorem dX0_bestHidingSpot_48 : decode cX0_bestHidingSpot 48 = .ok (.iload_n 2, 1) := by decide +kernel
theorem dX0_bestHidingSpot_49 : decode cX0_bestHidingSpot 49 = .ok (.istore_n 1, 1) := by decide +kernel
theorem dX0_bestHidingSpot_50 : decode cX0_bestHidingSpot 50 = .ok (.iinc 2 1, 3) := by decide +kernel
theorem dX0_bestHidingSpot_53 : decode cX0_bestHidingSpot 53 = .ok (.goto (-35), 3) := by decide +kernel
theorem dX0_bestHidingSpot_56 : decode cX0_bestHidingSpot 56 = .ok (.iload_n 1, 1) := by decide +kernel
theorem dX0_bestHidingSpot_57 : decode cX0_bestHidingSpot 57 = .ok (.ireturn, 1) := by decide +kernel
theorem dX0_isBetterToHide_0 : decode cX0_isBetterToHide 0 = .ok (.iload_n 1, 1) := by decide +kernel
theorem dX0_isBetterToHide_1 : decode cX0_isBetterToHide 1 = .ok (.invokestatic 39, 3) := by decide +kernel
theorem dX0_isBetterToHide_4 : decode cX0_isBetterToHide 4 = .ok (.iload_n 2, 1) := by decide +kernel
theorem dX0_isBetterToHide_5 : decode cX0_isBetterToHide 5 = .ok (.invokestatic 39, 3) := by decide +kernel
theorem dX0_isBetterToHide_8 : decode cX0_isBetterToHide 8 = .ok (.if_icmp .eq 20, 3) := by decide +kernel
theorem dX0_isBetterToHide_11 : decode cX0_isBetterToHide 11 = .ok (.iload_n 1, 1) := by decide +kernel
theorem dX0_isBetterToHide_12 : decode cX0_isBetterToHide 12 = .ok (.invokestatic 39, 3) := by decide +kernel
theorem dX0_isBetterToHide_15 : decode cX0_isBetterToHide 15 = .ok (.iload_n 2, 1) := by decide +kernel
theorem dX0_isBetterToHide_16 : decode cX0_isBetterToHide 16 = .ok (.invokestatic 39, 3) := by decide +kernel
theorem dX0_isBetterToHide_19 : decode cX0_isBetterToHide 19 = .ok (.if_icmp .le 7, 3) := by decide +kernel
theorem dX0_isBetterToHide_22 : decode cX0_isBetterToHide 22 = .ok (.iconst 1, 1) := by decide +kernel
theorem dX0_isBetterToHide_23 : decode cX0_isBetterToHide 23 = .ok (.goto 4, 3) := by decide +kernel
theorem dX0_isBetterToHide_26 : decode cX0_isBetterToHide 26 = .ok (.iconst 0, 1) := by decide +kernel
theorem dX0_isBetterToHide_27 : decode cX0_isBetterToHide 27 = .ok (.ireturn, 1) := by decide +kernel
theorem dX0_isBetterToHide_28 : decode cX0_isBetterToHide 28 = .ok (.aload_n 0, 1) := by decide +kernel
theorem dX0_isBetterToHide_29 : decode cX0_isBetterToHide 29 = .ok (.getfield 43, 3) := by decide +kernel
theorem dX0_isBetterToHide_32 : decode cX0_isBetterToHide 32 = .ok (.iload_n 1, 1) := by decide +kernel
theorem dX0_isBetterToHide_33 : decode cX0_isBetterToHide 33 = .ok (.iaload, 1) := by decide +kernel
theorem dX0_isBetterToHide_34 : decode cX0_isBetterToHide 34 = .ok (.aload_n 0, 1) := by decide +kernel
theorem dX0_isBetterToHide_35 : decode cX0_isBetterToHide 35 = .ok (.getfield 43, 3) := by decide +kernel
theorem dX0_isBetterToHide_38 : decode cX0_isBetterToHide 38 = .ok (.iload_n 2, 1) := by decide +kernel
theorem dX0_isBetterToHide_39 : decode cX0_isBetterToHide 39 = .ok (.iaload, 1) := by decide +kernel
theorem dX0_isBetterToHide_40 : decode cX0_isBetterToHide 40 = .ok (.if_icmp .eq 24, 3) := by decide +kernel
theorem dX0_isBetterToHide_43 : decode cX0_isBetterToHide 43 = .ok (.aload_n 0, 1) := by decide +kernel
theorem dX0_isBetterToHide_44 : decode cX0_isBetterToHide 44 = .ok (.getfield 43, 3) := by decide +kernel
theorem dX0_isBetterToHide_47 : decode cX0_isBetterToHide 47 = .ok (.iload_n 1, 1) := by decide +kernel
theorem dX0_isBetterToHide_48 : decode cX0_isBetterToHide 48 = .ok (.iaload, 1) := by decide +kernel
theorem dX0_isBetterToHide_49 : decode cX0_isBetterToHide 49 = .ok (.aload_n 0, 1) := by decide +kernel
theorem dX0_isBetterToHide_50 : decode cX0_isBetterToHide 50 = .ok (.getfield 43, 3) := by decide +kernel
theorem dX0_isBetterToHide_53 : decode cX0_isBetterToHide 53 = .ok (.iload_n 2, 1) := by decide +kernel
theorem dX0_isBetterToHide_54 : decode cX0_isBetterToHide 54 = .ok (.iaload, 1) := by decide +kernel
theorem dX0_isBetterToHide_55 : decode cX0_isBetterToHide 55 = .ok (.if_icmp .ge 7, 3) := by decide +kernel
theorem dX0_isBetterToHide_58 : decode cX0_isBetterToHide 58 = .ok (.iconst 1, 1) := by decide +kernel
theorem dX0_isBetterToHide_59 : decode cX0_isBetterToHide 59 = .ok (.goto 4, 3) := by decide +kernel
theorem dX0_isBetterToHide_62 : decode cX0_isBetterToHide 62 = .ok (.iconst 0, 1) := by decide +kernel
theorem dX0_isBetterToHide_63 : decode cX0_isBetterToHide 63 = .ok (.ireturn, 1) := by decide +kernel
theorem dX0_isBetterToHide_64 : decode cX0_isBetterToHide 64 = .ok (.aload_n 0, 1) := by decide +kernel
theorem dX0_isBetterToHide_65 : decode cX0_isBetterToHide 65 = .ok (.iload_n 1, 1) := by decide +kernel
theorem dX0_isBetterToHide_66 : decode cX0_isBetterToHide 66 = .ok (.invokevirtual 47, 3) := by decide +kernel
theorem dX0_isBetterToHide_69 : decode cX0_isBetterToHide 69 = .ok (.aload_n 0, 1) := by decide +kernel
theorem dX0_isBetterToHide_70 : decode cX0_isBetterToHide 70 = .ok (.iload_n 2, 1) := by decide +kernel
theorem dX0_isBetterToHide_71 : decode cX0_isBetterToHide 71 = .ok (.invokevirtual 47, 3) := by decide +kernel
theorem dX0_isBetterToHide_74 : decode cX0_isBetterToHide 74 = .ok (.if_icmp .eq 22, 3) := by decide +kernel
theorem dX0_isBetterToHide_77 : decode cX0_isBetterToHide 77 = .ok (.aload_n 0, 1) := by decide +kernel
theorem dX0_isBetterToHide_78 : decode cX0_isBetterToHide 78 = .ok (.iload_n 1, 1) := by decide +kernel
theorem dX0_isBetterToHide_79 : decode cX0_isBetterToHide 79 = .ok (.invokevirtual 47, 3) := by decide +kernel
theorem dX0_isBetterToHide_82 : decode cX0_isBetterToHide 82 = .ok (.aload_n 0, 1) := by decide +kernel
theorem dX0_isBetterToHide_83 : decode cX0_isBetterToHide 83 = .ok (.iload_n 2, 1) := by decide +kernel
theorem dX0_isBetterToHide_84 : decode cX0_isBetterToHide 84 = .ok (.invokevirtual 47, 3) := by decide +kernel
theorem dX0_isBetterToHide_87 : decode cX0_isBetterToHide 87 = .ok (.if_icmp .ge 7, 3) := by decide +kernel
theorem dX0_isBetterToHide_90 : decode cX0_isBetterToHide 90 = .ok (.iconst 1, 1) := by decide +kernel
theorem dX0_isBetterToHide_91 : decode cX0_isBetterToHide 91 = .ok (.goto 4, 3) := by decide +kernel
theorem dX0_isBetterToHide_94 : decode cX0_isBetterToHide 94 = .ok (.iconst 0, 1) := by decide +kernel
theorem dX0_isBetterToHide_95 : decode cX0_isBetterToHide 95 = .ok (.ireturn, 1) := by decide +kernel
theorem dX0_isBetterToHide_96 : decode cX0_isBetterToHide 96 = .ok (.iload_n 1, 1) := by decide +kernel
theorem dX0_isBetterToHide_97 : decode cX0_isBetterToHide 97 = .ok (.iload_n 2, 1) := by decide +kernel
theorem dX0_isBetterToHide_98 : decode cX0_isBetterToHide 98 = .ok (.if_icmp .ge 7, 3) := by decide +kernel
theorem dX0_isBetterToHide_101 : decode cX0_isBetterToHide 101 = .ok (.iconst 1, 1) := by decide +kernel
theorem dX0_isBetterToHide_102 : decode cX0_isBetterToHide 102 = .ok (.goto 4, 3) := by decide +kernel
theorem dX0_isBetterToHide_105 : decode cX0_isBetterToHide 105 = .ok (.iconst 0, 1) := by decide +kernel
theorem dX0_isBetterToHide_106 : decode cX0_isBetterToHide 106 = .ok (.ireturn, 1) := by decide +kernel
theorem dX0_stepsToSeeAll_0 : decode cX0_stepsToSeeAll 0 = .ok (.aload_n 0, 1) := by decide +kernel
theorem dX0_stepsToSeeAll_1 : decode cX0_stepsToSeeAll 1 = .ok (.getfield 9, 3) := by decide +kernel
theorem dX0_stepsToSeeAll_4 : decode cX0_stepsToSeeAll 4 = .ok (.iconst 2, 1) := by decide +kernel
theorem dX0_stepsToSeeAll_5 : decode cX0_stepsToSeeAll 5 = .ok (.if_icmp .eq 7, 3) := by decide +kernel
theorem dX0_stepsToSeeAll_8 : decode cX0_stepsToSeeAll 8 = .ok (.sipush (-10003), 3) := by decide +kernel
theorem dX0_stepsToSeeAll_11 : decode cX0_stepsToSeeAll 11 = .ok (.ireturn, 1) := by decide +kernel
theorem dX0_stepsToSeeAll_12 : decode cX0_stepsToSeeAll 12 = .ok (.bipush 16, 2) := by decide +kernel
theorem dX0_stepsToSeeAll_14 : decode cX0_stepsToSeeAll 14 = .ok (.istore_n 1, 1) := by decide +kernel
theorem dX0_stepsToSeeAll_15 : decode cX0_stepsToSeeAll 15 = .ok (.iconst 0, 1) := by decide +kernel
theorem dX0_stepsToSeeAll_16 : decode cX0_stepsToSeeAll 16 = .ok (.istore_n 2, 1) := by decide +kernel
theorem dX0_stepsToSeeAll_17 : decode cX0_stepsToSeeAll 17 = .ok (.iload_n 2, 1) := by decide +kernel
theorem dX0_stepsToSeeAll_18 : decode cX0_stepsToSeeAll 18 = .ok (.bipush 16, 2) := by decide +kernel
theorem dX0_stepsToSeeAll_20 : decode cX0_stepsToSeeAll 20 = .ok (.if_icmp .ge 29, 3) := by decide +kernel
theorem dX0_stepsToSeeAll_23 : decode cX0_stepsToSeeAll 23 = .ok (.aload_n 0, 1) := by decide +kernel
theorem dX0_stepsToSeeAll_24 : decode cX0_stepsToSeeAll 24 = .ok (.iload_n 2, 1) := by decide +kernel
theorem dX0_stepsToSeeAll_25 : decode cX0_stepsToSeeAll 25 = .ok (.invokestatic 50, 3) := by decide +kernel
theorem dX0_stepsToSeeAll_28 : decode cX0_stepsToSeeAll 28 = .ok (.istore_n 3, 1) := by decide +kernel
theorem dX0_stepsToSeeAll_29 : decode cX0_stepsToSeeAll 29 = .ok (.iload_n 1, 1) := by decide +kernel
theorem dX0_stepsToSeeAll_30 : decode cX0_stepsToSeeAll 30 = .ok (.iload_n 2, 1) := by decide +kernel
theorem dX0_stepsToSeeAll_31 : decode cX0_stepsToSeeAll 31 = .ok (.iload_n 3, 1) := by decide +kernel
theorem dX0_stepsToSeeAll_32 : decode cX0_stepsToSeeAll 32 = .ok (.iadd, 1) := by decide +kernel
theorem dX0_stepsToSeeAll_33 : decode cX0_stepsToSeeAll 33 = .ok (.iload_n 2, 1) := by decide +kernel
theorem dX0_stepsToSeeAll_34 : decode cX0_stepsToSeeAll 34 = .ok (.iload_n 3, 1) := by decide +kernel
theorem dX0_stepsToSeeAll_35 : decode cX0_stepsToSeeAll 35 = .ok (.invokestatic 54, 3) := by decide +kernel
theorem dX0_stepsToSeeAll_38 : decode cX0_stepsToSeeAll 38 = .ok (.iadd, 1) := by decide +kernel
theorem dX0_stepsToSeeAll_39 : decode cX0_stepsToSeeAll 39 = .ok (.invokestatic 54, 3) := by decide +kernel
theorem dX0_stepsToSeeAll_42 : decode cX0_stepsToSeeAll 42 = .ok (.istore_n 1, 1) := by decide +kernel
theorem dX0_stepsToSeeAll_43 : decode cX0_stepsToSeeAll 43 = .ok (.iinc 2 1, 3) := by decide +kernel
theorem dX0_stepsToSeeAll_46 : decode cX0_stepsToSeeAll 46 = .ok (.goto (-29), 3) := by decide +kernel
theorem dX0_stepsToSeeAll_49 : decode cX0_stepsToSeeAll 49 = .ok (.iload_n 1, 1) := by decide +kernel
theorem dX0_stepsToSeeAll_50 : decode cX0_stepsToSeeAll 50 = .ok (.ireturn, 1) := by decide +kernel
theorem dX0_stepsDownForTheRest_0 : decode cX0_stepsDownForTheRest 0 = .ok (.iconst 0, 1) := by decide +kernel
theorem dX0_stepsDownForTheRest_1 : decode cX0_stepsDownForTheRest 1 = .ok (.istore_n 2, 1) := by decide +kernel
theorem dX0_stepsDownForTheRest_2 : decode cX0_stepsDownForTheRest 2 = .ok (.iconst 0, 1) := by decide +kernel
theorem dX0_stepsDownForTheRest_3 : decode cX0_stepsDownForTheRest 3 = .ok (.istore_n 3, 1) := by decide +kernel
theorem dX0_stepsDownForTheRest_4 : decode cX0_stepsDownForTheRest 4 = .ok (.iload_n 3, 1) := by decide +kernel
theorem dX0_stepsDownForTheRest_5 : decode cX0_stepsDownForTheRest 5 = .ok (.aload_n 0, 1) := by decide +kernel
theorem dX0_stepsDownForTheRest_6 : decode cX0_stepsDownForTheRest 6 = .ok (.getfield 21, 3) := by decide +kernel
theorem dX0_stepsDownForTheRest_9 : decode cX0_stepsDownForTheRest 9 = .ok (.if_icmp .ge 79, 3) := by decide +kernel
theorem dX0_stepsDownForTheRest_12 : decode cX0_stepsDownForTheRest 12 = .ok (.aload_n 0, 1) := by decide +kernel
theorem dX0_stepsDownForTheRest_13 : decode cX0_stepsDownForTheRest 13 = .ok (.iload_n 3, 1) := by decide +kernel
theorem dX0_stepsDownForTheRest_14 : decode cX0_stepsDownForTheRest 14 = .ok (.invokevirtual 60, 3) := by decide +kernel
theorem dX0_stepsDownForTheRest_17 : decode cX0_stepsDownForTheRest 17 = .ok (.ifCond .eq 65, 3) := by decide +kernel
theorem dX0_stepsDownForTheRest_20 : decode cX0_stepsDownForTheRest 20 = .ok (.aload_n 0, 1) := by decide +kernel
theorem dX0_stepsDownForTheRest_21 : decode cX0_stepsDownForTheRest 21 = .ok (.aload_n 0, 1) := by decide +kernel
theorem dX0_stepsDownForTheRest_22 : decode cX0_stepsDownForTheRest 22 = .ok (.getfield 63, 3) := by decide +kernel
theorem dX0_stepsDownForTheRest_25 : decode cX0_stepsDownForTheRest 25 = .ok (.iload_n 3, 1) := by decide +kernel
theorem dX0_stepsDownForTheRest_26 : decode cX0_stepsDownForTheRest 26 = .ok (.iaload, 1) := by decide +kernel
theorem dX0_stepsDownForTheRest_27 : decode cX0_stepsDownForTheRest 27 = .ok (.invokevirtual 17, 3) := by decide +kernel
theorem dX0_stepsDownForTheRest_30 : decode cX0_stepsDownForTheRest 30 = .ok (.ifCond .ne 52, 3) := by decide +kernel
theorem dX0_stepsDownForTheRest_33 : decode cX0_stepsDownForTheRest 33 = .ok (.aload_n 0, 1) := by decide +kernel
theorem dX0_stepsDownForTheRest_34 : decode cX0_stepsDownForTheRest 34 = .ok (.getfield 66, 3) := by decide +kernel
theorem dX0_stepsDownForTheRest_37 : decode cX0_stepsDownForTheRest 37 = .ok (.aload_n 0, 1) := by decide +kernel
theorem dX0_stepsDownForTheRest_38 : decode cX0_stepsDownForTheRest 38 = .ok (.getfield 63, 3) := by decide +kernel
theorem dX0_stepsDownForTheRest_41 : decode cX0_stepsDownForTheRest 41 = .ok (.iload_n 3, 1) := by decide +kernel
theorem dX0_stepsDownForTheRest_42 : decode cX0_stepsDownForTheRest 42 = .ok (.iaload, 1) := by decide +kernel
theorem dX0_stepsDownForTheRest_43 : decode cX0_stepsDownForTheRest 43 = .ok (.invokestatic 69, 3) := by decide +kernel
theorem dX0_stepsDownForTheRest_46 : decode cX0_stepsDownForTheRest 46 = .ok (.istore 4, 2) := by decide +kernel
theorem dX0_stepsDownForTheRest_48 : decode cX0_stepsDownForTheRest 48 = .ok (.bipush 16, 2) := by decide +kernel
theorem dX0_stepsDownForTheRest_50 : decode cX0_stepsDownForTheRest 50 = .ok (.iload 4, 2) := by decide +kernel
theorem dX0_stepsDownForTheRest_52 : decode cX0_stepsDownForTheRest 52 = .ok (.isub, 1) := by decide +kernel
theorem dX0_stepsDownForTheRest_53 : decode cX0_stepsDownForTheRest 53 = .ok (.istore 5, 2) := by decide +kernel
theorem dX0_stepsDownForTheRest_55 : decode cX0_stepsDownForTheRest 55 = .ok (.iload 4, 2) := by decide +kernel
theorem dX0_stepsDownForTheRest_57 : decode cX0_stepsDownForTheRest 57 = .ok (.aload_n 0, 1) := by decide +kernel
theorem dX0_stepsDownForTheRest_58 : decode cX0_stepsDownForTheRest 58 = .ok (.getfield 72, 3) := by decide +kernel
theorem dX0_stepsDownForTheRest_61 : decode cX0_stepsDownForTheRest 61 = .ok (.iconst 0, 1) := by decide +kernel
theorem dX0_stepsDownForTheRest_62 : decode cX0_stepsDownForTheRest 62 = .ok (.iaload, 1) := by decide +kernel
theorem dX0_stepsDownForTheRest_63 : decode cX0_stepsDownForTheRest 63 = .ok (.isub, 1) := by decide +kernel
theorem dX0_stepsDownForTheRest_64 : decode cX0_stepsDownForTheRest 64 = .ok (.iload_n 1, 1) := by decide +kernel
theorem dX0_stepsDownForTheRest_65 : decode cX0_stepsDownForTheRest 65 = .ok (.if_icmp .le 17, 3) := by decide +kernel
theorem dX0_stepsDownForTheRest_68 : decode cX0_stepsDownForTheRest 68 = .ok (.iload_n 2, 1) := by decide +kernel
theorem dX0_stepsDownForTheRest_69 : decode cX0_stepsDownForTheRest 69 = .ok (.iload 5, 2) := by decide +kernel
theorem dX0_stepsDownForTheRest_71 : decode cX0_stepsDownForTheRest 71 = .ok (.aload_n 0, 1) := by decide +kernel
theorem dX0_stepsDownForTheRest_72 : decode cX0_stepsDownForTheRest 72 = .ok (.getfield 72, 3) := by decide +kernel
theorem dX0_stepsDownForTheRest_75 : decode cX0_stepsDownForTheRest 75 = .ok (.iconst 0, 1) := by decide +kernel
theorem dX0_stepsDownForTheRest_76 : decode cX0_stepsDownForTheRest 76 = .ok (.iaload, 1) := by decide +kernel
theorem dX0_stepsDownForTheRest_77 : decode cX0_stepsDownForTheRest 77 = .ok (.isub, 1) := by decide +kernel
theorem dX0_stepsDownForTheRest_78 : decode cX0_stepsDownForTheRest 78 = .ok (.invokestatic 75, 3) := by decide +kernel
theorem dX0_stepsDownForTheRest_81 : decode cX0_stepsDownForTheRest 81 = .ok (.istore_n 2, 1) := by decide +kernel
theorem dX0_stepsDownForTheRest_82 : decode cX0_stepsDownForTheRest 82 = .ok (.iinc 3 1, 3) := by decide +kernel
theorem dX0_stepsDownForTheRest_85 : decode cX0_stepsDownForTheRest 85 = .ok (.goto (-81), 3) := by decide +kernel
theorem dX0_stepsDownForTheRest_88 : decode cX0_stepsDownForTheRest 88 = .ok (.iload_n 2, 1) := by decide +kernel
theorem dX0_stepsDownForTheRest_89 : decode cX0_stepsDownForTheRest 89 = .ok (.ireturn, 1) := by decide +kernel
theorem dX1_init_0 : decode cX1_init 0 = .ok (.aload_n 0, 1) := by decide +kernel
theorem dX1_init_1 : decode cX1_init 1 = .ok (.invokespecial 3, 3) := by decide +kernel
theorem dX1_init_4 : decode cX1_init 4 = .ok (.aload_n 0, 1) := by decide +kernel
theorem dX1_init_5 : decode cX1_init 5 = .ok (.bipush 60, 2) := by decide +kernel
theorem dX1_init_7 : decode cX1_init 7 = .ok (.newarray .int, 2) := by decide +kernel
theorem dX1_init_9 : decode cX1_init 9 = .ok (.putfield 9, 3) := by decide +kernel
theorem dX1_init_12 : decode cX1_init 12 = .ok (.aload_n 0, 1) := by decide +kernel
theorem dX1_init_13 : decode cX1_init 13 = .ok (.iconst 0, 1) := by decide +kernel
theorem dX1_init_14 : decode cX1_init 14 = .ok (.putfield 15, 3) := by decide +kernel
theorem dX1_init_17 : decode cX1_init 17 = .ok (.return_, 1) := by decide +kernel
theorem dX2_changeSetting_0 : decode cX2_changeSetting 0 = .ok (.iload_n 1, 1) := by decide +kernel
theorem dX2_changeSetting_1 : decode cX2_changeSetting 1 = .ok (.invokestatic 9, 3) := by decide +kernel
theorem dX2_changeSetting_4 : decode cX2_changeSetting 4 = .ok (.ifCond .ne 7, 3) := by decide +kernel
theorem dX2_changeSetting_7 : decode cX2_changeSetting 7 = .ok (.sipush (-10002), 3) := by decide +kernel
theorem dX2_changeSetting_10 : decode cX2_changeSetting 10 = .ok (.ireturn, 1) := by decide +kernel
theorem dX2_changeSetting_11 : decode cX2_changeSetting 11 = .ok (.iload_n 2, 1) := by decide +kernel
theorem dX2_changeSetting_12 : decode cX2_changeSetting 12 = .ok (.getstatic 15, 3) := by decide +kernel
theorem dX2_changeSetting_15 : decode cX2_changeSetting 15 = .ok (.iload_n 1, 1) := by decide +kernel
theorem dX2_changeSetting_16 : decode cX2_changeSetting 16 = .ok (.iaload, 1) := by decide +kernel
theorem dX2_changeSetting_17 : decode cX2_changeSetting 17 = .ok (.if_icmp .lt 12, 3) := by decide +kernel
theorem dX2_changeSetting_20 : decode cX2_changeSetting 20 = .ok (.iload_n 2, 1) := by decide +kernel
theorem dX2_changeSetting_21 : decode cX2_changeSetting 21 = .ok (.getstatic 19, 3) := by decide +kernel
theorem dX2_changeSetting_24 : decode cX2_changeSetting 24 = .ok (.iload_n 1, 1) := by decide +kernel
theorem dX2_changeSetting_25 : decode cX2_changeSetting 25 = .ok (.iaload, 1) := by decide +kernel
theorem dX2_changeSetting_26 : decode cX2_changeSetting 26 = .ok (.if_icmp .le 7, 3) := by decide +kernel
theorem dX2_changeSetting_29 : decode cX2_changeSetting 29 = .ok (.sipush (-10002), 3) := by decide +kernel
theorem dX2_changeSetting_32 : decode cX2_changeSetting 32 = .ok (.ireturn, 1) := by decide +kernel
theorem dX2_changeSetting_33 : decode cX2_changeSetting 33 = .ok (.aload_n 0, 1) := by decide +kernel
theorem dX2_changeSetting_34 : decode cX2_changeSetting 34 = .ok (.getfield 22, 3) := by decide +kernel
theorem dX2_changeSetting_37 : decode cX2_changeSetting 37 = .ok (.iload_n 1, 1) := by decide +kernel
theorem dX2_changeSetting_38 : decode cX2_changeSetting 38 = .ok (.iaload, 1) := by decide +kernel
theorem dX2_changeSetting_39 : decode cX2_changeSetting 39 = .ok (.istore_n 3, 1) := by decide +kernel
theorem dX2_changeSetting_40 : decode cX2_changeSetting 40 = .ok (.aload_n 0, 1) := by decide +kernel
theorem dX2_changeSetting_41 : decode cX2_changeSetting 41 = .ok (.getfield 22, 3) := by decide +kernel
theorem dX2_changeSetting_44 : decode cX2_changeSetting 44 = .ok (.iload_n 1, 1) := by decide +kernel
theorem dX2_changeSetting_45 : decode cX2_changeSetting 45 = .ok (.iload_n 2, 1) := by decide +kernel
theorem dX2_changeSetting_46 : decode cX2_changeSetting 46 = .ok (.iastore, 1) := by decide +kernel
theorem dX2_changeSetting_47 : decode cX2_changeSetting 47 = .ok (.iload_n 3, 1) := by decide +kernel
theorem dX2_changeSetting_48 : decode cX2_changeSetting 48 = .ok (.ireturn, 1) := by decide +kernel
theorem dX2_addPlayer_0 : decode cX2_addPlayer 0 = .ok (.aload_n 0, 1) := by decide +kernel
theorem dX2_addPlayer_1 : decode cX2_addPlayer 1 = .ok (.getfield 25, 3) := by decide +kernel
theorem dX2_addPlayer_4 : decode cX2_addPlayer 4 = .ok (.ifCond .eq 7, 3) := by decide +kernel
theorem dX2_addPlayer_7 : decode cX2_addPlayer 7 = .ok (.sipush (-10003), 3) := by decide +kernel
theorem dX2_addPlayer_10 : decode cX2_addPlayer 10 = .ok (.ireturn, 1) := by decide +kernel
theorem dX2_addPlayer_11 : decode cX2_addPlayer 11 = .ok (.aload_n 0, 1) := by decide +kernel
theorem dX2_addPlayer_12 : decode cX2_addPlayer 12 = .ok (.getfield 29, 3) := by decide +kernel
theorem dX2_addPlayer_15 : decode cX2_addPlayer 15 = .ok (.bipush 8, 2) := by decide +kernel
theorem dX2_addPlayer_17 : decode cX2_addPlayer 17 = .ok (.if_icmp .lt 7, 3) := by decide +kernel
theorem dX2_addPlayer_20 : decode cX2_addPlayer 20 = .ok (.sipush (-10004), 3) := by decide +kernel
theorem dX2_addPlayer_23 : decode cX2_addPlayer 23 = .ok (.ireturn, 1) := by decide +kernel
theorem dX2_addPlayer_24 : decode cX2_addPlayer 24 = .ok (.aload_n 0, 1) := by decide +kernel
theorem dX2_addPlayer_25 : decode cX2_addPlayer 25 = .ok (.getfield 29, 3) := by decide +kernel
theorem dX2_addPlayer_28 : decode cX2_addPlayer 28 = .ok (.istore_n 1, 1) := by decide +kernel
theorem dX2_addPlayer_29 : decode cX2_addPlayer 29 = .ok (.aload_n 0, 1) := by decide +kernel
theorem dX2_addPlayer_30 : decode cX2_addPlayer 30 = .ok (.iload_n 1, 1) := by decide +kernel
theorem dX2_addPlayer_31 : decode cX2_addPlayer 31 = .ok (.iconst 1, 1) := by decide +kernel
theorem dX2_addPlayer_32 : decode cX2_addPlayer 32 = .ok (.iadd, 1) := by decide +kernel
theorem dX2_addPlayer_33 : decode cX2_addPlayer 33 = .ok (.putfield 29, 3) := by decide +kernel
theorem dX2_addPlayer_36 : decode cX2_addPlayer 36 = .ok (.iload_n 1, 1) := by decide +kernel
theorem dX2_addPlayer_37 : decode cX2_addPlayer 37 = .ok (.ireturn, 1) := by decide +kernel
theorem dX2_beginRound_0 : decode cX2_beginRound 0 = .ok (.aload_n 0, 1) := by decide +kernel
theorem dX2_beginRound_1 : decode cX2_beginRound 1 = .ok (.iload_n 1, 1) := by decide +kernel
theorem dX2_beginRound_2 : decode cX2_beginRound 2 = .ok (.invokevirtual 32, 3) := by decide +kernel
theorem dX2_beginRound_5 : decode cX2_beginRound 5 = .ok (.ifCond .ne 7, 3) := by decide +kernel
theorem dX2_beginRound_8 : decode cX2_beginRound 8 = .ok (.sipush (-10001), 3) := by decide +kernel
theorem dX2_beginRound_11 : decode cX2_beginRound 11 = .ok (.ireturn, 1) := by decide +kernel
theorem dX2_beginRound_12 : decode cX2_beginRound 12 = .ok (.iload_n 2, 1) := by decide +kernel
theorem dX2_beginRound_13 : decode cX2_beginRound 13 = .ok (.iconst 1, 1) := by decide +kernel
theorem dX2_beginRound_14 : decode cX2_beginRound 14 = .ok (.if_icmp .lt 9, 3) := by decide +kernel
theorem dX2_beginRound_17 : decode cX2_beginRound 17 = .ok (.iload_n 2, 1) := by decide +kernel
theorem dX2_beginRound_18 : decode cX2_beginRound 18 = .ok (.bipush 8, 2) := by decide +kernel
theorem dX2_beginRound_20 : decode cX2_beginRound 20 = .ok (.if_icmp .le 7, 3) := by decide +kernel
theorem dX2_beginRound_23 : decode cX2_beginRound 23 = .ok (.sipush (-10002), 3) := by decide +kernel
theorem dX2_beginRound_26 : decode cX2_beginRound 26 = .ok (.ireturn, 1) := by decide +kernel
theorem dX2_beginRound_27 : decode cX2_beginRound 27 = .ok (.aload_n 0, 1) := by decide +kernel
theorem dX2_beginRound_28 : decode cX2_beginRound 28 = .ok (.getfield 25, 3) := by decide +kernel
theorem dX2_beginRound_31 : decode cX2_beginRound 31 = .ok (.ifCond .ne 11, 3) := by decide +kernel
theorem dX2_beginRound_34 : decode cX2_beginRound 34 = .ok (.aload_n 0, 1) := by decide +kernel
theorem dX2_beginRound_35 : decode cX2_beginRound 35 = .ok (.getfield 29, 3) := by decide +kernel
theorem dX2_beginRound_38 : decode cX2_beginRound 38 = .ok (.iconst 2, 1) := by decide +kernel
theorem dX2_beginRound_39 : decode cX2_beginRound 39 = .ok (.if_icmp .ge 7, 3) := by decide +kernel
theorem dX2_beginRound_42 : decode cX2_beginRound 42 = .ok (.sipush (-10003), 3) := by decide +kernel
theorem dX2_beginRound_45 : decode cX2_beginRound 45 = .ok (.ireturn, 1) := by decide +kernel
theorem dX2_beginRound_46 : decode cX2_beginRound 46 = .ok (.aload_n 0, 1) := by decide +kernel
theorem dX2_beginRound_47 : decode cX2_beginRound 47 = .ok (.iconst 1, 1) := by decide +kernel
theorem dX2_beginRound_48 : decode cX2_beginRound 48 = .ok (.putfield 25, 3) := by decide +kernel
theorem dX2_beginRound_51 : decode cX2_beginRound 51 = .ok (.aload_n 0, 1) := by decide +kernel
theorem dX2_beginRound_52 : decode cX2_beginRound 52 = .ok (.iload_n 1, 1) := by decide +kernel
theorem dX2_beginRound_53 : decode cX2_beginRound 53 = .ok (.putfield 35, 3) := by decide +kernel
theorem dX2_beginRound_56 : decode cX2_beginRound 56 = .ok (.aload_n 0, 1) := by decide +kernel
theorem dX2_beginRound_57 : decode cX2_beginRound 57 = .ok (.iload_n 2, 1) := by decide +kernel
theorem dX2_beginRound_58 : decode cX2_beginRound 58 = .ok (.putfield 38, 3) := by decide +kernel
theorem dX2_beginRound_61 : decode cX2_beginRound 61 = .ok (.aload_n 0, 1) := by decide +kernel
theorem dX2_beginRound_62 : decode cX2_beginRound 62 = .ok (.getfield 41, 3) := by decide +kernel
theorem dX2_beginRound_65 : decode cX2_beginRound 65 = .ok (.iload_n 1, 1) := by decide +kernel
theorem dX2_beginRound_66 : decode cX2_beginRound 66 = .ok (.dup2, 1) := by decide +kernel
theorem dX2_beginRound_67 : decode cX2_beginRound 67 = .ok (.iaload, 1) := by decide +kernel
theorem dX2_beginRound_68 : decode cX2_beginRound 68 = .ok (.iconst 1, 1) := by decide +kernel
theorem dX2_beginRound_69 : decode cX2_beginRound 69 = .ok (.iadd, 1) := by decide +kernel
theorem dX2_beginRound_70 : decode cX2_beginRound 70 = .ok (.iastore, 1) := by decide +kernel
theorem dX2_beginRound_71 : decode cX2_beginRound 71 = .ok (.aload_n 0, 1) := by decide +kernel
theorem dX2_beginRound_72 : decode cX2_beginRound 72 = .ok (.invokestatic 44, 3) := by decide +kernel
theorem dX2_beginRound_75 : decode cX2_beginRound 75 = .ok (.ireturn, 1) := by decide +kernel
theorem dX2_countHidingSpots_0 : decode cX2_countHidingSpots 0 = .ok (.iconst 0, 1) := by decide +kernel
theorem dX2_countHidingSpots_1 : decode cX2_countHidingSpots 1 = .ok (.istore_n 1, 1) := by decide +kernel
theorem dX2_countHidingSpots_2 : decode cX2_countHidingSpots 2 = .ok (.iconst 0, 1) := by decide +kernel
theorem dX2_countHidingSpots_3 : decode cX2_countHidingSpots 3 = .ok (.istore_n 2, 1) := by decide +kernel
theorem dX2_countHidingSpots_4 : decode cX2_countHidingSpots 4 = .ok (.iload_n 2, 1) := by decide +kernel
theorem dX2_countHidingSpots_5 : decode cX2_countHidingSpots 5 = .ok (.bipush 16, 2) := by decide +kernel
theorem dX2_countHidingSpots_7 : decode cX2_countHidingSpots 7 = .ok (.if_icmp .ge 20, 3) := by decide +kernel
theorem dX2_countHidingSpots_10 : decode cX2_countHidingSpots 10 = .ok (.aload_n 0, 1) := by decide +kernel
theorem dX2_countHidingSpots_11 : decode cX2_countHidingSpots 11 = .ok (.iload_n 2, 1) := by decide +kernel
theorem dX2_countHidingSpots_12 : decode cX2_countHidingSpots 12 = .ok (.invokevirtual 52, 3) := by decide +kernel
theorem dX2_countHidingSpots_15 : decode cX2_countHidingSpots 15 = .ok (.ifCond .eq 6, 3) := by decide +kernel
theorem dX2_countHidingSpots_18 : decode cX2_countHidingSpots 18 = .ok (.iinc 1 1, 3) := by decide +kernel
theorem dX2_countHidingSpots_21 : decode cX2_countHidingSpots 21 = .ok (.iinc 2 1, 3) := by decide +kernel
theorem dX2_countHidingSpots_24 : decode cX2_countHidingSpots 24 = .ok (.goto (-20), 3) := by decide +kernel
theorem dX2_countHidingSpots_27 : decode cX2_countHidingSpots 27 = .ok (.iload_n 1, 1) := by decide +kernel
theorem dX2_countHidingSpots_28 : decode cX2_countHidingSpots 28 = .ok (.ireturn, 1) := by decide +kernel
theorem dX2_hidePlayer_0 : decode cX2_hidePlayer 0 = .ok (.aload_n 0, 1) := by decide +kernel
theorem dX2_hidePlayer_1 : decode cX2_hidePlayer 1 = .ok (.iload_n 1, 1) := by decide +kernel
theorem dX2_hidePlayer_2 : decode cX2_hidePlayer 2 = .ok (.invokevirtual 32, 3) := by decide +kernel
theorem dX2_hidePlayer_5 : decode cX2_hidePlayer 5 = .ok (.ifCond .eq 10, 3) := by decide +kernel
theorem dX2_hidePlayer_8 : decode cX2_hidePlayer 8 = .ok (.iload_n 2, 1) := by decide +kernel
theorem dX2_hidePlayer_9 : decode cX2_hidePlayer 9 = .ok (.invokestatic 55, 3) := by decide +kernel
theorem dX2_hidePlayer_12 : decode cX2_hidePlayer 12 = .ok (.ifCond .ne 7, 3) := by decide +kernel
theorem dX2_hidePlayer_15 : decode cX2_hidePlayer 15 = .ok (.sipush (-10001), 3) := by decide +kernel
theorem dX2_hidePlayer_18 : decode cX2_hidePlayer 18 = .ok (.ireturn, 1) := by decide +kernel
theorem dX2_hidePlayer_19 : decode cX2_hidePlayer 19 = .ok (.aload_n 0, 1) := by decide +kernel
theorem dX2_hidePlayer_20 : decode cX2_hidePlayer 20 = .ok (.getfield 25, 3) := by decide +kernel
theorem dX2_hidePlayer_23 : decode cX2_hidePlayer 23 = .ok (.iconst 1, 1) := by decide +kernel
theorem dX2_hidePlayer_24 : decode cX2_hidePlayer 24 = .ok (.if_icmp .ne 19, 3) := by decide +kernel
theorem dX2_hidePlayer_27 : decode cX2_hidePlayer 27 = .ok (.iload_n 1, 1) := by decide +kernel
theorem dX2_hidePlayer_28 : decode cX2_hidePlayer 28 = .ok (.aload_n 0, 1) := by decide +kernel
theorem dX2_hidePlayer_29 : decode cX2_hidePlayer 29 = .ok (.getfield 35, 3) := by decide +kernel
theorem dX2_hidePlayer_32 : decode cX2_hidePlayer 32 = .ok (.if_icmp .eq 11, 3) := by decide +kernel
theorem dX2_hidePlayer_35 : decode cX2_hidePlayer 35 = .ok (.aload_n 0, 1) := by decide +kernel
theorem dX2_hidePlayer_36 : decode cX2_hidePlayer 36 = .ok (.iload_n 1, 1) := by decide +kernel
theorem dX2_hidePlayer_37 : decode cX2_hidePlayer 37 = .ok (.invokevirtual 58, 3) := by decide +kernel
theorem dX2_hidePlayer_40 : decode cX2_hidePlayer 40 = .ok (.ifCond .eq 7, 3) := by decide +kernel
theorem dX2_hidePlayer_43 : decode cX2_hidePlayer 43 = .ok (.sipush (-10003), 3) := by decide +kernel
theorem dX2_hidePlayer_46 : decode cX2_hidePlayer 46 = .ok (.ireturn, 1) := by decide +kernel
theorem dX2_hidePlayer_47 : decode cX2_hidePlayer 47 = .ok (.aload_n 0, 1) := by decide +kernel
theorem dX2_hidePlayer_48 : decode cX2_hidePlayer 48 = .ok (.iload_n 2, 1) := by decide +kernel
theorem dX2_hidePlayer_49 : decode cX2_hidePlayer 49 = .ok (.invokevirtual 61, 3) := by decide +kernel
theorem dX2_hidePlayer_52 : decode cX2_hidePlayer 52 = .ok (.ifCond .ne 7, 3) := by decide +kernel
theorem dX2_hidePlayer_55 : decode cX2_hidePlayer 55 = .ok (.sipush (-10003), 3) := by decide +kernel
theorem dX2_hidePlayer_58 : decode cX2_hidePlayer 58 = .ok (.ireturn, 1) := by decide +kernel
theorem dX2_hidePlayer_59 : decode cX2_hidePlayer 59 = .ok (.aload_n 0, 1) := by decide +kernel
theorem dX2_hidePlayer_60 : decode cX2_hidePlayer 60 = .ok (.iload_n 2, 1) := by decide +kernel
theorem dX2_hidePlayer_61 : decode cX2_hidePlayer 61 = .ok (.invokevirtual 64, 3) := by decide +kernel
theorem dX2_hidePlayer_64 : decode cX2_hidePlayer 64 = .ok (.ifCond .eq 7, 3) := by decide +kernel
theorem dX2_hidePlayer_67 : decode cX2_hidePlayer 67 = .ok (.sipush (-10004), 3) := by decide +kernel
theorem dX2_hidePlayer_70 : decode cX2_hidePlayer 70 = .ok (.ireturn, 1) := by decide +kernel
theorem dX2_hidePlayer_71 : decode cX2_hidePlayer 71 = .ok (.aload_n 0, 1) := by decide +kernel
theorem dX2_hidePlayer_72 : decode cX2_hidePlayer 72 = .ok (.getfield 67, 3) := by decide +kernel
theorem dX2_hidePlayer_75 : decode cX2_hidePlayer 75 = .ok (.iload_n 1, 1) := by decide +kernel
theorem dX2_hidePlayer_76 : decode cX2_hidePlayer 76 = .ok (.iload_n 2, 1) := by decide +kernel
theorem dX2_hidePlayer_77 : decode cX2_hidePlayer 77 = .ok (.iastore, 1) := by decide +kernel
theorem dX2_hidePlayer_78 : decode cX2_hidePlayer 78 = .ok (.iload_n 2, 1) := by decide +kernel
theorem dX2_hidePlayer_79 : decode cX2_hidePlayer 79 = .ok (.invokestatic 70, 3) := by decide +kernel
theorem dX2_hidePlayer_82 : decode cX2_hidePlayer 82 = .ok (.ireturn, 1) := by decide +kernel
theorem dX2_beginSeeking_0 : decode cX2_beginSeeking 0 = .ok (.aload_n 0, 1) := by decide +kernel
theorem dX2_beginSeeking_1 : decode cX2_beginSeeking 1 = .ok (.getfield 25, 3) := by decide +kernel
theorem dX2_beginSeeking_4 : decode cX2_beginSeeking 4 = .ok (.iconst 1, 1) := by decide +kernel
theorem dX2_beginSeeking_5 : decode cX2_beginSeeking 5 = .ok (.if_icmp .eq 7, 3) := by decide +kernel
theorem dX2_beginSeeking_8 : decode cX2_beginSeeking 8 = .ok (.sipush (-10003), 3) := by decide +kernel
theorem dX2_beginSeeking_11 : decode cX2_beginSeeking 11 = .ok (.ireturn, 1) := by decide +kernel
theorem dX2_beginSeeking_12 : decode cX2_beginSeeking 12 = .ok (.aload_n 0, 1) := by decide +kernel
theorem dX2_beginSeeking_13 : decode cX2_beginSeeking 13 = .ok (.iconst 2, 1) := by decide +kernel
theorem dX2_beginSeeking_14 : decode cX2_beginSeeking 14 = .ok (.putfield 25, 3) := by decide +kernel
theorem dX2_beginSeeking_17 : decode cX2_beginSeeking 17 = .ok (.aload_n 0, 1) := by decide +kernel
theorem dX2_beginSeeking_18 : decode cX2_beginSeeking 18 = .ok (.iconst 0, 1) := by decide +kernel
theorem dX2_beginSeeking_19 : decode cX2_beginSeeking 19 = .ok (.putfield 74, 3) := by decide +kernel
theorem dX2_beginSeeking_22 : decode cX2_beginSeeking 22 = .ok (.aload_n 0, 1) := by decide +kernel
theorem dX2_beginSeeking_23 : decode cX2_beginSeeking 23 = .ok (.invokevirtual 77, 3) := by decide +kernel
theorem dX2_beginSeeking_26 : decode cX2_beginSeeking 26 = .ok (.istore_n 1, 1) := by decide +kernel
theorem dX2_beginSeeking_27 : decode cX2_beginSeeking 27 = .ok (.aload_n 0, 1) := by decide +kernel
theorem dX2_beginSeeking_28 : decode cX2_beginSeeking 28 = .ok (.invokestatic 81, 3) := by decide +kernel
theorem dX2_beginSeeking_31 : decode cX2_beginSeeking 31 = .ok (.iload_n 1, 1) := by decide +kernel
theorem dX2_beginSeeking_32 : decode cX2_beginSeeking 32 = .ok (.ireturn, 1) := by decide +kernel
theorem dX2_moveSeeker_0 : decode cX2_moveSeeker 0 = .ok (.iload_n 1, 1) := by decide +kernel
theorem dX2_moveSeeker_1 : decode cX2_moveSeeker 1 = .ok (.iconst (-1), 1) := by decide +kernel
theorem dX2_moveSeeker_2 : decode cX2_moveSeeker 2 = .ok (.if_icmp .lt 8, 3) := by decide +kernel
theorem dX2_moveSeeker_5 : decode cX2_moveSeeker 5 = .ok (.iload_n 1, 1) := by decide +kernel
theorem dX2_moveSeeker_6 : decode cX2_moveSeeker 6 = .ok (.iconst 1, 1) := by decide +kernel
theorem dX2_moveSeeker_7 : decode cX2_moveSeeker 7 = .ok (.if_icmp .le 7, 3) := by decide +kernel
theorem dX2_moveSeeker_10 : decode cX2_moveSeeker 10 = .ok (.sipush (-10002), 3) := by decide +kernel
theorem dX2_moveSeeker_13 : decode cX2_moveSeeker 13 = .ok (.ireturn, 1) := by decide +kernel
theorem dX2_moveSeeker_14 : decode cX2_moveSeeker 14 = .ok (.aload_n 0, 1) := by decide +kernel
theorem dX2_moveSeeker_15 : decode cX2_moveSeeker 15 = .ok (.getfield 25, 3) := by decide +kernel
theorem dX2_moveSeeker_18 : decode cX2_moveSeeker 18 = .ok (.iconst 2, 1) := by decide +kernel
theorem dX2_moveSeeker_19 : decode cX2_moveSeeker 19 = .ok (.if_icmp .eq 7, 3) := by decide +kernel
theorem dX2_moveSeeker_22 : decode cX2_moveSeeker 22 = .ok (.sipush (-10003), 3) := by decide +kernel
theorem dX2_moveSeeker_25 : decode cX2_moveSeeker 25 = .ok (.ireturn, 1) := by decide +kernel
theorem dX2_moveSeeker_26 : decode cX2_moveSeeker 26 = .ok (.aload_n 0, 1) := by decide +kernel
theorem dX2_moveSeeker_27 : decode cX2_moveSeeker 27 = .ok (.aload_n 0, 1) := by decide +kernel
theorem dX2_moveSeeker_28 : decode cX2_moveSeeker 28 = .ok (.getfield 74, 3) := by decide +kernel
theorem dX2_moveSeeker_31 : decode cX2_moveSeeker 31 = .ok (.iload_n 1, 1) := by decide +kernel
theorem dX2_moveSeeker_32 : decode cX2_moveSeeker 32 = .ok (.invokestatic 85, 3) := by decide +kernel
theorem dX2_moveSeeker_35 : decode cX2_moveSeeker 35 = .ok (.putfield 74, 3) := by decide +kernel
theorem dX2_moveSeeker_38 : decode cX2_moveSeeker 38 = .ok (.aload_n 0, 1) := by decide +kernel
theorem dX2_moveSeeker_39 : decode cX2_moveSeeker 39 = .ok (.getfield 74, 3) := by decide +kernel
theorem dX2_moveSeeker_42 : decode cX2_moveSeeker 42 = .ok (.ireturn, 1) := by decide +kernel
theorem dX2_cryName_0 : decode cX2_cryName 0 = .ok (.aload_n 0, 1) := by decide +kernel
theorem dX2_cryName_1 : decode cX2_cryName 1 = .ok (.iload_n 1, 1) := by decide +kernel
theorem dX2_cryName_2 : decode cX2_cryName 2 = .ok (.invokevirtual 32, 3) := by decide +kernel
theorem dX2_cryName_5 : decode cX2_cryName 5 = .ok (.ifCond .eq 10, 3) := by decide +kernel
theorem dX2_cryName_8 : decode cX2_cryName 8 = .ok (.iload_n 2, 1) := by decide +kernel
theorem dX2_cryName_9 : decode cX2_cryName 9 = .ok (.invokestatic 55, 3) := by decide +kernel
theorem dX2_cryName_12 : decode cX2_cryName 12 = .ok (.ifCond .ne 7, 3) := by decide +kernel
theorem dX2_cryName_15 : decode cX2_cryName 15 = .ok (.sipush (-10001), 3) := by decide +kernel
theorem dX2_cryName_18 : decode cX2_cryName 18 = .ok (.ireturn, 1) := by decide +kernel
theorem dX2_cryName_19 : decode cX2_cryName 19 = .ok (.aload_n 0, 1) := by decide +kernel
theorem dX2_cryName_20 : decode cX2_cryName 20 = .ok (.getfield 25, 3) := by decide +kernel
theorem dX2_cryName_23 : decode cX2_cryName 23 = .ok (.iconst 2, 1) := by decide +kernel
theorem dX2_cryName_24 : decode cX2_cryName 24 = .ok (.if_icmp .ne 19, 3) := by decide +kernel
theorem dX2_cryName_27 : decode cX2_cryName 27 = .ok (.iload_n 1, 1) := by decide +kernel
theorem dX2_cryName_28 : decode cX2_cryName 28 = .ok (.aload_n 0, 1) := by decide +kernel
theorem dX2_cryName_29 : decode cX2_cryName 29 = .ok (.getfield 35, 3) := by decide +kernel
theorem dX2_cryName_32 : decode cX2_cryName 32 = .ok (.if_icmp .eq 11, 3) := by decide +kernel
theorem dX2_cryName_35 : decode cX2_cryName 35 = .ok (.aload_n 0, 1) := by decide +kernel
theorem dX2_cryName_36 : decode cX2_cryName 36 = .ok (.iload_n 2, 1) := by decide +kernel
theorem dX2_cryName_37 : decode cX2_cryName 37 = .ok (.invokevirtual 89, 3) := by decide +kernel
theorem dX2_cryName_40 : decode cX2_cryName 40 = .ok (.ifCond .ne 7, 3) := by decide +kernel
theorem dX2_cryName_43 : decode cX2_cryName 43 = .ok (.sipush (-10003), 3) := by decide +kernel
theorem dX2_cryName_46 : decode cX2_cryName 46 = .ok (.ireturn, 1) := by decide +kernel
theorem dX2_cryName_47 : decode cX2_cryName 47 = .ok (.aload_n 0, 1) := by decide +kernel
theorem dX2_cryName_48 : decode cX2_cryName 48 = .ok (.getfield 67, 3) := by decide +kernel
theorem dX2_cryName_51 : decode cX2_cryName 51 = .ok (.iload_n 1, 1) := by decide +kernel
theorem dX2_cryName_52 : decode cX2_cryName 52 = .ok (.iaload, 1) := by decide +kernel
theorem dX2_cryName_53 : decode cX2_cryName 53 = .ok (.iload_n 2, 1) := by decide +kernel
theorem dX2_cryName_54 : decode cX2_cryName 54 = .ok (.if_icmp .eq 9, 3) := by decide +kernel
theorem dX2_cryName_57 : decode cX2_cryName 57 = .ok (.aload_n 0, 1) := by decide +kernel
theorem dX2_cryName_58 : decode cX2_cryName 58 = .ok (.invokestatic 92, 3) := by decide +kernel
theorem dX2_cryName_61 : decode cX2_cryName 61 = .ok (.iconst 0, 1) := by decide +kernel
theorem dX2_cryName_62 : decode cX2_cryName 62 = .ok (.ireturn, 1) := by decide +kernel
theorem dX2_cryName_63 : decode cX2_cryName 63 = .ok (.aload_n 0, 1) := by decide +kernel
theorem dX2_cryName_64 : decode cX2_cryName 64 = .ok (.iload_n 2, 1) := by decide +kernel
theorem dX2_cryName_65 : decode cX2_cryName 65 = .ok (.invokestatic 95, 3) := by decide +kernel
theorem dX2_cryName_68 : decode cX2_cryName 68 = .ok (.aload_n 0, 1) := by decide +kernel
theorem dX2_cryName_69 : decode cX2_cryName 69 = .ok (.iload_n 1, 1) := by decide +kernel
theorem dX2_cryName_70 : decode cX2_cryName 70 = .ok (.iconst 2, 1) := by decide +kernel
theorem dX2_cryName_71 : decode cX2_cryName 71 = .ok (.invokestatic 99, 3) := by decide +kernel
theorem dX2_cryName_74 : decode cX2_cryName 74 = .ok (.iconst 1, 1) := by decide +kernel
theorem dX2_cryName_75 : decode cX2_cryName 75 = .ok (.ireturn, 1) := by decide +kernel
theorem dX2_dashHome_0 : decode cX2_dashHome 0 = .ok (.aload_n 0, 1) := by decide +kernel
theorem dX2_dashHome_1 : decode cX2_dashHome 1 = .ok (.iload_n 1, 1) := by decide +kernel
theorem dX2_dashHome_2 : decode cX2_dashHome 2 = .ok (.invokevirtual 32, 3) := by decide +kernel
theorem dX2_dashHome_5 : decode cX2_dashHome 5 = .ok (.ifCond .ne 7, 3) := by decide +kernel
theorem dX2_dashHome_8 : decode cX2_dashHome 8 = .ok (.sipush (-10001), 3) := by decide +kernel
theorem dX2_dashHome_11 : decode cX2_dashHome 11 = .ok (.ireturn, 1) := by decide +kernel
theorem dX2_dashHome_12 : decode cX2_dashHome 12 = .ok (.aload_n 0, 1) := by decide +kernel
theorem dX2_dashHome_13 : decode cX2_dashHome 13 = .ok (.getfield 25, 3) := by decide +kernel
theorem dX2_dashHome_16 : decode cX2_dashHome 16 = .ok (.iconst 2, 1) := by decide +kernel
theorem dX2_dashHome_17 : decode cX2_dashHome 17 = .ok (.if_icmp .ne 11, 3) := by decide +kernel
theorem dX2_dashHome_20 : decode cX2_dashHome 20 = .ok (.aload_n 0, 1) := by decide +kernel
theorem dX2_dashHome_21 : decode cX2_dashHome 21 = .ok (.iload_n 1, 1) := by decide +kernel
theorem dX2_dashHome_22 : decode cX2_dashHome 22 = .ok (.invokevirtual 58, 3) := by decide +kernel
theorem dX2_dashHome_25 : decode cX2_dashHome 25 = .ok (.ifCond .ne 7, 3) := by decide +kernel
theorem dX2_dashHome_28 : decode cX2_dashHome 28 = .ok (.sipush (-10003), 3) := by decide +kernel
theorem dX2_dashHome_31 : decode cX2_dashHome 31 = .ok (.ireturn, 1) := by decide +kernel
theorem dX2_dashHome_32 : decode cX2_dashHome 32 = .ok (.aload_n 0, 1) := by decide +kernel
theorem dX2_dashHome_33 : decode cX2_dashHome 33 = .ok (.iload_n 1, 1) := by decide +kernel
theorem dX2_dashHome_34 : decode cX2_dashHome 34 = .ok (.invokevirtual 103, 3) := by decide +kernel
theorem dX2_dashHome_37 : decode cX2_dashHome 37 = .ok (.ifCond .ne 11, 3) := by decide +kernel
theorem dX2_dashHome_40 : decode cX2_dashHome 40 = .ok (.aload_n 0, 1) := by decide +kernel
theorem dX2_dashHome_41 : decode cX2_dashHome 41 = .ok (.iload_n 1, 1) := by decide +kernel
theorem dX2_dashHome_42 : decode cX2_dashHome 42 = .ok (.iconst 1, 1) := by decide +kernel
theorem dX2_dashHome_43 : decode cX2_dashHome 43 = .ok (.invokestatic 99, 3) := by decide +kernel
theorem dX2_dashHome_46 : decode cX2_dashHome 46 = .ok (.iconst 0, 1) := by decide +kernel
theorem dX2_dashHome_47 : decode cX2_dashHome 47 = .ok (.ireturn, 1) := by decide +kernel
theorem dX2_dashHome_48 : decode cX2_dashHome 48 = .ok (.aload_n 0, 1) := by decide +kernel
theorem dX2_dashHome_49 : decode cX2_dashHome 49 = .ok (.iload_n 1, 1) := by decide +kernel
theorem dX2_dashHome_50 : decode cX2_dashHome 50 = .ok (.iconst 3, 1) := by decide +kernel
theorem dX2_dashHome_51 : decode cX2_dashHome 51 = .ok (.invokestatic 106, 3) := by decide +kernel
theorem dX2_dashHome_54 : decode cX2_dashHome 54 = .ok (.aload_n 0, 1) := by decide +kernel
theorem dX2_dashHome_55 : decode cX2_dashHome 55 = .ok (.invokestatic 81, 3) := by decide +kernel
theorem dX2_dashHome_58 : decode cX2_dashHome 58 = .ok (.iconst 1, 1) := by decide +kernel
theorem dX2_dashHome_59 : decode cX2_dashHome 59 = .ok (.ireturn, 1) := by decide +kernel
theorem dX2_findPlayer_0 : decode cX2_findPlayer 0 = .ok (.aload_n 0, 1) := by decide +kernel
theorem dX2_findPlayer_1 : decode cX2_findPlayer 1 = .ok (.getfield 67, 3) := by decide +kernel
theorem dX2_findPlayer_4 : decode cX2_findPlayer 4 = .ok (.iload_n 1, 1) := by decide +kernel
theorem dX2_findPlayer_5 : decode cX2_findPlayer 5 = .ok (.sipush (-10006), 3) := by decide +kernel
theorem dX2_findPlayer_8 : decode cX2_findPlayer 8 = .ok (.iastore, 1) := by decide +kernel
theorem dX2_findPlayer_9 : decode cX2_findPlayer 9 = .ok (.aload_n 0, 1) := by decide +kernel
theorem dX2_findPlayer_10 : decode cX2_findPlayer 10 = .ok (.aload_n 0, 1) := by decide +kernel
theorem dX2_findPlayer_11 : decode cX2_findPlayer 11 = .ok (.getfield 35, 3) := by decide +kernel
theorem dX2_findPlayer_14 : decode cX2_findPlayer 14 = .ok (.invokevirtual 32, 3) := by decide +kernel
theorem dX2_findPlayer_17 : decode cX2_findPlayer 17 = .ok (.ifCond .eq 29, 3) := by decide +kernel
theorem dX2_findPlayer_20 : decode cX2_findPlayer 20 = .ok (.aload_n 0, 1) := by decide +kernel
theorem dX2_findPlayer_21 : decode cX2_findPlayer 21 = .ok (.getfield 109, 3) := by decide +kernel
theorem dX2_findPlayer_24 : decode cX2_findPlayer 24 = .ok (.aload_n 0, 1) := by decide +kernel
theorem dX2_findPlayer_25 : decode cX2_findPlayer 25 = .ok (.getfield 35, 3) := by decide +kernel
theorem dX2_findPlayer_28 : decode cX2_findPlayer 28 = .ok (.dup2, 1) := by decide +kernel
theorem dX2_findPlayer_29 : decode cX2_findPlayer 29 = .ok (.iaload, 1) := by decide +kernel
theorem dX2_findPlayer_30 : decode cX2_findPlayer 30 = .ok (.iload_n 2, 1) := by decide +kernel
theorem dX2_findPlayer_31 : decode cX2_findPlayer 31 = .ok (.iadd, 1) := by decide +kernel
theorem dX2_findPlayer_32 : decode cX2_findPlayer 32 = .ok (.iastore, 1) := by decide +kernel
theorem dX2_findPlayer_33 : decode cX2_findPlayer 33 = .ok (.aload_n 0, 1) := by decide +kernel
theorem dX2_findPlayer_34 : decode cX2_findPlayer 34 = .ok (.getfield 112, 3) := by decide +kernel
theorem dX2_findPlayer_37 : decode cX2_findPlayer 37 = .ok (.aload_n 0, 1) := by decide +kernel
theorem dX2_findPlayer_38 : decode cX2_findPlayer 38 = .ok (.getfield 35, 3) := by decide +kernel
theorem dX2_findPlayer_41 : decode cX2_findPlayer 41 = .ok (.dup2, 1) := by decide +kernel
theorem dX2_findPlayer_42 : decode cX2_findPlayer 42 = .ok (.iaload, 1) := by decide +kernel
theorem dX2_findPlayer_43 : decode cX2_findPlayer 43 = .ok (.iconst 1, 1) := by decide +kernel
theorem dX2_findPlayer_44 : decode cX2_findPlayer 44 = .ok (.iadd, 1) := by decide +kernel
theorem dX2_findPlayer_45 : decode cX2_findPlayer 45 = .ok (.iastore, 1) := by decide +kernel
theorem dX2_findPlayer_46 : decode cX2_findPlayer 46 = .ok (.aload_n 0, 1) := by decide +kernel
theorem dX2_findPlayer_47 : decode cX2_findPlayer 47 = .ok (.invokestatic 81, 3) := by decide +kernel
theorem dX2_findPlayer_50 : decode cX2_findPlayer 50 = .ok (.return_, 1) := by decide +kernel
theorem dX2_countFindOfSpot_0 : decode cX2_countFindOfSpot 0 = .ok (.aload_n 0, 1) := by decide +kernel
theorem dX2_countFindOfSpot_1 : decode cX2_countFindOfSpot 1 = .ok (.getfield 115, 3) := by decide +kernel
theorem dX2_countFindOfSpot_4 : decode cX2_countFindOfSpot 4 = .ok (.iload_n 1, 1) := by decide +kernel
theorem dX2_countFindOfSpot_5 : decode cX2_countFindOfSpot 5 = .ok (.dup2, 1) := by decide +kernel
theorem dX2_countFindOfSpot_6 : decode cX2_countFindOfSpot 6 = .ok (.iaload, 1) := by decide +kernel
theorem dX2_countFindOfSpot_7 : decode cX2_countFindOfSpot 7 = .ok (.iconst 1, 1) := by decide +kernel
theorem dX2_countFindOfSpot_8 : decode cX2_countFindOfSpot 8 = .ok (.iadd, 1) := by decide +kernel
theorem dX2_countFindOfSpot_9 : decode cX2_countFindOfSpot 9 = .ok (.iastore, 1) := by decide +kernel
theorem dX2_countFindOfSpot_10 : decode cX2_countFindOfSpot 10 = .ok (.aload_n 0, 1) := by decide +kernel
theorem dX2_countFindOfSpot_11 : decode cX2_countFindOfSpot 11 = .ok (.getfield 115, 3) := by decide +kernel
theorem dX2_countFindOfSpot_14 : decode cX2_countFindOfSpot 14 = .ok (.iload_n 1, 1) := by decide +kernel
theorem dX2_countFindOfSpot_15 : decode cX2_countFindOfSpot 15 = .ok (.iaload, 1) := by decide +kernel
theorem dX2_countFindOfSpot_16 : decode cX2_countFindOfSpot 16 = .ok (.aload_n 0, 1) := by decide +kernel
theorem dX2_countFindOfSpot_17 : decode cX2_countFindOfSpot 17 = .ok (.getfield 22, 3) := by decide +kernel
theorem dX2_countFindOfSpot_20 : decode cX2_countFindOfSpot 20 = .ok (.iconst 1, 1) := by decide +kernel
theorem dX2_countFindOfSpot_21 : decode cX2_countFindOfSpot 21 = .ok (.iaload, 1) := by decide +kernel
theorem dX2_countFindOfSpot_22 : decode cX2_countFindOfSpot 22 = .ok (.if_icmp .lt 7, 3) := by decide +kernel
theorem dX2_countFindOfSpot_25 : decode cX2_countFindOfSpot 25 = .ok (.iconst 1, 1) := by decide +kernel
theorem dX2_countFindOfSpot_26 : decode cX2_countFindOfSpot 26 = .ok (.goto 4, 3) := by decide +kernel
theorem dX2_countFindOfSpot_29 : decode cX2_countFindOfSpot 29 = .ok (.iconst 0, 1) := by decide +kernel
theorem dX2_countFindOfSpot_30 : decode cX2_countFindOfSpot 30 = .ok (.istore_n 2, 1) := by decide +kernel
theorem dX2_countFindOfSpot_31 : decode cX2_countFindOfSpot 31 = .ok (.iload_n 2, 1) := by decide +kernel
theorem dX2_countFindOfSpot_32 : decode cX2_countFindOfSpot 32 = .ok (.ifCond .eq 18, 3) := by decide +kernel
theorem dX2_countFindOfSpot_35 : decode cX2_countFindOfSpot 35 = .ok (.aload_n 0, 1) := by decide +kernel
theorem dX2_countFindOfSpot_36 : decode cX2_countFindOfSpot 36 = .ok (.iload_n 1, 1) := by decide +kernel
theorem dX2_countFindOfSpot_37 : decode cX2_countFindOfSpot 37 = .ok (.invokevirtual 118, 3) := by decide +kernel
theorem dX2_countFindOfSpot_40 : decode cX2_countFindOfSpot 40 = .ok (.ifCond .ne 10, 3) := by decide +kernel
theorem dX2_countFindOfSpot_43 : decode cX2_countFindOfSpot 43 = .ok (.aload_n 0, 1) := by decide +kernel
theorem dX2_countFindOfSpot_44 : decode cX2_countFindOfSpot 44 = .ok (.getfield 121, 3) := by decide +kernel
theorem dX2_countFindOfSpot_47 : decode cX2_countFindOfSpot 47 = .ok (.iload_n 1, 1) := by decide +kernel
theorem dX2_countFindOfSpot_48 : decode cX2_countFindOfSpot 48 = .ok (.iconst 0, 1) := by decide +kernel
theorem dX2_countFindOfSpot_49 : decode cX2_countFindOfSpot 49 = .ok (.iastore, 1) := by decide +kernel
theorem dX2_countFindOfSpot_50 : decode cX2_countFindOfSpot 50 = .ok (.return_, 1) := by decide +kernel
theorem dX2_countFalseCry_0 : decode cX2_countFalseCry 0 = .ok (.aload_n 0, 1) := by decide +kernel
theorem dX2_countFalseCry_1 : decode cX2_countFalseCry 1 = .ok (.dup, 1) := by decide +kernel
theorem dX2_countFalseCry_2 : decode cX2_countFalseCry 2 = .ok (.getfield 124, 3) := by decide +kernel
theorem dX2_countFalseCry_5 : decode cX2_countFalseCry 5 = .ok (.iconst 1, 1) := by decide +kernel
theorem dX2_countFalseCry_6 : decode cX2_countFalseCry 6 = .ok (.iadd, 1) := by decide +kernel
theorem dX2_countFalseCry_7 : decode cX2_countFalseCry 7 = .ok (.putfield 124, 3) := by decide +kernel
theorem dX2_countFalseCry_10 : decode cX2_countFalseCry 10 = .ok (.aload_n 0, 1) := by decide +kernel
theorem dX2_countFalseCry_11 : decode cX2_countFalseCry 11 = .ok (.aload_n 0, 1) := by decide +kernel
theorem dX2_countFalseCry_12 : decode cX2_countFalseCry 12 = .ok (.getfield 35, 3) := by decide +kernel
theorem dX2_countFalseCry_15 : decode cX2_countFalseCry 15 = .ok (.invokevirtual 32, 3) := by decide +kernel
theorem dX2_countFalseCry_18 : decode cX2_countFalseCry 18 = .ok (.ifCond .eq 29, 3) := by decide +kernel
theorem dX2_countFalseCry_21 : decode cX2_countFalseCry 21 = .ok (.aload_n 0, 1) := by decide +kernel
theorem dX2_countFalseCry_22 : decode cX2_countFalseCry 22 = .ok (.getfield 109, 3) := by decide +kernel
theorem dX2_countFalseCry_25 : decode cX2_countFalseCry 25 = .ok (.aload_n 0, 1) := by decide +kernel
theorem dX2_countFalseCry_26 : decode cX2_countFalseCry 26 = .ok (.getfield 35, 3) := by decide +kernel
theorem dX2_countFalseCry_29 : decode cX2_countFalseCry 29 = .ok (.dup2, 1) := by decide +kernel
theorem dX2_countFalseCry_30 : decode cX2_countFalseCry 30 = .ok (.iaload, 1) := by decide +kernel
theorem dX2_countFalseCry_31 : decode cX2_countFalseCry 31 = .ok (.iconst (-1), 1) := by decide +kernel
theorem dX2_countFalseCry_32 : decode cX2_countFalseCry 32 = .ok (.iadd, 1) := by decide +kernel
theorem dX2_countFalseCry_33 : decode cX2_countFalseCry 33 = .ok (.iastore, 1) := by decide +kernel
theorem dX2_countFalseCry_34 : decode cX2_countFalseCry 34 = .ok (.aload_n 0, 1) := by decide +kernel
theorem dX2_countFalseCry_35 : decode cX2_countFalseCry 35 = .ok (.getfield 127, 3) := by decide +kernel
theorem dX2_countFalseCry_38 : decode cX2_countFalseCry 38 = .ok (.aload_n 0, 1) := by decide +kernel
theorem dX2_countFalseCry_39 : decode cX2_countFalseCry 39 = .ok (.getfield 35, 3) := by decide +kernel
theorem dX2_countFalseCry_42 : decode cX2_countFalseCry 42 = .ok (.dup2, 1) := by decide +kernel
theorem dX2_countFalseCry_43 : decode cX2_countFalseCry 43 = .ok (.iaload, 1) := by decide +kernel
theorem dX2_countFalseCry_44 : decode cX2_countFalseCry 44 = .ok (.iconst 1, 1) := by decide +kernel
theorem dX2_countFalseCry_45 : decode cX2_countFalseCry 45 = .ok (.iadd, 1) := by decide +kernel
theorem dX2_countFalseCry_46 : decode cX2_countFalseCry 46 = .ok (.iastore, 1) := by decide +kernel
theorem dX2_countFalseCry_47 : decode cX2_countFalseCry 47 = .ok (.aload_n 0, 1) := by decide +kernel
theorem dX2_countFalseCry_48 : decode cX2_countFalseCry 48 = .ok (.getfield 124, 3) := by decide +kernel
theorem dX2_countFalseCry_51 : decode cX2_countFalseCry 51 = .ok (.aload_n 0, 1) := by decide +kernel
theorem dX2_countFalseCry_52 : decode cX2_countFalseCry 52 = .ok (.getfield 22, 3) := by decide +kernel
theorem dX2_countFalseCry_55 : decode cX2_countFalseCry 55 = .ok (.iconst 3, 1) := by decide +kernel
theorem dX2_countFalseCry_56 : decode cX2_countFalseCry 56 = .ok (.iaload, 1) := by decide +kernel
theorem dX2_countFalseCry_57 : decode cX2_countFalseCry 57 = .ok (.if_icmp .lt 11, 3) := by decide +kernel
theorem dX2_countFalseCry_60 : decode cX2_countFalseCry 60 = .ok (.aload_n 0, 1) := by decide +kernel
theorem dX2_countFalseCry_61 : decode cX2_countFalseCry 61 = .ok (.invokestatic 130, 3) := by decide +kernel
theorem dX2_countFalseCry_64 : decode cX2_countFalseCry 64 = .ok (.aload_n 0, 1) := by decide +kernel
theorem dX2_countFalseCry_65 : decode cX2_countFalseCry 65 = .ok (.invokestatic 133, 3) := by decide +kernel
theorem dX2_countFalseCry_68 : decode cX2_countFalseCry 68 = .ok (.return_, 1) := by decide +kernel
theorem dX2_letAllEscape_0 : decode cX2_letAllEscape 0 = .ok (.iconst 0, 1) := by decide +kernel
theorem dX2_letAllEscape_1 : decode cX2_letAllEscape 1 = .ok (.istore_n 1, 1) := by decide +kernel
theorem dX2_letAllEscape_2 : decode cX2_letAllEscape 2 = .ok (.iload_n 1, 1) := by decide +kernel
theorem dX2_letAllEscape_3 : decode cX2_letAllEscape 3 = .ok (.aload_n 0, 1) := by decide +kernel
theorem dX2_letAllEscape_4 : decode cX2_letAllEscape 4 = .ok (.getfield 29, 3) := by decide +kernel
theorem dX2_letAllEscape_7 : decode cX2_letAllEscape 7 = .ok (.if_icmp .ge 23, 3) := by decide +kernel
theorem dX2_letAllEscape_10 : decode cX2_letAllEscape 10 = .ok (.aload_n 0, 1) := by decide +kernel
theorem dX2_letAllEscape_11 : decode cX2_letAllEscape 11 = .ok (.iload_n 1, 1) := by decide +kernel
theorem dX2_letAllEscape_12 : decode cX2_letAllEscape 12 = .ok (.invokevirtual 58, 3) := by decide +kernel
theorem dX2_letAllEscape_15 : decode cX2_letAllEscape 15 = .ok (.ifCond .eq 9, 3) := by decide +kernel
theorem dX2_letAllEscape_18 : decode cX2_letAllEscape 18 = .ok (.aload_n 0, 1) := by decide +kernel
theorem dX2_letAllEscape_19 : decode cX2_letAllEscape 19 = .ok (.iload_n 1, 1) := by decide +kernel
theorem dX2_letAllEscape_20 : decode cX2_letAllEscape 20 = .ok (.iconst 1, 1) := by decide +kernel
theorem dX2_letAllEscape_21 : decode cX2_letAllEscape 21 = .ok (.invokestatic 106, 3) := by decide +kernel
theorem dX2_letAllEscape_24 : decode cX2_letAllEscape 24 = .ok (.iinc 1 1, 3) := by decide +kernel
theorem dX2_letAllEscape_27 : decode cX2_letAllEscape 27 = .ok (.goto (-25), 3) := by decide +kernel
theorem dX2_letAllEscape_30 : decode cX2_letAllEscape 30 = .ok (.return_, 1) := by decide +kernel
theorem dX2_escape_0 : decode cX2_escape 0 = .ok (.aload_n 0, 1) := by decide +kernel
theorem dX2_escape_1 : decode cX2_escape 1 = .ok (.getfield 67, 3) := by decide +kernel
theorem dX2_escape_4 : decode cX2_escape 4 = .ok (.iload_n 1, 1) := by decide +kernel
theorem dX2_escape_5 : decode cX2_escape 5 = .ok (.sipush (-10006), 3) := by decide +kernel
theorem dX2_escape_8 : decode cX2_escape 8 = .ok (.iastore, 1) := by decide +kernel
theorem dX2_escape_9 : decode cX2_escape 9 = .ok (.aload_n 0, 1) := by decide +kernel
theorem dX2_escape_10 : decode cX2_escape 10 = .ok (.getfield 109, 3) := by decide +kernel
theorem dX2_escape_13 : decode cX2_escape 13 = .ok (.iload_n 1, 1) := by decide +kernel
theorem dX2_escape_14 : decode cX2_escape 14 = .ok (.dup2, 1) := by decide +kernel
theorem dX2_escape_15 : decode cX2_escape 15 = .ok (.iaload, 1) := by decide +kernel
theorem dX2_escape_16 : decode cX2_escape 16 = .ok (.iload_n 2, 1) := by decide +kernel
theorem dX2_escape_17 : decode cX2_escape 17 = .ok (.iadd, 1) := by decide +kernel
theorem dX2_escape_18 : decode cX2_escape 18 = .ok (.iastore, 1) := by decide +kernel
theorem dX2_escape_19 : decode cX2_escape 19 = .ok (.aload_n 0, 1) := by decide +kernel
theorem dX2_escape_20 : decode cX2_escape 20 = .ok (.getfield 136, 3) := by decide +kernel
theorem dX2_escape_23 : decode cX2_escape 23 = .ok (.iload_n 1, 1) := by decide +kernel
theorem dX2_escape_24 : decode cX2_escape 24 = .ok (.dup2, 1) := by decide +kernel
theorem dX2_escape_25 : decode cX2_escape 25 = .ok (.iaload, 1) := by decide +kernel
theorem dX2_escape_26 : decode cX2_escape 26 = .ok (.iconst 1, 1) := by decide +kernel
theorem dX2_escape_27 : decode cX2_escape 27 = .ok (.iadd, 1) := by decide +kernel
theorem dX2_escape_28 : decode cX2_escape 28 = .ok (.iastore, 1) := by decide +kernel
theorem dX2_escape_29 : decode cX2_escape 29 = .ok (.return_, 1) := by decide +kernel
theorem dX2_endRoundIfNobodyIsHidden_0 : decode cX2_endRoundIfNobodyIsHidden 0 = .ok (.aload_n 0, 1) := by decide +kernel
theorem dX2_endRoundIfNobodyIsHidden_1 : decode cX2_endRoundIfNobodyIsHidden 1 = .ok (.invokevirtual 77, 3) := by decide +kernel
theorem dX2_endRoundIfNobodyIsHidden_4 : decode cX2_endRoundIfNobodyIsHidden 4 = .ok (.ifCond .ne 7, 3) := by decide +kernel
theorem dX2_endRoundIfNobodyIsHidden_7 : decode cX2_endRoundIfNobodyIsHidden 7 = .ok (.aload_n 0, 1) := by decide +kernel
theorem dX2_endRoundIfNobodyIsHidden_8 : decode cX2_endRoundIfNobodyIsHidden 8 = .ok (.invokestatic 133, 3) := by decide +kernel
theorem dX2_endRoundIfNobodyIsHidden_11 : decode cX2_endRoundIfNobodyIsHidden 11 = .ok (.return_, 1) := by decide +kernel
theorem dX2_endRound_0 : decode cX2_endRound 0 = .ok (.aload_n 0, 1) := by decide +kernel
theorem dX2_endRound_1 : decode cX2_endRound 1 = .ok (.iconst 0, 1) := by decide +kernel
theorem dX2_endRound_2 : decode cX2_endRound 2 = .ok (.putfield 25, 3) := by decide +kernel
theorem dX2_endRound_5 : decode cX2_endRound 5 = .ok (.aload_n 0, 1) := by decide +kernel
theorem dX2_endRound_6 : decode cX2_endRound 6 = .ok (.sipush (-10006), 3) := by decide +kernel
theorem dX2_endRound_9 : decode cX2_endRound 9 = .ok (.putfield 35, 3) := by decide +kernel
theorem dX2_endRound_12 : decode cX2_endRound 12 = .ok (.aload_n 0, 1) := by decide +kernel
theorem dX2_endRound_13 : decode cX2_endRound 13 = .ok (.sipush (-10006), 3) := by decide +kernel
theorem dX2_endRound_16 : decode cX2_endRound 16 = .ok (.putfield 38, 3) := by decide +kernel
theorem dX2_endRound_19 : decode cX2_endRound 19 = .ok (.aload_n 0, 1) := by decide +kernel
theorem dX2_endRound_20 : decode cX2_endRound 20 = .ok (.sipush (-10006), 3) := by decide +kernel
theorem dX2_endRound_23 : decode cX2_endRound 23 = .ok (.putfield 74, 3) := by decide +kernel
theorem dX2_endRound_26 : decode cX2_endRound 26 = .ok (.aload_n 0, 1) := by decide +kernel
theorem dX2_endRound_27 : decode cX2_endRound 27 = .ok (.iconst 0, 1) := by decide +kernel
theorem dX2_endRound_28 : decode cX2_endRound 28 = .ok (.putfield 124, 3) := by decide +kernel
theorem dX2_endRound_31 : decode cX2_endRound 31 = .ok (.aload_n 0, 1) := by decide +kernel
theorem dX2_endRound_32 : decode cX2_endRound 32 = .ok (.dup, 1) := by decide +kernel
theorem dX2_endRound_33 : decode cX2_endRound 33 = .ok (.getfield 139, 3) := by decide +kernel
theorem dX2_endRound_36 : decode cX2_endRound 36 = .ok (.iconst 1, 1) := by decide +kernel
theorem dX2_endRound_37 : decode cX2_endRound 37 = .ok (.iadd, 1) := by decide +kernel
theorem dX2_endRound_38 : decode cX2_endRound 38 = .ok (.putfield 139, 3) := by decide +kernel
theorem dX2_endRound_41 : decode cX2_endRound 41 = .ok (.iconst 0, 1) := by decide +kernel
theorem dX2_endRound_42 : decode cX2_endRound 42 = .ok (.istore_n 1, 1) := by decide +kernel
theorem dX2_endRound_43 : decode cX2_endRound 43 = .ok (.iload_n 1, 1) := by decide +kernel
theorem dX2_endRound_44 : decode cX2_endRound 44 = .ok (.bipush 16, 2) := by decide +kernel
theorem dX2_endRound_46 : decode cX2_endRound 46 = .ok (.if_icmp .ge 22, 3) := by decide +kernel
theorem dX2_endRound_49 : decode cX2_endRound 49 = .ok (.aload_n 0, 1) := by decide +kernel
theorem dX2_endRound_50 : decode cX2_endRound 50 = .ok (.iload_n 1, 1) := by decide +kernel
theorem dX2_endRound_51 : decode cX2_endRound 51 = .ok (.invokevirtual 118, 3) := by decide +kernel
theorem dX2_endRound_54 : decode cX2_endRound 54 = .ok (.ifCond .eq 8, 3) := by decide +kernel
theorem dX2_endRound_57 : decode cX2_endRound 57 = .ok (.aload_n 0, 1) := by decide +kernel
theorem dX2_endRound_58 : decode cX2_endRound 58 = .ok (.iload_n 1, 1) := by decide +kernel
theorem dX2_endRound_59 : decode cX2_endRound 59 = .ok (.invokestatic 142, 3) := by decide +kernel
theorem dX2_endRound_62 : decode cX2_endRound 62 = .ok (.iinc 1 1, 3) := by decide +kernel
theorem dX2_endRound_65 : decode cX2_endRound 65 = .ok (.goto (-22), 3) := by decide +kernel
theorem dX2_endRound_68 : decode cX2_endRound 68 = .ok (.return_, 1) := by decide +kernel
theorem dX2_restSpot_0 : decode cX2_restSpot 0 = .ok (.aload_n 0, 1) := by decide +kernel
theorem dX2_restSpot_1 : decode cX2_restSpot 1 = .ok (.getfield 121, 3) := by decide +kernel
theorem dX2_restSpot_4 : decode cX2_restSpot 4 = .ok (.iload_n 1, 1) := by decide +kernel
theorem dX2_restSpot_5 : decode cX2_restSpot 5 = .ok (.dup2, 1) := by decide +kernel
theorem dX2_restSpot_6 : decode cX2_restSpot 6 = .ok (.iaload, 1) := by decide +kernel
theorem dX2_restSpot_7 : decode cX2_restSpot 7 = .ok (.iconst 1, 1) := by decide +kernel
theorem dX2_restSpot_8 : decode cX2_restSpot 8 = .ok (.iadd, 1) := by decide +kernel
theorem dX2_restSpot_9 : decode cX2_restSpot 9 = .ok (.iastore, 1) := by decide +kernel
theorem dX2_restSpot_10 : decode cX2_restSpot 10 = .ok (.aload_n 0, 1) := by decide +kernel
theorem dX2_restSpot_11 : decode cX2_restSpot 11 = .ok (.getfield 22, 3) := by decide +kernel
theorem dX2_restSpot_14 : decode cX2_restSpot 14 = .ok (.iconst 2, 1) := by decide +kernel
theorem dX2_restSpot_15 : decode cX2_restSpot 15 = .ok (.iaload, 1) := by decide +kernel
theorem dX2_restSpot_16 : decode cX2_restSpot 16 = .ok (.istore_n 2, 1) := by decide +kernel
theorem dX2_restSpot_17 : decode cX2_restSpot 17 = .ok (.iload_n 2, 1) := by decide +kernel
theorem dX2_restSpot_18 : decode cX2_restSpot 18 = .ok (.ifCond .eq 27, 3) := by decide +kernel
theorem dX2_restSpot_21 : decode cX2_restSpot 21 = .ok (.aload_n 0, 1) := by decide +kernel
theorem dX2_restSpot_22 : decode cX2_restSpot 22 = .ok (.getfield 121, 3) := by decide +kernel
theorem dX2_restSpot_25 : decode cX2_restSpot 25 = .ok (.iload_n 1, 1) := by decide +kernel
theorem dX2_restSpot_26 : decode cX2_restSpot 26 = .ok (.iaload, 1) := by decide +kernel
theorem dX2_restSpot_27 : decode cX2_restSpot 27 = .ok (.iload_n 2, 1) := by decide +kernel
theorem dX2_restSpot_28 : decode cX2_restSpot 28 = .ok (.if_icmp .lt 17, 3) := by decide +kernel
theorem dX2_restSpot_31 : decode cX2_restSpot 31 = .ok (.aload_n 0, 1) := by decide +kernel
theorem dX2_restSpot_32 : decode cX2_restSpot 32 = .ok (.getfield 121, 3) := by decide +kernel
theorem dX2_restSpot_35 : decode cX2_restSpot 35 = .ok (.iload_n 1, 1) := by decide +kernel
theorem dX2_restSpot_36 : decode cX2_restSpot 36 = .ok (.iconst (-1), 1) := by decide +kernel
theorem dX2_restSpot_37 : decode cX2_restSpot 37 = .ok (.iastore, 1) := by decide +kernel
theorem dX2_restSpot_38 : decode cX2_restSpot 38 = .ok (.aload_n 0, 1) := by decide +kernel
theorem dX2_restSpot_39 : decode cX2_restSpot 39 = .ok (.getfield 115, 3) := by decide +kernel
theorem dX2_restSpot_42 : decode cX2_restSpot 42 = .ok (.iload_n 1, 1) := by decide +kernel
theorem dX2_restSpot_43 : decode cX2_restSpot 43 = .ok (.iconst 0, 1) := by decide +kernel
theorem dX2_restSpot_44 : decode cX2_restSpot 44 = .ok (.iastore, 1) := by decide +kernel
theorem dX2_restSpot_45 : decode cX2_restSpot 45 = .ok (.return_, 1) := by decide +kernel
theorem dX3_init_0 : decode cX3_init 0 = .ok (.aload_n 0, 1) := by decide +kernel
theorem dX3_init_1 : decode cX3_init 1 = .ok (.invokespecial 3, 3) := by decide +kernel
theorem dX3_init_4 : decode cX3_init 4 = .ok (.aload_n 0, 1) := by decide +kernel
theorem dX3_init_5 : decode cX3_init 5 = .ok (.bipush 6, 2) := by decide +kernel
theorem dX3_init_7 : decode cX3_init 7 = .ok (.anewarray 9, 3) := by decide +kernel
theorem dX3_init_10 : decode cX3_init 10 = .ok (.putfield 11, 3) := by decide +kernel
theorem dX3_init_13 : decode cX3_init 13 = .ok (.aload_n 0, 1) := by decide +kernel
theorem dX3_init_14 : decode cX3_init 14 = .ok (.iconst 0, 1) := by decide +kernel
theorem dX3_init_15 : decode cX3_init 15 = .ok (.putfield 17, 3) := by decide +kernel
theorem dX3_init_18 : decode cX3_init 18 = .ok (.iconst 0, 1) := by decide +kernel
theorem dX3_init_19 : decode cX3_init 19 = .ok (.istore_n 1, 1) := by decide +kernel
theorem dX3_init_20 : decode cX3_init 20 = .ok (.iload_n 1, 1) := by decide +kernel
theorem dX3_init_21 : decode cX3_init 21 = .ok (.aload_n 0, 1) := by decide +kernel
theorem dX3_init_22 : decode cX3_init 22 = .ok (.getfield 11, 3) := by decide +kernel
theorem dX3_init_25 : decode cX3_init 25 = .ok (.arraylength, 1) := by decide +kernel
theorem dX3_init_26 : decode cX3_init 26 = .ok (.if_icmp .ge 22, 3) := by decide +kernel
theorem dX3_init_29 : decode cX3_init 29 = .ok (.aload_n 0, 1) := by decide +kernel
theorem dX3_init_30 : decode cX3_init 30 = .ok (.getfield 11, 3) := by decide +kernel
theorem dX3_init_33 : decode cX3_init 33 = .ok (.iload_n 1, 1) := by decide +kernel
theorem dX3_init_34 : decode cX3_init 34 = .ok (.new 9, 3) := by decide +kernel
theorem dX3_init_37 : decode cX3_init 37 = .ok (.dup, 1) := by decide +kernel
theorem dX3_init_38 : decode cX3_init 38 = .ok (.invokespecial 21, 3) := by decide +kernel
theorem dX3_init_41 : decode cX3_init 41 = .ok (.aastore, 1) := by decide +kernel
theorem dX3_init_42 : decode cX3_init 42 = .ok (.iinc 1 1, 3) := by decide +kernel
theorem dX3_init_45 : decode cX3_init 45 = .ok (.goto (-25), 3) := by decide +kernel
theorem dX3_init_48 : decode cX3_init 48 = .ok (.return_, 1) := by decide +kernel
theorem dX3_draft_0 : decode cX3_draft 0 = .ok (.aload_n 0, 1) := by decide +kernel
theorem dX3_draft_1 : decode cX3_draft 1 = .ok (.getfield 11, 3) := by decide +kernel
theorem dX3_draft_4 : decode cX3_draft 4 = .ok (.aload_n 0, 1) := by decide +kernel
theorem dX3_draft_5 : decode cX3_draft 5 = .ok (.getfield 17, 3) := by decide +kernel
theorem dX3_draft_8 : decode cX3_draft 8 = .ok (.aaload, 1) := by decide +kernel
theorem dX3_draft_9 : decode cX3_draft 9 = .ok (.aload_n 1, 1) := by decide +kernel
theorem dX3_draft_10 : decode cX3_draft 10 = .ok (.invokevirtual 22, 3) := by decide +kernel
theorem dX3_draft_13 : decode cX3_draft 13 = .ok (.return_, 1) := by decide +kernel
theorem dX3_keep_0 : decode cX3_keep 0 = .ok (.iload_n 1, 1) := by decide +kernel
theorem dX3_keep_1 : decode cX3_keep 1 = .ok (.ifCond .ge 5, 3) := by decide +kernel
theorem dX3_keep_4 : decode cX3_keep 4 = .ok (.iload_n 1, 1) := by decide +kernel
theorem dX3_keep_5 : decode cX3_keep 5 = .ok (.ireturn, 1) := by decide +kernel
theorem dX3_keep_6 : decode cX3_keep 6 = .ok (.aload_n 0, 1) := by decide +kernel
theorem dX3_keep_7 : decode cX3_keep 7 = .ok (.getfield 17, 3) := by decide +kernel
theorem dX3_keep_10 : decode cX3_keep 10 = .ok (.iconst 5, 1) := by decide +kernel
theorem dX3_keep_11 : decode cX3_keep 11 = .ok (.if_icmp .ge 16, 3) := by decide +kernel
theorem dX3_keep_14 : decode cX3_keep 14 = .ok (.aload_n 0, 1) := by decide +kernel
theorem dX3_keep_15 : decode cX3_keep 15 = .ok (.dup, 1) := by decide +kernel
theorem dX3_keep_16 : decode cX3_keep 16 = .ok (.getfield 17, 3) := by decide +kernel
theorem dX3_keep_19 : decode cX3_keep 19 = .ok (.iconst 1, 1) := by decide +kernel
theorem dX3_keep_20 : decode cX3_keep 20 = .ok (.iadd, 1) := by decide +kernel
theorem dX3_keep_21 : decode cX3_keep 21 = .ok (.putfield 17, 3) := by decide +kernel
theorem dX3_keep_24 : decode cX3_keep 24 = .ok (.goto 7, 3) := by decide +kernel
theorem dX3_keep_27 : decode cX3_keep 27 = .ok (.aload_n 0, 1) := by decide +kernel
theorem dX3_keep_28 : decode cX3_keep 28 = .ok (.invokevirtual 26, 3) := by decide +kernel
theorem dX3_keep_31 : decode cX3_keep 31 = .ok (.iload_n 1, 1) := by decide +kernel
theorem dX3_keep_32 : decode cX3_keep 32 = .ok (.ireturn, 1) := by decide +kernel
theorem dX3_discardOldest_0 : decode cX3_discardOldest 0 = .ok (.aload_n 0, 1) := by decide +kernel
theorem dX3_discardOldest_1 : decode cX3_discardOldest 1 = .ok (.getfield 11, 3) := by decide +kernel
theorem dX3_discardOldest_4 : decode cX3_discardOldest 4 = .ok (.iconst 0, 1) := by decide +kernel
theorem dX3_discardOldest_5 : decode cX3_discardOldest 5 = .ok (.aaload, 1) := by decide +kernel
theorem dX3_discardOldest_6 : decode cX3_discardOldest 6 = .ok (.astore_n 1, 1) := by decide +kernel
theorem dX3_discardOldest_7 : decode cX3_discardOldest 7 = .ok (.iconst 0, 1) := by decide +kernel
theorem dX3_discardOldest_8 : decode cX3_discardOldest 8 = .ok (.istore_n 2, 1) := by decide +kernel
theorem dX3_discardOldest_9 : decode cX3_discardOldest 9 = .ok (.iload_n 2, 1) := by decide +kernel
theorem dX3_discardOldest_10 : decode cX3_discardOldest 10 = .ok (.iconst 5, 1) := by decide +kernel
theorem dX3_discardOldest_11 : decode cX3_discardOldest 11 = .ok (.if_icmp .ge 23, 3) := by decide +kernel
theorem dX3_discardOldest_14 : decode cX3_discardOldest 14 = .ok (.aload_n 0, 1) := by decide +kernel
theorem dX3_discardOldest_15 : decode cX3_discardOldest 15 = .ok (.getfield 11, 3) := by decide +kernel
theorem dX3_discardOldest_18 : decode cX3_discardOldest 18 = .ok (.iload_n 2, 1) := by decide +kernel
theorem dX3_discardOldest_19 : decode cX3_discardOldest 19 = .ok (.aload_n 0, 1) := by decide +kernel
theorem dX3_discardOldest_20 : decode cX3_discardOldest 20 = .ok (.getfield 11, 3) := by decide +kernel
theorem dX3_discardOldest_23 : decode cX3_discardOldest 23 = .ok (.iload_n 2, 1) := by decide +kernel
theorem dX3_discardOldest_24 : decode cX3_discardOldest 24 = .ok (.iconst 1, 1) := by decide +kernel
theorem dX3_discardOldest_25 : decode cX3_discardOldest 25 = .ok (.iadd, 1) := by decide +kernel
theorem dX3_discardOldest_26 : decode cX3_discardOldest 26 = .ok (.aaload, 1) := by decide +kernel
theorem dX3_discardOldest_27 : decode cX3_discardOldest 27 = .ok (.aastore, 1) := by decide +kernel
theorem dX3_discardOldest_28 : decode cX3_discardOldest 28 = .ok (.iinc 2 1, 3) := by decide +kernel
theorem dX3_discardOldest_31 : decode cX3_discardOldest 31 = .ok (.goto (-22), 3) := by decide +kernel
theorem dX3_discardOldest_34 : decode cX3_discardOldest 34 = .ok (.aload_n 0, 1) := by decide +kernel
theorem dX3_discardOldest_35 : decode cX3_discardOldest 35 = .ok (.getfield 11, 3) := by decide +kernel
theorem dX3_discardOldest_38 : decode cX3_discardOldest 38 = .ok (.iconst 5, 1) := by decide +kernel
theorem dX3_discardOldest_39 : decode cX3_discardOldest 39 = .ok (.aload_n 1, 1) := by decide +kernel
theorem dX3_discardOldest_40 : decode cX3_discardOldest 40 = .ok (.aastore, 1) := by decide +kernel
theorem dX3_discardOldest_41 : decode cX3_discardOldest 41 = .ok (.return_, 1) := by decide +kernel
theorem dX4_isAhead_0 : decode cX4_isAhead 0 = .ok (.aload_n 0, 1) := by decide +kernel
theorem dX4_isAhead_1 : decode cX4_isAhead 1 = .ok (.getfield 9, 3) := by decide +kernel
theorem dX4_isAhead_4 : decode cX4_isAhead 4 = .ok (.iload_n 1, 1) := by decide +kernel
theorem dX4_isAhead_5 : decode cX4_isAhead 5 = .ok (.iaload, 1) := by decide +kernel
theorem dX4_isAhead_6 : decode cX4_isAhead 6 = .ok (.aload_n 0, 1) := by decide +kernel
theorem dX4_isAhead_7 : decode cX4_isAhead 7 = .ok (.getfield 9, 3) := by decide +kernel
theorem dX4_isAhead_10 : decode cX4_isAhead 10 = .ok (.iload_n 2, 1) := by decide +kernel
theorem dX4_isAhead_11 : decode cX4_isAhead 11 = .ok (.iaload, 1) := by decide +kernel
theorem dX4_isAhead_12 : decode cX4_isAhead 12 = .ok (.if_icmp .eq 24, 3) := by decide +kernel
theorem dX4_isAhead_15 : decode cX4_isAhead 15 = .ok (.aload_n 0, 1) := by decide +kernel
theorem dX4_isAhead_16 : decode cX4_isAhead 16 = .ok (.getfield 9, 3) := by decide +kernel
theorem dX4_isAhead_19 : decode cX4_isAhead 19 = .ok (.iload_n 1, 1) := by decide +kernel
theorem dX4_isAhead_20 : decode cX4_isAhead 20 = .ok (.iaload, 1) := by decide +kernel
theorem dX4_isAhead_21 : decode cX4_isAhead 21 = .ok (.aload_n 0, 1) := by decide +kernel
theorem dX4_isAhead_22 : decode cX4_isAhead 22 = .ok (.getfield 9, 3) := by decide +kernel
theorem dX4_isAhead_25 : decode cX4_isAhead 25 = .ok (.iload_n 2, 1) := by decide +kernel
theorem dX4_isAhead_26 : decode cX4_isAhead 26 = .ok (.iaload, 1) := by decide +kernel
theorem dX4_isAhead_27 : decode cX4_isAhead 27 = .ok (.if_icmp .le 7, 3) := by decide +kernel
theorem dX4_isAhead_30 : decode cX4_isAhead 30 = .ok (.iconst 1, 1) := by decide +kernel
theorem dX4_isAhead_31 : decode cX4_isAhead 31 = .ok (.goto 4, 3) := by decide +kernel
theorem dX4_isAhead_34 : decode cX4_isAhead 34 = .ok (.iconst 0, 1) := by decide +kernel
theorem dX4_isAhead_35 : decode cX4_isAhead 35 = .ok (.ireturn, 1) := by decide +kernel
theorem dX4_isAhead_36 : decode cX4_isAhead 36 = .ok (.aload_n 0, 1) := by decide +kernel
theorem dX4_isAhead_37 : decode cX4_isAhead 37 = .ok (.getfield 15, 3) := by decide +kernel
theorem dX4_isAhead_40 : decode cX4_isAhead 40 = .ok (.iload_n 1, 1) := by decide +kernel
theorem dX4_isAhead_41 : decode cX4_isAhead 41 = .ok (.iaload, 1) := by decide +kernel
theorem dX4_isAhead_42 : decode cX4_isAhead 42 = .ok (.aload_n 0, 1) := by decide +kernel
theorem dX4_isAhead_43 : decode cX4_isAhead 43 = .ok (.getfield 15, 3) := by decide +kernel
theorem dX4_isAhead_46 : decode cX4_isAhead 46 = .ok (.iload_n 2, 1) := by decide +kernel
theorem dX4_isAhead_47 : decode cX4_isAhead 47 = .ok (.iaload, 1) := by decide +kernel
theorem dX4_isAhead_48 : decode cX4_isAhead 48 = .ok (.if_icmp .eq 24, 3) := by decide +kernel
theorem dX4_isAhead_51 : decode cX4_isAhead 51 = .ok (.aload_n 0, 1) := by decide +kernel
theorem dX4_isAhead_52 : decode cX4_isAhead 52 = .ok (.getfield 15, 3) := by decide +kernel
theorem dX4_isAhead_55 : decode cX4_isAhead 55 = .ok (.iload_n 1, 1) := by decide +kernel
theorem dX4_isAhead_56 : decode cX4_isAhead 56 = .ok (.iaload, 1) := by decide +kernel
theorem dX4_isAhead_57 : decode cX4_isAhead 57 = .ok (.aload_n 0, 1) := by decide +kernel
theorem dX4_isAhead_58 : decode cX4_isAhead 58 = .ok (.getfield 15, 3) := by decide +kernel
theorem dX4_isAhead_61 : decode cX4_isAhead 61 = .ok (.iload_n 2, 1) := by decide +kernel
theorem dX4_isAhead_62 : decode cX4_isAhead 62 = .ok (.iaload, 1) := by decide +kernel
theorem dX4_isAhead_63 : decode cX4_isAhead 63 = .ok (.if_icmp .ge 7, 3) := by decide +kernel
theorem dX4_isAhead_66 : decode cX4_isAhead 66 = .ok (.iconst 1, 1) := by decide +kernel
theorem dX4_isAhead_67 : decode cX4_isAhead 67 = .ok (.goto 4, 3) := by decide +kernel
theorem dX4_isAhead_70 : decode cX4_isAhead 70 = .ok (.iconst 0, 1) := by decide +kernel
theorem dX4_isAhead_71 : decode cX4_isAhead 71 = .ok (.ireturn, 1) := by decide +kernel
theorem dX4_isAhead_72 : decode cX4_isAhead 72 = .ok (.iload_n 1, 1) := by decide +kernel
theorem dX4_isAhead_73 : decode cX4_isAhead 73 = .ok (.iload_n 2, 1) := by decide +kernel
theorem dX4_isAhead_74 : decode cX4_isAhead 74 = .ok (.if_icmp .ge 7, 3) := by decide +kernel
theorem dX4_isAhead_77 : decode cX4_isAhead 77 = .ok (.iconst 1, 1) := by decide +kernel
theorem dX4_isAhead_78 : decode cX4_isAhead 78 = .ok (.goto 4, 3) := by decide +kernel
theorem dX4_isAhead_81 : decode cX4_isAhead 81 = .ok (.iconst 0, 1) := by decide +kernel
theorem dX4_isAhead_82 : decode cX4_isAhead 82 = .ok (.ireturn, 1) := by decide +kernel
theorem dX4_placeOf_0 : decode cX4_placeOf 0 = .ok (.iconst 0, 1) := by decide +kernel
theorem dX4_placeOf_1 : decode cX4_placeOf 1 = .ok (.istore_n 2, 1) := by decide +kernel
theorem dX4_placeOf_2 : decode cX4_placeOf 2 = .ok (.iconst 0, 1) := by decide +kernel
theorem dX4_placeOf_3 : decode cX4_placeOf 3 = .ok (.istore_n 3, 1) := by decide +kernel
theorem dX4_placeOf_4 : decode cX4_placeOf 4 = .ok (.iload_n 3, 1) := by decide +kernel
theorem dX4_placeOf_5 : decode cX4_placeOf 5 = .ok (.aload_n 0, 1) := by decide +kernel
theorem dX4_placeOf_6 : decode cX4_placeOf 6 = .ok (.getfield 18, 3) := by decide +kernel
theorem dX4_placeOf_9 : decode cX4_placeOf 9 = .ok (.if_icmp .ge 21, 3) := by decide +kernel
theorem dX4_placeOf_12 : decode cX4_placeOf 12 = .ok (.aload_n 0, 1) := by decide +kernel
theorem dX4_placeOf_13 : decode cX4_placeOf 13 = .ok (.iload_n 3, 1) := by decide +kernel
theorem dX4_placeOf_14 : decode cX4_placeOf 14 = .ok (.iload_n 1, 1) := by decide +kernel
theorem dX4_placeOf_15 : decode cX4_placeOf 15 = .ok (.invokestatic 22, 3) := by decide +kernel
theorem dX4_placeOf_18 : decode cX4_placeOf 18 = .ok (.ifCond .eq 6, 3) := by decide +kernel
theorem dX4_placeOf_21 : decode cX4_placeOf 21 = .ok (.iinc 2 1, 3) := by decide +kernel
theorem dX4_placeOf_24 : decode cX4_placeOf 24 = .ok (.iinc 3 1, 3) := by decide +kernel
theorem dX4_placeOf_27 : decode cX4_placeOf 27 = .ok (.goto (-23), 3) := by decide +kernel
theorem dX4_placeOf_30 : decode cX4_placeOf 30 = .ok (.iload_n 2, 1) := by decide +kernel
theorem dX4_placeOf_31 : decode cX4_placeOf 31 = .ok (.ireturn, 1) := by decide +kernel
theorem dX4_playerAt_0 : decode cX4_playerAt 0 = .ok (.iconst 0, 1) := by decide +kernel
theorem dX4_playerAt_1 : decode cX4_playerAt 1 = .ok (.istore_n 2, 1) := by decide +kernel
theorem dX4_playerAt_2 : decode cX4_playerAt 2 = .ok (.iload_n 2, 1) := by decide +kernel
theorem dX4_playerAt_3 : decode cX4_playerAt 3 = .ok (.aload_n 0, 1) := by decide +kernel
theorem dX4_playerAt_4 : decode cX4_playerAt 4 = .ok (.getfield 18, 3) := by decide +kernel
theorem dX4_playerAt_7 : decode cX4_playerAt 7 = .ok (.if_icmp .ge 20, 3) := by decide +kernel
theorem dX4_playerAt_10 : decode cX4_playerAt 10 = .ok (.aload_n 0, 1) := by decide +kernel
theorem dX4_playerAt_11 : decode cX4_playerAt 11 = .ok (.iload_n 2, 1) := by decide +kernel
theorem dX4_playerAt_12 : decode cX4_playerAt 12 = .ok (.invokestatic 28, 3) := by decide +kernel
theorem dX4_playerAt_15 : decode cX4_playerAt 15 = .ok (.iload_n 1, 1) := by decide +kernel
theorem dX4_playerAt_16 : decode cX4_playerAt 16 = .ok (.if_icmp .ne 5, 3) := by decide +kernel
theorem dX4_playerAt_19 : decode cX4_playerAt 19 = .ok (.iload_n 2, 1) := by decide +kernel
theorem dX4_playerAt_20 : decode cX4_playerAt 20 = .ok (.ireturn, 1) := by decide +kernel
theorem dX4_playerAt_21 : decode cX4_playerAt 21 = .ok (.iinc 2 1, 3) := by decide +kernel
theorem dX4_playerAt_24 : decode cX4_playerAt 24 = .ok (.goto (-22), 3) := by decide +kernel
theorem dX4_playerAt_27 : decode cX4_playerAt 27 = .ok (.sipush (-10001), 3) := by decide +kernel
theorem dX4_playerAt_30 : decode cX4_playerAt 30 = .ok (.ireturn, 1) := by decide +kernel
theorem dX4_seekerOfNextRound_0 : decode cX4_seekerOfNextRound 0 = .ok (.sipush (-10006), 3) := by decide +kernel
theorem dX4_seekerOfNextRound_3 : decode cX4_seekerOfNextRound 3 = .ok (.istore_n 1, 1) := by decide +kernel
theorem dX4_seekerOfNextRound_4 : decode cX4_seekerOfNextRound 4 = .ok (.iconst 0, 1) := by decide +kernel
theorem dX4_seekerOfNextRound_5 : decode cX4_seekerOfNextRound 5 = .ok (.istore_n 2, 1) := by decide +kernel
theorem dX4_seekerOfNextRound_6 : decode cX4_seekerOfNextRound 6 = .ok (.iload_n 2, 1) := by decide +kernel
theorem dX4_seekerOfNextRound_7 : decode cX4_seekerOfNextRound 7 = .ok (.aload_n 0, 1) := by decide +kernel
theorem dX4_seekerOfNextRound_8 : decode cX4_seekerOfNextRound 8 = .ok (.getfield 18, 3) := by decide +kernel
theorem dX4_seekerOfNextRound_11 : decode cX4_seekerOfNextRound 11 = .ok (.if_icmp .ge 28, 3) := by decide +kernel
theorem dX4_seekerOfNextRound_14 : decode cX4_seekerOfNextRound 14 = .ok (.aload_n 0, 1) := by decide +kernel
theorem dX4_seekerOfNextRound_15 : decode cX4_seekerOfNextRound 15 = .ok (.iload_n 1, 1) := by decide +kernel
theorem dX4_seekerOfNextRound_16 : decode cX4_seekerOfNextRound 16 = .ok (.invokevirtual 32, 3) := by decide +kernel
theorem dX4_seekerOfNextRound_19 : decode cX4_seekerOfNextRound 19 = .ok (.ifCond .eq 12, 3) := by decide +kernel
theorem dX4_seekerOfNextRound_22 : decode cX4_seekerOfNextRound 22 = .ok (.aload_n 0, 1) := by decide +kernel
theorem dX4_seekerOfNextRound_23 : decode cX4_seekerOfNextRound 23 = .ok (.iload_n 2, 1) := by decide +kernel
theorem dX4_seekerOfNextRound_24 : decode cX4_seekerOfNextRound 24 = .ok (.iload_n 1, 1) := by decide +kernel
theorem dX4_seekerOfNextRound_25 : decode cX4_seekerOfNextRound 25 = .ok (.invokestatic 36, 3) := by decide +kernel
theorem dX4_seekerOfNextRound_28 : decode cX4_seekerOfNextRound 28 = .ok (.ifCond .eq 5, 3) := by decide +kernel
theorem dX4_seekerOfNextRound_31 : decode cX4_seekerOfNextRound 31 = .ok (.iload_n 2, 1) := by decide +kernel
theorem dX4_seekerOfNextRound_32 : decode cX4_seekerOfNextRound 32 = .ok (.istore_n 1, 1) := by decide +kernel
theorem dX4_seekerOfNextRound_33 : decode cX4_seekerOfNextRound 33 = .ok (.iinc 2 1, 3) := by decide +kernel
theorem dX4_seekerOfNextRound_36 : decode cX4_seekerOfNextRound 36 = .ok (.goto (-30), 3) := by decide +kernel
theorem dX4_seekerOfNextRound_39 : decode cX4_seekerOfNextRound 39 = .ok (.iload_n 1, 1) := by decide +kernel
theorem dX4_seekerOfNextRound_40 : decode cX4_seekerOfNextRound 40 = .ok (.ireturn, 1) := by decide +kernel
theorem dX4_seeksSooner_0 : decode cX4_seeksSooner 0 = .ok (.aload_n 0, 1) := by decide +kernel
theorem dX4_seeksSooner_1 : decode cX4_seeksSooner 1 = .ok (.getfield 39, 3) := by decide +kernel
theorem dX4_seeksSooner_4 : decode cX4_seeksSooner 4 = .ok (.iload_n 1, 1) := by decide +kernel
theorem dX4_seeksSooner_5 : decode cX4_seeksSooner 5 = .ok (.iaload, 1) := by decide +kernel
theorem dX4_seeksSooner_6 : decode cX4_seeksSooner 6 = .ok (.aload_n 0, 1) := by decide +kernel
theorem dX4_seeksSooner_7 : decode cX4_seeksSooner 7 = .ok (.getfield 39, 3) := by decide +kernel
theorem dX4_seeksSooner_10 : decode cX4_seeksSooner 10 = .ok (.iload_n 2, 1) := by decide +kernel
theorem dX4_seeksSooner_11 : decode cX4_seeksSooner 11 = .ok (.iaload, 1) := by decide +kernel
theorem dX4_seeksSooner_12 : decode cX4_seeksSooner 12 = .ok (.if_icmp .eq 24, 3) := by decide +kernel
theorem dX4_seeksSooner_15 : decode cX4_seeksSooner 15 = .ok (.aload_n 0, 1) := by decide +kernel
theorem dX4_seeksSooner_16 : decode cX4_seeksSooner 16 = .ok (.getfield 39, 3) := by decide +kernel
theorem dX4_seeksSooner_19 : decode cX4_seeksSooner 19 = .ok (.iload_n 1, 1) := by decide +kernel
theorem dX4_seeksSooner_20 : decode cX4_seeksSooner 20 = .ok (.iaload, 1) := by decide +kernel
theorem dX4_seeksSooner_21 : decode cX4_seeksSooner 21 = .ok (.aload_n 0, 1) := by decide +kernel
theorem dX4_seeksSooner_22 : decode cX4_seeksSooner 22 = .ok (.getfield 39, 3) := by decide +kernel
theorem dX4_seeksSooner_25 : decode cX4_seeksSooner 25 = .ok (.iload_n 2, 1) := by decide +kernel
theorem dX4_seeksSooner_26 : decode cX4_seeksSooner 26 = .ok (.iaload, 1) := by decide +kernel
theorem dX4_seeksSooner_27 : decode cX4_seeksSooner 27 = .ok (.if_icmp .ge 7, 3) := by decide +kernel
theorem dX4_seeksSooner_30 : decode cX4_seeksSooner 30 = .ok (.iconst 1, 1) := by decide +kernel
theorem dX4_seeksSooner_31 : decode cX4_seeksSooner 31 = .ok (.goto 4, 3) := by decide +kernel
theorem dX4_seeksSooner_34 : decode cX4_seeksSooner 34 = .ok (.iconst 0, 1) := by decide +kernel
theorem dX4_seeksSooner_35 : decode cX4_seeksSooner 35 = .ok (.ireturn, 1) := by decide +kernel
theorem dX4_seeksSooner_36 : decode cX4_seeksSooner 36 = .ok (.aload_n 0, 1) := by decide +kernel
theorem dX4_seeksSooner_37 : decode cX4_seeksSooner 37 = .ok (.iload_n 2, 1) := by decide +kernel
theorem dX4_seeksSooner_38 : decode cX4_seeksSooner 38 = .ok (.iload_n 1, 1) := by decide +kernel
theorem dX4_seeksSooner_39 : decode cX4_seeksSooner 39 = .ok (.invokestatic 22, 3) := by decide +kernel
theorem dX4_seeksSooner_42 : decode cX4_seeksSooner 42 = .ok (.ireturn, 1) := by decide +kernel
theorem dX5_init_0 : decode cX5_init 0 = .ok (.aload_n 0, 1) := by decide +kernel
theorem dX5_init_1 : decode cX5_init 1 = .ok (.invokespecial 3, 3) := by decide +kernel
theorem dX5_init_4 : decode cX5_init 4 = .ok (.aload_n 0, 1) := by decide +kernel
theorem dX5_init_5 : decode cX5_init 5 = .ok (.iconst 4, 1) := by decide +kernel
theorem dX5_init_6 : decode cX5_init 6 = .ok (.newarray .int, 2) := by decide +kernel
theorem dX5_init_8 : decode cX5_init 8 = .ok (.dup, 1) := by decide +kernel
theorem dX5_init_9 : decode cX5_init 9 = .ok (.iconst 0, 1) := by decide +kernel
theorem dX5_init_10 : decode cX5_init 10 = .ok (.iconst 1, 1) := by decide +kernel
theorem dX5_init_11 : decode cX5_init 11 = .ok (.iastore, 1) := by decide +kernel
theorem dX5_init_12 : decode cX5_init 12 = .ok (.dup, 1) := by decide +kernel
theorem dX5_init_13 : decode cX5_init 13 = .ok (.iconst 1, 1) := by decide +kernel
theorem dX5_init_14 : decode cX5_init 14 = .ok (.iconst 2, 1) := by decide +kernel
theorem dX5_init_15 : decode cX5_init 15 = .ok (.iastore, 1) := by decide +kernel
theorem dX5_init_16 : decode cX5_init 16 = .ok (.dup, 1) := by decide +kernel
theorem dX5_init_17 : decode cX5_init 17 = .ok (.iconst 2, 1) := by decide +kernel
theorem dX5_init_18 : decode cX5_init 18 = .ok (.iconst 2, 1) := by decide +kernel
theorem dX5_init_19 : decode cX5_init 19 = .ok (.iastore, 1) := by decide +kernel
theorem dX5_init_20 : decode cX5_init 20 = .ok (.dup, 1) := by decide +kernel
theorem dX5_init_21 : decode cX5_init 21 = .ok (.iconst 3, 1) := by decide +kernel
theorem dX5_init_22 : decode cX5_init 22 = .ok (.iconst 2, 1) := by decide +kernel
theorem dX5_init_23 : decode cX5_init 23 = .ok (.iastore, 1) := by decide +kernel
theorem dX5_init_24 : decode cX5_init 24 = .ok (.putfield 9, 3) := by decide +kernel
theorem dX5_init_27 : decode cX5_init 27 = .ok (.aload_n 0, 1) := by decide +kernel
theorem dX5_init_28 : decode cX5_init 28 = .ok (.bipush 8, 2) := by decide +kernel
theorem dX5_init_30 : decode cX5_init 30 = .ok (.newarray .int, 2) := by decide +kernel
theorem dX5_init_32 : decode cX5_init 32 = .ok (.putfield 15, 3) := by decide +kernel
theorem dX5_init_35 : decode cX5_init 35 = .ok (.aload_n 0, 1) := by decide +kernel
theorem dX5_init_36 : decode cX5_init 36 = .ok (.bipush 8, 2) := by decide +kernel
theorem dX5_init_38 : decode cX5_init 38 = .ok (.newarray .int, 2) := by decide +kernel
theorem dX5_init_40 : decode cX5_init 40 = .ok (.putfield 18, 3) := by decide +kernel
theorem dX5_init_43 : decode cX5_init 43 = .ok (.aload_n 0, 1) := by decide +kernel
theorem dX5_init_44 : decode cX5_init 44 = .ok (.bipush 8, 2) := by decide +kernel
theorem dX5_init_46 : decode cX5_init 46 = .ok (.newarray .int, 2) := by decide +kernel
theorem dX5_init_48 : decode cX5_init 48 = .ok (.putfield 21, 3) := by decide +kernel
theorem dX5_init_51 : decode cX5_init 51 = .ok (.aload_n 0, 1) := by decide +kernel
theorem dX5_init_52 : decode cX5_init 52 = .ok (.bipush 8, 2) := by decide +kernel
theorem dX5_init_54 : decode cX5_init 54 = .ok (.newarray .int, 2) := by decide +kernel
theorem dX5_init_56 : decode cX5_init 56 = .ok (.putfield 24, 3) := by decide +kernel
theorem dX5_init_59 : decode cX5_init 59 = .ok (.aload_n 0, 1) := by decide +kernel
theorem dX5_init_60 : decode cX5_init 60 = .ok (.bipush 8, 2) := by decide +kernel
theorem dX5_init_62 : decode cX5_init 62 = .ok (.newarray .int, 2) := by decide +kernel
theorem dX5_init_64 : decode cX5_init 64 = .ok (.putfield 27, 3) := by decide +kernel
theorem dX5_init_67 : decode cX5_init 67 = .ok (.aload_n 0, 1) := by decide +kernel
theorem dX5_init_68 : decode cX5_init 68 = .ok (.bipush 8, 2) := by decide +kernel
theorem dX5_init_70 : decode cX5_init 70 = .ok (.newarray .int, 2) := by decide +kernel
theorem dX5_init_72 : decode cX5_init 72 = .ok (.putfield 30, 3) := by decide +kernel
theorem dX5_init_75 : decode cX5_init 75 = .ok (.aload_n 0, 1) := by decide +kernel
theorem dX5_init_76 : decode cX5_init 76 = .ok (.bipush 16, 2) := by decide +kernel
theorem dX5_init_78 : decode cX5_init 78 = .ok (.newarray .int, 2) := by decide +kernel
theorem dX5_init_80 : decode cX5_init 80 = .ok (.putfield 35, 3) := by decide +kernel
theorem dX5_init_83 : decode cX5_init 83 = .ok (.aload_n 0, 1) := by decide +kernel
theorem dX5_init_84 : decode cX5_init 84 = .ok (.bipush 16, 2) := by decide +kernel
theorem dX5_init_86 : decode cX5_init 86 = .ok (.newarray .int, 2) := by decide +kernel
theorem dX5_init_88 : decode cX5_init 88 = .ok (.putfield 38, 3) := by decide +kernel
theorem dX5_init_91 : decode cX5_init 91 = .ok (.aload_n 0, 1) := by decide +kernel
theorem dX5_init_92 : decode cX5_init 92 = .ok (.iconst 0, 1) := by decide +kernel
theorem dX5_init_93 : decode cX5_init 93 = .ok (.putfield 41, 3) := by decide +kernel
theorem dX5_init_96 : decode cX5_init 96 = .ok (.aload_n 0, 1) := by decide +kernel
theorem dX5_init_97 : decode cX5_init 97 = .ok (.iconst 0, 1) := by decide +kernel
theorem dX5_init_98 : decode cX5_init 98 = .ok (.putfield 45, 3) := by decide +kernel
theorem dX5_init_101 : decode cX5_init 101 = .ok (.aload_n 0, 1) := by decide +kernel
theorem dX5_init_102 : decode cX5_init 102 = .ok (.iconst 0, 1) := by decide +kernel
theorem dX5_init_103 : decode cX5_init 103 = .ok (.putfield 48, 3) := by decide +kernel
theorem dX5_init_106 : decode cX5_init 106 = .ok (.aload_n 0, 1) := by decide +kernel
theorem dX5_init_107 : decode cX5_init 107 = .ok (.sipush (-10006), 3) := by decide +kernel
theorem dX5_init_110 : decode cX5_init 110 = .ok (.putfield 51, 3) := by decide +kernel
theorem dX5_init_113 : decode cX5_init 113 = .ok (.aload_n 0, 1) := by decide +kernel
theorem dX5_init_114 : decode cX5_init 114 = .ok (.sipush (-10006), 3) := by decide +kernel
theorem dX5_init_117 : decode cX5_init 117 = .ok (.putfield 54, 3) := by decide +kernel
theorem dX5_init_120 : decode cX5_init 120 = .ok (.aload_n 0, 1) := by decide +kernel
theorem dX5_init_121 : decode cX5_init 121 = .ok (.sipush (-10006), 3) := by decide +kernel
theorem dX5_init_124 : decode cX5_init 124 = .ok (.putfield 57, 3) := by decide +kernel
theorem dX5_init_127 : decode cX5_init 127 = .ok (.aload_n 0, 1) := by decide +kernel
theorem dX5_init_128 : decode cX5_init 128 = .ok (.iconst 0, 1) := by decide +kernel
theorem dX5_init_129 : decode cX5_init 129 = .ok (.putfield 60, 3) := by decide +kernel
theorem dX5_init_132 : decode cX5_init 132 = .ok (.aload_n 0, 1) := by decide +kernel
theorem dX5_init_133 : decode cX5_init 133 = .ok (.getfield 30, 3) := by decide +kernel
theorem dX5_init_136 : decode cX5_init 136 = .ok (.sipush (-10006), 3) := by decide +kernel
theorem dX5_init_139 : decode cX5_init 139 = .ok (.invokestatic 63, 3) := by decide +kernel
theorem dX5_init_142 : decode cX5_init 142 = .ok (.aload_n 0, 1) := by decide +kernel
theorem dX5_init_143 : decode cX5_init 143 = .ok (.getfield 38, 3) := by decide +kernel
theorem dX5_init_146 : decode cX5_init 146 = .ok (.iconst (-1), 1) := by decide +kernel
theorem dX5_init_147 : decode cX5_init 147 = .ok (.invokestatic 63, 3) := by decide +kernel
theorem dX5_init_150 : decode cX5_init 150 = .ok (.return_, 1) := by decide +kernel
theorem dX5_copyFrom_0 : decode cX5_copyFrom 0 = .ok (.aload_n 1, 1) := by decide +kernel
theorem dX5_copyFrom_1 : decode cX5_copyFrom 1 = .ok (.getfield 9, 3) := by decide +kernel
theorem dX5_copyFrom_4 : decode cX5_copyFrom 4 = .ok (.iconst 0, 1) := by decide +kernel
theorem dX5_copyFrom_5 : decode cX5_copyFrom 5 = .ok (.aload_n 0, 1) := by decide +kernel
theorem dX5_copyFrom_6 : decode cX5_copyFrom 6 = .ok (.getfield 9, 3) := by decide +kernel
theorem dX5_copyFrom_9 : decode cX5_copyFrom 9 = .ok (.iconst 0, 1) := by decide +kernel
theorem dX5_copyFrom_10 : decode cX5_copyFrom 10 = .ok (.aload_n 0, 1) := by decide +kernel
theorem dX5_copyFrom_11 : decode cX5_copyFrom 11 = .ok (.getfield 9, 3) := by decide +kernel
theorem dX5_copyFrom_14 : decode cX5_copyFrom 14 = .ok (.arraylength, 1) := by decide +kernel
theorem dX5_copyFrom_15 : decode cX5_copyFrom 15 = .ok (.invokestatic 69, 3) := by decide +kernel
theorem dX5_copyFrom_18 : decode cX5_copyFrom 18 = .ok (.aload_n 1, 1) := by decide +kernel
theorem dX5_copyFrom_19 : decode cX5_copyFrom 19 = .ok (.getfield 15, 3) := by decide +kernel
theorem dX5_copyFrom_22 : decode cX5_copyFrom 22 = .ok (.iconst 0, 1) := by decide +kernel
theorem dX5_copyFrom_23 : decode cX5_copyFrom 23 = .ok (.aload_n 0, 1) := by decide +kernel
theorem dX5_copyFrom_24 : decode cX5_copyFrom 24 = .ok (.getfield 15, 3) := by decide +kernel
theorem dX5_copyFrom_27 : decode cX5_copyFrom 27 = .ok (.iconst 0, 1) := by decide +kernel
theorem dX5_copyFrom_28 : decode cX5_copyFrom 28 = .ok (.bipush 8, 2) := by decide +kernel
theorem dX5_copyFrom_30 : decode cX5_copyFrom 30 = .ok (.invokestatic 69, 3) := by decide +kernel
theorem dX5_copyFrom_33 : decode cX5_copyFrom 33 = .ok (.aload_n 1, 1) := by decide +kernel
theorem dX5_copyFrom_34 : decode cX5_copyFrom 34 = .ok (.getfield 18, 3) := by decide +kernel
theorem dX5_copyFrom_37 : decode cX5_copyFrom 37 = .ok (.iconst 0, 1) := by decide +kernel
theorem dX5_copyFrom_38 : decode cX5_copyFrom 38 = .ok (.aload_n 0, 1) := by decide +kernel
theorem dX5_copyFrom_39 : decode cX5_copyFrom 39 = .ok (.getfield 18, 3) := by decide +kernel
theorem dX5_copyFrom_42 : decode cX5_copyFrom 42 = .ok (.iconst 0, 1) := by decide +kernel
theorem dX5_copyFrom_43 : decode cX5_copyFrom 43 = .ok (.bipush 8, 2) := by decide +kernel
theorem dX5_copyFrom_45 : decode cX5_copyFrom 45 = .ok (.invokestatic 69, 3) := by decide +kernel
theorem dX5_copyFrom_48 : decode cX5_copyFrom 48 = .ok (.aload_n 1, 1) := by decide +kernel
theorem dX5_copyFrom_49 : decode cX5_copyFrom 49 = .ok (.getfield 21, 3) := by decide +kernel
theorem dX5_copyFrom_52 : decode cX5_copyFrom 52 = .ok (.iconst 0, 1) := by decide +kernel
theorem dX5_copyFrom_53 : decode cX5_copyFrom 53 = .ok (.aload_n 0, 1) := by decide +kernel
theorem dX5_copyFrom_54 : decode cX5_copyFrom 54 = .ok (.getfield 21, 3) := by decide +kernel
theorem dX5_copyFrom_57 : decode cX5_copyFrom 57 = .ok (.iconst 0, 1) := by decide +kernel
theorem dX5_copyFrom_58 : decode cX5_copyFrom 58 = .ok (.bipush 8, 2) := by decide +kernel
theorem dX5_copyFrom_60 : decode cX5_copyFrom 60 = .ok (.invokestatic 69, 3) := by decide +kernel
theorem dX5_copyFrom_63 : decode cX5_copyFrom 63 = .ok (.aload_n 1, 1) := by decide +kernel
theorem dX5_copyFrom_64 : decode cX5_copyFrom 64 = .ok (.getfield 24, 3) := by decide +kernel
theorem dX5_copyFrom_67 : decode cX5_copyFrom 67 = .ok (.iconst 0, 1) := by decide +kernel
theorem dX5_copyFrom_68 : decode cX5_copyFrom 68 = .ok (.aload_n 0, 1) := by decide +kernel
theorem dX5_copyFrom_69 : decode cX5_copyFrom 69 = .ok (.getfield 24, 3) := by decide +kernel
theorem dX5_copyFrom_72 : decode cX5_copyFrom 72 = .ok (.iconst 0, 1) := by decide +kernel
theorem dX5_copyFrom_73 : decode cX5_copyFrom 73 = .ok (.bipush 8, 2) := by decide +kernel
theorem dX5_copyFrom_75 : decode cX5_copyFrom 75 = .ok (.invokestatic 69, 3) := by decide +kernel
theorem dX5_copyFrom_78 : decode cX5_copyFrom 78 = .ok (.aload_n 1, 1) := by decide +kernel
theorem dX5_copyFrom_79 : decode cX5_copyFrom 79 = .ok (.getfield 27, 3) := by decide +kernel
theorem dX5_copyFrom_82 : decode cX5_copyFrom 82 = .ok (.iconst 0, 1) := by decide +kernel
theorem dX5_copyFrom_83 : decode cX5_copyFrom 83 = .ok (.aload_n 0, 1) := by decide +kernel
theorem dX5_copyFrom_84 : decode cX5_copyFrom 84 = .ok (.getfield 27, 3) := by decide +kernel
theorem dX5_copyFrom_87 : decode cX5_copyFrom 87 = .ok (.iconst 0, 1) := by decide +kernel
theorem dX5_copyFrom_88 : decode cX5_copyFrom 88 = .ok (.bipush 8, 2) := by decide +kernel
theorem dX5_copyFrom_90 : decode cX5_copyFrom 90 = .ok (.invokestatic 69, 3) := by decide +kernel
theorem dX5_copyFrom_93 : decode cX5_copyFrom 93 = .ok (.aload_n 1, 1) := by decide +kernel
theorem dX5_copyFrom_94 : decode cX5_copyFrom 94 = .ok (.getfield 30, 3) := by decide +kernel
theorem dX5_copyFrom_97 : decode cX5_copyFrom 97 = .ok (.iconst 0, 1) := by decide +kernel
theorem dX5_copyFrom_98 : decode cX5_copyFrom 98 = .ok (.aload_n 0, 1) := by decide +kernel
theorem dX5_copyFrom_99 : decode cX5_copyFrom 99 = .ok (.getfield 30, 3) := by decide +kernel
theorem dX5_copyFrom_102 : decode cX5_copyFrom 102 = .ok (.iconst 0, 1) := by decide +kernel
theorem dX5_copyFrom_103 : decode cX5_copyFrom 103 = .ok (.bipush 8, 2) := by decide +kernel
theorem dX5_copyFrom_105 : decode cX5_copyFrom 105 = .ok (.invokestatic 69, 3) := by decide +kernel
theorem dX5_copyFrom_108 : decode cX5_copyFrom 108 = .ok (.aload_n 1, 1) := by decide +kernel
theorem dX5_copyFrom_109 : decode cX5_copyFrom 109 = .ok (.getfield 35, 3) := by decide +kernel
theorem dX5_copyFrom_112 : decode cX5_copyFrom 112 = .ok (.iconst 0, 1) := by decide +kernel
theorem dX5_copyFrom_113 : decode cX5_copyFrom 113 = .ok (.aload_n 0, 1) := by decide +kernel
theorem dX5_copyFrom_114 : decode cX5_copyFrom 114 = .ok (.getfield 35, 3) := by decide +kernel
theorem dX5_copyFrom_117 : decode cX5_copyFrom 117 = .ok (.iconst 0, 1) := by decide +kernel
theorem dX5_copyFrom_118 : decode cX5_copyFrom 118 = .ok (.bipush 16, 2) := by decide +kernel
theorem dX5_copyFrom_120 : decode cX5_copyFrom 120 = .ok (.invokestatic 69, 3) := by decide +kernel
theorem dX5_copyFrom_123 : decode cX5_copyFrom 123 = .ok (.aload_n 1, 1) := by decide +kernel
theorem dX5_copyFrom_124 : decode cX5_copyFrom 124 = .ok (.getfield 38, 3) := by decide +kernel
theorem dX5_copyFrom_127 : decode cX5_copyFrom 127 = .ok (.iconst 0, 1) := by decide +kernel
theorem dX5_copyFrom_128 : decode cX5_copyFrom 128 = .ok (.aload_n 0, 1) := by decide +kernel
theorem dX5_copyFrom_129 : decode cX5_copyFrom 129 = .ok (.getfield 38, 3) := by decide +kernel
theorem dX5_copyFrom_132 : decode cX5_copyFrom 132 = .ok (.iconst 0, 1) := by decide +kernel
theorem dX5_copyFrom_133 : decode cX5_copyFrom 133 = .ok (.bipush 16, 2) := by decide +kernel
theorem dX5_copyFrom_135 : decode cX5_copyFrom 135 = .ok (.invokestatic 69, 3) := by decide +kernel
theorem dX5_copyFrom_138 : decode cX5_copyFrom 138 = .ok (.aload_n 0, 1) := by decide +kernel
theorem dX5_copyFrom_139 : decode cX5_copyFrom 139 = .ok (.aload_n 1, 1) := by decide +kernel
theorem dX5_copyFrom_140 : decode cX5_copyFrom 140 = .ok (.getfield 41, 3) := by decide +kernel
theorem dX5_copyFrom_143 : decode cX5_copyFrom 143 = .ok (.putfield 41, 3) := by decide +kernel
theorem dX5_copyFrom_146 : decode cX5_copyFrom 146 = .ok (.aload_n 0, 1) := by decide +kernel
theorem dX5_copyFrom_147 : decode cX5_copyFrom 147 = .ok (.aload_n 1, 1) := by decide +kernel
theorem dX5_copyFrom_148 : decode cX5_copyFrom 148 = .ok (.getfield 45, 3) := by decide +kernel
theorem dX5_copyFrom_151 : decode cX5_copyFrom 151 = .ok (.putfield 45, 3) := by decide +kernel
theorem dX5_copyFrom_154 : decode cX5_copyFrom 154 = .ok (.aload_n 0, 1) := by decide +kernel
theorem dX5_copyFrom_155 : decode cX5_copyFrom 155 = .ok (.aload_n 1, 1) := by decide +kernel
theorem dX5_copyFrom_156 : decode cX5_copyFrom 156 = .ok (.getfield 48, 3) := by decide +kernel
theorem dX5_copyFrom_159 : decode cX5_copyFrom 159 = .ok (.putfield 48, 3) := by decide +kernel
theorem dX5_copyFrom_162 : decode cX5_copyFrom 162 = .ok (.aload_n 0, 1) := by decide +kernel
theorem dX5_copyFrom_163 : decode cX5_copyFrom 163 = .ok (.aload_n 1, 1) := by decide +kernel
theorem dX5_copyFrom_164 : decode cX5_copyFrom 164 = .ok (.getfield 51, 3) := by decide +kernel
theorem dX5_copyFrom_167 : decode cX5_copyFrom 167 = .ok (.putfield 51, 3) := by decide +kernel
theorem dX5_copyFrom_170 : decode cX5_copyFrom 170 = .ok (.aload_n 0, 1) := by decide +kernel
theorem dX5_copyFrom_171 : decode cX5_copyFrom 171 = .ok (.aload_n 1, 1) := by decide +kernel
theorem dX5_copyFrom_172 : decode cX5_copyFrom 172 = .ok (.getfield 54, 3) := by decide +kernel
theorem dX5_copyFrom_175 : decode cX5_copyFrom 175 = .ok (.putfield 54, 3) := by decide +kernel
theorem dX5_copyFrom_178 : decode cX5_copyFrom 178 = .ok (.aload_n 0, 1) := by decide +kernel
theorem dX5_copyFrom_179 : decode cX5_copyFrom 179 = .ok (.aload_n 1, 1) := by decide +kernel
theorem dX5_copyFrom_180 : decode cX5_copyFrom 180 = .ok (.getfield 57, 3) := by decide +kernel
theorem dX5_copyFrom_183 : decode cX5_copyFrom 183 = .ok (.putfield 57, 3) := by decide +kernel
theorem dX5_copyFrom_186 : decode cX5_copyFrom 186 = .ok (.aload_n 0, 1) := by decide +kernel
theorem dX5_copyFrom_187 : decode cX5_copyFrom 187 = .ok (.aload_n 1, 1) := by decide +kernel
theorem dX5_copyFrom_188 : decode cX5_copyFrom 188 = .ok (.getfield 60, 3) := by decide +kernel
theorem dX5_copyFrom_191 : decode cX5_copyFrom 191 = .ok (.putfield 60, 3) := by decide +kernel
theorem dX5_copyFrom_194 : decode cX5_copyFrom 194 = .ok (.return_, 1) := by decide +kernel
theorem dX5_isSetting_0 : decode cX5_isSetting 0 = .ok (.iload_n 0, 1) := by decide +kernel
theorem dX5_isSetting_1 : decode cX5_isSetting 1 = .ok (.ifCond .lt 12, 3) := by decide +kernel
theorem dX5_isSetting_4 : decode cX5_isSetting 4 = .ok (.iload_n 0, 1) := by decide +kernel
theorem dX5_isSetting_5 : decode cX5_isSetting 5 = .ok (.iconst 3, 1) := by decide +kernel
theorem dX5_isSetting_6 : decode cX5_isSetting 6 = .ok (.if_icmp .gt 7, 3) := by decide +kernel
theorem dX5_isSetting_9 : decode cX5_isSetting 9 = .ok (.iconst 1, 1) := by decide +kernel
theorem dX5_isSetting_10 : decode cX5_isSetting 10 = .ok (.goto 4, 3) := by decide +kernel
theorem dX5_isSetting_13 : decode cX5_isSetting 13 = .ok (.iconst 0, 1) := by decide +kernel
theorem dX5_isSetting_14 : decode cX5_isSetting 14 = .ok (.ireturn, 1) := by decide +kernel
theorem dX5_isPlayer_0 : decode cX5_isPlayer 0 = .ok (.iload_n 1, 1) := by decide +kernel
theorem dX5_isPlayer_1 : decode cX5_isPlayer 1 = .ok (.ifCond .lt 15, 3) := by decide +kernel
theorem dX5_isPlayer_4 : decode cX5_isPlayer 4 = .ok (.iload_n 1, 1) := by decide +kernel
theorem dX5_isPlayer_5 : decode cX5_isPlayer 5 = .ok (.aload_n 0, 1) := by decide +kernel
theorem dX5_isPlayer_6 : decode cX5_isPlayer 6 = .ok (.getfield 41, 3) := by decide +kernel
theorem dX5_isPlayer_9 : decode cX5_isPlayer 9 = .ok (.if_icmp .ge 7, 3) := by decide +kernel
theorem dX5_isPlayer_12 : decode cX5_isPlayer 12 = .ok (.iconst 1, 1) := by decide +kernel
theorem dX5_isPlayer_13 : decode cX5_isPlayer 13 = .ok (.goto 4, 3) := by decide +kernel
theorem dX5_isPlayer_16 : decode cX5_isPlayer 16 = .ok (.iconst 0, 1) := by decide +kernel
theorem dX5_isPlayer_17 : decode cX5_isPlayer 17 = .ok (.ireturn, 1) := by decide +kernel
theorem dX5_isHidden_0 : decode cX5_isHidden 0 = .ok (.aload_n 0, 1) := by decide +kernel
theorem dX5_isHidden_1 : decode cX5_isHidden 1 = .ok (.iload_n 1, 1) := by decide +kernel
theorem dX5_isHidden_2 : decode cX5_isHidden 2 = .ok (.invokevirtual 75, 3) := by decide +kernel
theorem dX5_isHidden_5 : decode cX5_isHidden 5 = .ok (.ifCond .eq 19, 3) := by decide +kernel
theorem dX5_isHidden_8 : decode cX5_isHidden 8 = .ok (.aload_n 0, 1) := by decide +kernel
theorem dX5_isHidden_9 : decode cX5_isHidden 9 = .ok (.getfield 30, 3) := by decide +kernel
theorem dX5_isHidden_12 : decode cX5_isHidden 12 = .ok (.iload_n 1, 1) := by decide +kernel
theorem dX5_isHidden_13 : decode cX5_isHidden 13 = .ok (.iaload, 1) := by decide +kernel
theorem dX5_isHidden_14 : decode cX5_isHidden 14 = .ok (.sipush (-10006), 3) := by decide +kernel
theorem dX5_isHidden_17 : decode cX5_isHidden 17 = .ok (.if_icmp .eq 7, 3) := by decide +kernel
theorem dX5_isHidden_20 : decode cX5_isHidden 20 = .ok (.iconst 1, 1) := by decide +kernel
theorem dX5_isHidden_21 : decode cX5_isHidden 21 = .ok (.goto 4, 3) := by decide +kernel
theorem dX5_isHidden_24 : decode cX5_isHidden 24 = .ok (.iconst 0, 1) := by decide +kernel
theorem dX5_isHidden_25 : decode cX5_isHidden 25 = .ok (.ireturn, 1) := by decide +kernel
theorem dX5_hiddenCount_0 : decode cX5_hiddenCount 0 = .ok (.iconst 0, 1) := by decide +kernel
theorem dX5_hiddenCount_1 : decode cX5_hiddenCount 1 = .ok (.istore_n 1, 1) := by decide +kernel
theorem dX5_hiddenCount_2 : decode cX5_hiddenCount 2 = .ok (.iconst 0, 1) := by decide +kernel
theorem dX5_hiddenCount_3 : decode cX5_hiddenCount 3 = .ok (.istore_n 2, 1) := by decide +kernel
theorem dX5_hiddenCount_4 : decode cX5_hiddenCount 4 = .ok (.iload_n 2, 1) := by decide +kernel
theorem dX5_hiddenCount_5 : decode cX5_hiddenCount 5 = .ok (.aload_n 0, 1) := by decide +kernel
theorem dX5_hiddenCount_6 : decode cX5_hiddenCount 6 = .ok (.getfield 41, 3) := by decide +kernel
theorem dX5_hiddenCount_9 : decode cX5_hiddenCount 9 = .ok (.if_icmp .ge 20, 3) := by decide +kernel
theorem dX5_hiddenCount_12 : decode cX5_hiddenCount 12 = .ok (.aload_n 0, 1) := by decide +kernel
theorem dX5_hiddenCount_13 : decode cX5_hiddenCount 13 = .ok (.iload_n 2, 1) := by decide +kernel
theorem dX5_hiddenCount_14 : decode cX5_hiddenCount 14 = .ok (.invokevirtual 79, 3) := by decide +kernel
theorem dX5_hiddenCount_17 : decode cX5_hiddenCount 17 = .ok (.ifCond .eq 6, 3) := by decide +kernel
theorem dX5_hiddenCount_20 : decode cX5_hiddenCount 20 = .ok (.iinc 1 1, 3) := by decide +kernel
theorem dX5_hiddenCount_23 : decode cX5_hiddenCount 23 = .ok (.iinc 2 1, 3) := by decide +kernel
theorem dX5_hiddenCount_26 : decode cX5_hiddenCount 26 = .ok (.goto (-22), 3) := by decide +kernel
theorem dX5_hiddenCount_29 : decode cX5_hiddenCount 29 = .ok (.iload_n 1, 1) := by decide +kernel
theorem dX5_hiddenCount_30 : decode cX5_hiddenCount 30 = .ok (.ireturn, 1) := by decide +kernel
theorem dX5_hidersAt_0 : decode cX5_hidersAt 0 = .ok (.iconst 0, 1) := by decide +kernel
theorem dX5_hidersAt_1 : decode cX5_hidersAt 1 = .ok (.istore_n 2, 1) := by decide +kernel
theorem dX5_hidersAt_2 : decode cX5_hidersAt 2 = .ok (.iconst 0, 1) := by decide +kernel
theorem dX5_hidersAt_3 : decode cX5_hidersAt 3 = .ok (.istore_n 3, 1) := by decide +kernel
theorem dX5_hidersAt_4 : decode cX5_hidersAt 4 = .ok (.iload_n 3, 1) := by decide +kernel
theorem dX5_hidersAt_5 : decode cX5_hidersAt 5 = .ok (.aload_n 0, 1) := by decide +kernel
theorem dX5_hidersAt_6 : decode cX5_hidersAt 6 = .ok (.getfield 41, 3) := by decide +kernel
theorem dX5_hidersAt_9 : decode cX5_hidersAt 9 = .ok (.if_icmp .ge 25, 3) := by decide +kernel
theorem dX5_hidersAt_12 : decode cX5_hidersAt 12 = .ok (.aload_n 0, 1) := by decide +kernel
theorem dX5_hidersAt_13 : decode cX5_hidersAt 13 = .ok (.getfield 30, 3) := by decide +kernel
theorem dX5_hidersAt_16 : decode cX5_hidersAt 16 = .ok (.iload_n 3, 1) := by decide +kernel
theorem dX5_hidersAt_17 : decode cX5_hidersAt 17 = .ok (.iaload, 1) := by decide +kernel
theorem dX5_hidersAt_18 : decode cX5_hidersAt 18 = .ok (.iload_n 1, 1) := by decide +kernel
theorem dX5_hidersAt_19 : decode cX5_hidersAt 19 = .ok (.if_icmp .ne 9, 3) := by decide +kernel
theorem dX5_hidersAt_22 : decode cX5_hidersAt 22 = .ok (.iload_n 2, 1) := by decide +kernel
theorem dX5_hidersAt_23 : decode cX5_hidersAt 23 = .ok (.iconst 1, 1) := by decide +kernel
theorem dX5_hidersAt_24 : decode cX5_hidersAt 24 = .ok (.iload_n 3, 1) := by decide +kernel
theorem dX5_hidersAt_25 : decode cX5_hidersAt 25 = .ok (.ishl, 1) := by decide +kernel
theorem dX5_hidersAt_26 : decode cX5_hidersAt 26 = .ok (.ior, 1) := by decide +kernel
theorem dX5_hidersAt_27 : decode cX5_hidersAt 27 = .ok (.istore_n 2, 1) := by decide +kernel
theorem dX5_hidersAt_28 : decode cX5_hidersAt 28 = .ok (.iinc 3 1, 3) := by decide +kernel
theorem dX5_hidersAt_31 : decode cX5_hidersAt 31 = .ok (.goto (-27), 3) := by decide +kernel
theorem dX5_hidersAt_34 : decode cX5_hidersAt 34 = .ok (.iload_n 2, 1) := by decide +kernel
theorem dX5_hidersAt_35 : decode cX5_hidersAt 35 = .ok (.ireturn, 1) := by decide +kernel
theorem dX5_hiderCount_0 : decode cX5_hiderCount 0 = .ok (.aload_n 0, 1) := by decide +kernel
theorem dX5_hiderCount_1 : decode cX5_hiderCount 1 = .ok (.iload_n 1, 1) := by decide +kernel
theorem dX5_hiderCount_2 : decode cX5_hiderCount 2 = .ok (.invokevirtual 82, 3) := by decide +kernel
theorem dX5_hiderCount_5 : decode cX5_hiderCount 5 = .ok (.invokestatic 86, 3) := by decide +kernel
theorem dX5_hiderCount_8 : decode cX5_hiderCount 8 = .ok (.ireturn, 1) := by decide +kernel
theorem dX5_isRetired_0 : decode cX5_isRetired 0 = .ok (.iload_n 1, 1) := by decide +kernel
theorem dX5_isRetired_1 : decode cX5_isRetired 1 = .ok (.invokestatic 91, 3) := by decide +kernel
theorem dX5_isRetired_4 : decode cX5_isRetired 4 = .ok (.ifCond .eq 17, 3) := by decide +kernel
theorem dX5_isRetired_7 : decode cX5_isRetired 7 = .ok (.aload_n 0, 1) := by decide +kernel
theorem dX5_isRetired_8 : decode cX5_isRetired 8 = .ok (.getfield 38, 3) := by decide +kernel
theorem dX5_isRetired_11 : decode cX5_isRetired 11 = .ok (.iload_n 1, 1) := by decide +kernel
theorem dX5_isRetired_12 : decode cX5_isRetired 12 = .ok (.iaload, 1) := by decide +kernel
theorem dX5_isRetired_13 : decode cX5_isRetired 13 = .ok (.iconst (-1), 1) := by decide +kernel
theorem dX5_isRetired_14 : decode cX5_isRetired 14 = .ok (.if_icmp .eq 7, 3) := by decide +kernel
theorem dX5_isRetired_17 : decode cX5_isRetired 17 = .ok (.iconst 1, 1) := by decide +kernel
theorem dX5_isRetired_18 : decode cX5_isRetired 18 = .ok (.goto 4, 3) := by decide +kernel
theorem dX5_isRetired_21 : decode cX5_isRetired 21 = .ok (.iconst 0, 1) := by decide +kernel
theorem dX5_isRetired_22 : decode cX5_isRetired 22 = .ok (.ireturn, 1) := by decide +kernel
theorem dX5_retiredCount_0 : decode cX5_retiredCount 0 = .ok (.iconst 0, 1) := by decide +kernel
theorem dX5_retiredCount_1 : decode cX5_retiredCount 1 = .ok (.istore_n 1, 1) := by decide +kernel
theorem dX5_retiredCount_2 : decode cX5_retiredCount 2 = .ok (.iconst 0, 1) := by decide +kernel
theorem dX5_retiredCount_3 : decode cX5_retiredCount 3 = .ok (.istore_n 2, 1) := by decide +kernel
theorem dX5_retiredCount_4 : decode cX5_retiredCount 4 = .ok (.iload_n 2, 1) := by decide +kernel
theorem dX5_retiredCount_5 : decode cX5_retiredCount 5 = .ok (.bipush 16, 2) := by decide +kernel
theorem dX5_retiredCount_7 : decode cX5_retiredCount 7 = .ok (.if_icmp .ge 20, 3) := by decide +kernel
theorem dX5_retiredCount_10 : decode cX5_retiredCount 10 = .ok (.aload_n 0, 1) := by decide +kernel
theorem dX5_retiredCount_11 : decode cX5_retiredCount 11 = .ok (.iload_n 2, 1) := by decide +kernel
theorem dX5_retiredCount_12 : decode cX5_retiredCount 12 = .ok (.invokevirtual 94, 3) := by decide +kernel
theorem dX5_retiredCount_15 : decode cX5_retiredCount 15 = .ok (.ifCond .eq 6, 3) := by decide +kernel
theorem dX5_retiredCount_18 : decode cX5_retiredCount 18 = .ok (.iinc 1 1, 3) := by decide +kernel
theorem dX5_retiredCount_21 : decode cX5_retiredCount 21 = .ok (.iinc 2 1, 3) := by decide +kernel
theorem dX5_retiredCount_24 : decode cX5_retiredCount 24 = .ok (.goto (-20), 3) := by decide +kernel
theorem dX5_retiredCount_27 : decode cX5_retiredCount 27 = .ok (.iload_n 1, 1) := by decide +kernel
theorem dX5_retiredCount_28 : decode cX5_retiredCount 28 = .ok (.ireturn, 1) := by decide +kernel
theorem dX5_isHidingPlace_0 : decode cX5_isHidingPlace 0 = .ok (.iload_n 1, 1) := by decide +kernel
theorem dX5_isHidingPlace_1 : decode cX5_isHidingPlace 1 = .ok (.ifCond .eq 26, 3) := by decide +kernel
theorem dX5_isHidingPlace_4 : decode cX5_isHidingPlace 4 = .ok (.iload_n 1, 1) := by decide +kernel
theorem dX5_isHidingPlace_5 : decode cX5_isHidingPlace 5 = .ok (.invokestatic 97, 3) := by decide +kernel
theorem dX5_isHidingPlace_8 : decode cX5_isHidingPlace 8 = .ok (.aload_n 0, 1) := by decide +kernel
theorem dX5_isHidingPlace_9 : decode cX5_isHidingPlace 9 = .ok (.getfield 54, 3) := by decide +kernel
theorem dX5_isHidingPlace_12 : decode cX5_isHidingPlace 12 = .ok (.if_icmp .gt 15, 3) := by decide +kernel
theorem dX5_isHidingPlace_15 : decode cX5_isHidingPlace 15 = .ok (.aload_n 0, 1) := by decide +kernel
theorem dX5_isHidingPlace_16 : decode cX5_isHidingPlace 16 = .ok (.iload_n 1, 1) := by decide +kernel
theorem dX5_isHidingPlace_17 : decode cX5_isHidingPlace 17 = .ok (.invokevirtual 94, 3) := by decide +kernel
theorem dX5_isHidingPlace_20 : decode cX5_isHidingPlace 20 = .ok (.ifCond .ne 7, 3) := by decide +kernel
theorem dX5_isHidingPlace_23 : decode cX5_isHidingPlace 23 = .ok (.iconst 1, 1) := by decide +kernel
theorem dX5_isHidingPlace_24 : decode cX5_isHidingPlace 24 = .ok (.goto 4, 3) := by decide +kernel
theorem dX5_isHidingPlace_27 : decode cX5_isHidingPlace 27 = .ok (.iconst 0, 1) := by decide +kernel
theorem dX5_isHidingPlace_28 : decode cX5_isHidingPlace 28 = .ok (.ireturn, 1) := by decide +kernel
theorem dX5_isFull_0 : decode cX5_isFull 0 = .ok (.aload_n 0, 1) := by decide +kernel
theorem dX5_isFull_1 : decode cX5_isFull 1 = .ok (.iload_n 1, 1) := by decide +kernel
theorem dX5_isFull_2 : decode cX5_isFull 2 = .ok (.invokevirtual 100, 3) := by decide +kernel
theorem dX5_isFull_5 : decode cX5_isFull 5 = .ok (.iconst 2, 1) := by decide +kernel
theorem dX5_isFull_6 : decode cX5_isFull 6 = .ok (.if_icmp .lt 7, 3) := by decide +kernel
theorem dX5_isFull_9 : decode cX5_isFull 9 = .ok (.iconst 1, 1) := by decide +kernel
theorem dX5_isFull_10 : decode cX5_isFull 10 = .ok (.goto 4, 3) := by decide +kernel
theorem dX5_isFull_13 : decode cX5_isFull 13 = .ok (.iconst 0, 1) := by decide +kernel
theorem dX5_isFull_14 : decode cX5_isFull 14 = .ok (.ireturn, 1) := by decide +kernel
theorem dX5_hasRoomToHide_0 : decode cX5_hasRoomToHide 0 = .ok (.aload_n 0, 1) := by decide +kernel
theorem dX5_hasRoomToHide_1 : decode cX5_hasRoomToHide 1 = .ok (.iload_n 1, 1) := by decide +kernel
theorem dX5_hasRoomToHide_2 : decode cX5_hasRoomToHide 2 = .ok (.invokevirtual 103, 3) := by decide +kernel
theorem dX5_hasRoomToHide_5 : decode cX5_hasRoomToHide 5 = .ok (.ifCond .eq 15, 3) := by decide +kernel
theorem dX5_hasRoomToHide_8 : decode cX5_hasRoomToHide 8 = .ok (.aload_n 0, 1) := by decide +kernel
theorem dX5_hasRoomToHide_9 : decode cX5_hasRoomToHide 9 = .ok (.iload_n 1, 1) := by decide +kernel
theorem dX5_hasRoomToHide_10 : decode cX5_hasRoomToHide 10 = .ok (.invokevirtual 106, 3) := by decide +kernel
theorem dX5_hasRoomToHide_13 : decode cX5_hasRoomToHide 13 = .ok (.ifCond .ne 7, 3) := by decide +kernel
theorem dX5_hasRoomToHide_16 : decode cX5_hasRoomToHide 16 = .ok (.iconst 1, 1) := by decide +kernel
theorem dX5_hasRoomToHide_17 : decode cX5_hasRoomToHide 17 = .ok (.goto 4, 3) := by decide +kernel
theorem dX5_hasRoomToHide_20 : decode cX5_hasRoomToHide 20 = .ok (.iconst 0, 1) := by decide +kernel
theorem dX5_hasRoomToHide_21 : decode cX5_hasRoomToHide 21 = .ok (.ireturn, 1) := by decide +kernel
theorem dX5_seekerSees_0 : decode cX5_seekerSees 0 = .ok (.aload_n 0, 1) := by decide +kernel
theorem dX5_seekerSees_1 : decode cX5_seekerSees 1 = .ok (.getfield 57, 3) := by decide +kernel
theorem dX5_seekerSees_4 : decode cX5_seekerSees 4 = .ok (.iload_n 1, 1) := by decide +kernel
theorem dX5_seekerSees_5 : decode cX5_seekerSees 5 = .ok (.invokestatic 109, 3) := by decide +kernel
theorem dX5_seekerSees_8 : decode cX5_seekerSees 8 = .ok (.aload_n 0, 1) := by decide +kernel
theorem dX5_seekerSees_9 : decode cX5_seekerSees 9 = .ok (.getfield 9, 3) := by decide +kernel
theorem dX5_seekerSees_12 : decode cX5_seekerSees 12 = .ok (.iconst 0, 1) := by decide +kernel
theorem dX5_seekerSees_13 : decode cX5_seekerSees 13 = .ok (.iaload, 1) := by decide +kernel
theorem dX5_seekerSees_14 : decode cX5_seekerSees 14 = .ok (.if_icmp .gt 7, 3) := by decide +kernel
theorem dX5_seekerSees_17 : decode cX5_seekerSees 17 = .ok (.iconst 1, 1) := by decide +kernel
theorem dX5_seekerSees_18 : decode cX5_seekerSees 18 = .ok (.goto 4, 3) := by decide +kernel
theorem dX5_seekerSees_21 : decode cX5_seekerSees 21 = .ok (.iconst 0, 1) := by decide +kernel
theorem dX5_seekerSees_22 : decode cX5_seekerSees 22 = .ok (.ireturn, 1) := by decide +kernel
theorem dX5_wouldEscape_0 : decode cX5_wouldEscape 0 = .ok (.aload_n 0, 1) := by decide +kernel
theorem dX5_wouldEscape_1 : decode cX5_wouldEscape 1 = .ok (.iload_n 1, 1) := by decide +kernel
theorem dX5_wouldEscape_2 : decode cX5_wouldEscape 2 = .ok (.invokevirtual 79, 3) := by decide +kernel
theorem dX5_wouldEscape_5 : decode cX5_wouldEscape 5 = .ok (.ifCond .eq 26, 3) := by decide +kernel
theorem dX5_wouldEscape_8 : decode cX5_wouldEscape 8 = .ok (.aload_n 0, 1) := by decide +kernel
theorem dX5_wouldEscape_9 : decode cX5_wouldEscape 9 = .ok (.getfield 30, 3) := by decide +kernel
theorem dX5_wouldEscape_12 : decode cX5_wouldEscape 12 = .ok (.iload_n 1, 1) := by decide +kernel
theorem dX5_wouldEscape_13 : decode cX5_wouldEscape 13 = .ok (.iaload, 1) := by decide +kernel
theorem dX5_wouldEscape_14 : decode cX5_wouldEscape 14 = .ok (.invokestatic 97, 3) := by decide +kernel
theorem dX5_wouldEscape_17 : decode cX5_wouldEscape 17 = .ok (.aload_n 0, 1) := by decide +kernel
theorem dX5_wouldEscape_18 : decode cX5_wouldEscape 18 = .ok (.getfield 57, 3) := by decide +kernel
theorem dX5_wouldEscape_21 : decode cX5_wouldEscape 21 = .ok (.invokestatic 97, 3) := by decide +kernel
theorem dX5_wouldEscape_24 : decode cX5_wouldEscape 24 = .ok (.if_icmp .ge 7, 3) := by decide +kernel
theorem dX5_wouldEscape_27 : decode cX5_wouldEscape 27 = .ok (.iconst 1, 1) := by decide +kernel
theorem dX5_wouldEscape_28 : decode cX5_wouldEscape 28 = .ok (.goto 4, 3) := by decide +kernel
theorem dX5_wouldEscape_31 : decode cX5_wouldEscape 31 = .ok (.iconst 0, 1) := by decide +kernel
theorem dX5_wouldEscape_32 : decode cX5_wouldEscape 32 = .ok (.ireturn, 1) := by decide +kernel
theorem dX5_sumOfPoints_0 : decode cX5_sumOfPoints 0 = .ok (.iconst 0, 1) := by decide +kernel
theorem dX5_sumOfPoints_1 : decode cX5_sumOfPoints 1 = .ok (.istore_n 1, 1) := by decide +kernel
theorem dX5_sumOfPoints_2 : decode cX5_sumOfPoints 2 = .ok (.iconst 0, 1) := by decide +kernel
theorem dX5_sumOfPoints_3 : decode cX5_sumOfPoints 3 = .ok (.istore_n 2, 1) := by decide +kernel
theorem dX5_sumOfPoints_4 : decode cX5_sumOfPoints 4 = .ok (.iload_n 2, 1) := by decide +kernel
theorem dX5_sumOfPoints_5 : decode cX5_sumOfPoints 5 = .ok (.aload_n 0, 1) := by decide +kernel
theorem dX5_sumOfPoints_6 : decode cX5_sumOfPoints 6 = .ok (.getfield 41, 3) := by decide +kernel
theorem dX5_sumOfPoints_9 : decode cX5_sumOfPoints 9 = .ok (.if_icmp .ge 18, 3) := by decide +kernel
theorem dX5_sumOfPoints_12 : decode cX5_sumOfPoints 12 = .ok (.iload_n 1, 1) := by decide +kernel
theorem dX5_sumOfPoints_13 : decode cX5_sumOfPoints 13 = .ok (.aload_n 0, 1) := by decide +kernel
theorem dX5_sumOfPoints_14 : decode cX5_sumOfPoints 14 = .ok (.getfield 15, 3) := by decide +kernel
theorem dX5_sumOfPoints_17 : decode cX5_sumOfPoints 17 = .ok (.iload_n 2, 1) := by decide +kernel
theorem dX5_sumOfPoints_18 : decode cX5_sumOfPoints 18 = .ok (.iaload, 1) := by decide +kernel
theorem dX5_sumOfPoints_19 : decode cX5_sumOfPoints 19 = .ok (.iadd, 1) := by decide +kernel
theorem dX5_sumOfPoints_20 : decode cX5_sumOfPoints 20 = .ok (.istore_n 1, 1) := by decide +kernel
theorem dX5_sumOfPoints_21 : decode cX5_sumOfPoints 21 = .ok (.iinc 2 1, 3) := by decide +kernel
theorem dX5_sumOfPoints_24 : decode cX5_sumOfPoints 24 = .ok (.goto (-20), 3) := by decide +kernel
theorem dX5_sumOfPoints_27 : decode cX5_sumOfPoints 27 = .ok (.iload_n 1, 1) := by decide +kernel
theorem dX5_sumOfPoints_28 : decode cX5_sumOfPoints 28 = .ok (.ireturn, 1) := by decide +kernel
theorem dX6_isSpot_0 : decode cX6_isSpot 0 = .ok (.iload_n 0, 1) := by decide +kernel
theorem dX6_isSpot_1 : decode cX6_isSpot 1 = .ok (.ifCond .lt 13, 3) := by decide +kernel
theorem dX6_isSpot_4 : decode cX6_isSpot 4 = .ok (.iload_n 0, 1) := by decide +kernel
theorem dX6_isSpot_5 : decode cX6_isSpot 5 = .ok (.bipush 16, 2) := by decide +kernel
theorem dX6_isSpot_7 : decode cX6_isSpot 7 = .ok (.if_icmp .ge 7, 3) := by decide +kernel
theorem dX6_isSpot_10 : decode cX6_isSpot 10 = .ok (.iconst 1, 1) := by decide +kernel
theorem dX6_isSpot_11 : decode cX6_isSpot 11 = .ok (.goto 4, 3) := by decide +kernel
theorem dX6_isSpot_14 : decode cX6_isSpot 14 = .ok (.iconst 0, 1) := by decide +kernel
theorem dX6_isSpot_15 : decode cX6_isSpot 15 = .ok (.ireturn, 1) := by decide +kernel
theorem dX6_distance_0 : decode cX6_distance 0 = .ok (.iload_n 0, 1) := by decide +kernel
theorem dX6_distance_1 : decode cX6_distance 1 = .ok (.iload_n 1, 1) := by decide +kernel
theorem dX6_distance_2 : decode cX6_distance 2 = .ok (.invokestatic 9, 3) := by decide +kernel
theorem dX6_distance_5 : decode cX6_distance 5 = .ok (.iload_n 1, 1) := by decide +kernel
theorem dX6_distance_6 : decode cX6_distance 6 = .ok (.iload_n 0, 1) := by decide +kernel
theorem dX6_distance_7 : decode cX6_distance 7 = .ok (.invokestatic 9, 3) := by decide +kernel
theorem dX6_distance_10 : decode cX6_distance 10 = .ok (.invokestatic 13, 3) := by decide +kernel
theorem dX6_distance_13 : decode cX6_distance 13 = .ok (.ireturn, 1) := by decide +kernel
theorem dX6_fromBase_0 : decode cX6_fromBase 0 = .ok (.iload_n 0, 1) := by decide +kernel
theorem dX6_fromBase_1 : decode cX6_fromBase 1 = .ok (.iload_n 0, 1) := by decide +kernel
theorem dX6_fromBase_2 : decode cX6_fromBase 2 = .ok (.iconst 0, 1) := by decide +kernel
theorem dX6_fromBase_3 : decode cX6_fromBase 3 = .ok (.invokestatic 9, 3) := by decide +kernel
theorem dX6_fromBase_6 : decode cX6_fromBase 6 = .ok (.invokestatic 13, 3) := by decide +kernel
theorem dX6_fromBase_9 : decode cX6_fromBase 9 = .ok (.ireturn, 1) := by decide +kernel
theorem dX6_stepsUp_0 : decode cX6_stepsUp 0 = .ok (.iload_n 1, 1) := by decide +kernel
theorem dX6_stepsUp_1 : decode cX6_stepsUp 1 = .ok (.iload_n 0, 1) := by decide +kernel
theorem dX6_stepsUp_2 : decode cX6_stepsUp 2 = .ok (.isub, 1) := by decide +kernel
theorem dX6_stepsUp_3 : decode cX6_stepsUp 3 = .ok (.bipush 16, 2) := by decide +kernel
theorem dX6_stepsUp_5 : decode cX6_stepsUp 5 = .ok (.invokestatic 18, 3) := by decide +kernel
theorem dX6_stepsUp_8 : decode cX6_stepsUp 8 = .ok (.ireturn, 1) := by decide +kernel
theorem dX6_beside_0 : decode cX6_beside 0 = .ok (.iload_n 0, 1) := by decide +kernel
theorem dX6_beside_1 : decode cX6_beside 1 = .ok (.iload_n 1, 1) := by decide +kernel
theorem dX6_beside_2 : decode cX6_beside 2 = .ok (.iadd, 1) := by decide +kernel
theorem dX6_beside_3 : decode cX6_beside 3 = .ok (.bipush 16, 2) := by decide +kernel
theorem dX6_beside_5 : decode cX6_beside 5 = .ok (.invokestatic 18, 3) := by decide +kernel
theorem dX6_beside_8 : decode cX6_beside 8 = .ok (.ireturn, 1) := by decide +kernel
theorem dX7_init_0 : decode cX7_init 0 = .ok (.aload_n 0, 1) := by decide +kernel
theorem dX7_init_1 : decode cX7_init 1 = .ok (.invokespecial 1, 3) := by decide +kernel
theorem dX7_init_4 : decode cX7_init 4 = .ok (.aload_n 0, 1) := by decide +kernel
theorem dX7_init_5 : decode cX7_init 5 = .ok (.new 7, 3) := by decide +kernel
theorem dX7_init_8 : decode cX7_init 8 = .ok (.dup, 1) := by decide +kernel
theorem dX7_init_9 : decode cX7_init 9 = .ok (.invokespecial 9, 3) := by decide +kernel
theorem dX7_init_12 : decode cX7_init 12 = .ok (.putfield 10, 3) := by decide +kernel
theorem dX7_init_15 : decode cX7_init 15 = .ok (.aload_n 0, 1) := by decide +kernel
theorem dX7_init_16 : decode cX7_init 16 = .ok (.new 7, 3) := by decide +kernel
theorem dX7_init_19 : decode cX7_init 19 = .ok (.dup, 1) := by decide +kernel
theorem dX7_init_20 : decode cX7_init 20 = .ok (.invokespecial 9, 3) := by decide +kernel
theorem dX7_init_23 : decode cX7_init 23 = .ok (.putfield 16, 3) := by decide +kernel
theorem dX7_init_26 : decode cX7_init 26 = .ok (.aload_n 0, 1) := by decide +kernel
theorem dX7_init_27 : decode cX7_init 27 = .ok (.new 19, 3) := by decide +kernel
theorem dX7_init_30 : decode cX7_init 30 = .ok (.dup, 1) := by decide +kernel
theorem dX7_init_31 : decode cX7_init 31 = .ok (.invokespecial 21, 3) := by decide +kernel
theorem dX7_init_34 : decode cX7_init 34 = .ok (.putfield 22, 3) := by decide +kernel
theorem dX7_init_37 : decode cX7_init 37 = .ok (.aload_n 0, 1) := by decide +kernel
theorem dX7_init_38 : decode cX7_init 38 = .ok (.new 26, 3) := by decide +kernel
theorem dX7_init_41 : decode cX7_init 41 = .ok (.dup, 1) := by decide +kernel
theorem dX7_init_42 : decode cX7_init 42 = .ok (.invokespecial 28, 3) := by decide +kernel
theorem dX7_init_45 : decode cX7_init 45 = .ok (.putfield 29, 3) := by decide +kernel
theorem dX7_init_48 : decode cX7_init 48 = .ok (.aload_n 0, 1) := by decide +kernel
theorem dX7_init_49 : decode cX7_init 49 = .ok (.iconst 0, 1) := by decide +kernel
theorem dX7_init_50 : decode cX7_init 50 = .ok (.putfield 33, 3) := by decide +kernel
theorem dX7_init_53 : decode cX7_init 53 = .ok (.return_, 1) := by decide +kernel
theorem dX7_set_0 : decode cX7_set 0 = .ok (.aload_n 0, 1) := by decide +kernel
theorem dX7_set_1 : decode cX7_set 1 = .ok (.getfield 22, 3) := by decide +kernel
theorem dX7_set_4 : decode cX7_set 4 = .ok (.aload_n 0, 1) := by decide +kernel
theorem dX7_set_5 : decode cX7_set 5 = .ok (.getfield 10, 3) := by decide +kernel
theorem dX7_set_8 : decode cX7_set 8 = .ok (.invokevirtual 37, 3) := by decide +kernel
theorem dX7_set_11 : decode cX7_set 11 = .ok (.aload_n 0, 1) := by decide +kernel
theorem dX7_set_12 : decode cX7_set 12 = .ok (.getfield 22, 3) := by decide +kernel
theorem dX7_set_15 : decode cX7_set 15 = .ok (.aload_n 0, 1) := by decide +kernel
theorem dX7_set_16 : decode cX7_set 16 = .ok (.getfield 10, 3) := by decide +kernel
theorem dX7_set_19 : decode cX7_set 19 = .ok (.iload_n 1, 1) := by decide +kernel
theorem dX7_set_20 : decode cX7_set 20 = .ok (.iload_n 2, 1) := by decide +kernel
theorem dX7_set_21 : decode cX7_set 21 = .ok (.invokestatic 41, 3) := by decide +kernel
theorem dX7_set_24 : decode cX7_set 24 = .ok (.invokevirtual 47, 3) := by decide +kernel
theorem dX7_set_27 : decode cX7_set 27 = .ok (.ireturn, 1) := by decide +kernel
theorem dX7_setting_0 : decode cX7_setting 0 = .ok (.iload_n 1, 1) := by decide +kernel
theorem dX7_setting_1 : decode cX7_setting 1 = .ok (.invokestatic 51, 3) := by decide +kernel
theorem dX7_setting_4 : decode cX7_setting 4 = .ok (.ifCond .ne 7, 3) := by decide +kernel
theorem dX7_setting_7 : decode cX7_setting 7 = .ok (.sipush (-10002), 3) := by decide +kernel
theorem dX7_setting_10 : decode cX7_setting 10 = .ok (.ireturn, 1) := by decide +kernel
theorem dX7_setting_11 : decode cX7_setting 11 = .ok (.aload_n 0, 1) := by decide +kernel
theorem dX7_setting_12 : decode cX7_setting 12 = .ok (.getfield 10, 3) := by decide +kernel
theorem dX7_setting_15 : decode cX7_setting 15 = .ok (.getfield 55, 3) := by decide +kernel
theorem dX7_setting_18 : decode cX7_setting 18 = .ok (.iload_n 1, 1) := by decide +kernel
theorem dX7_setting_19 : decode cX7_setting 19 = .ok (.iaload, 1) := by decide +kernel
theorem dX7_setting_20 : decode cX7_setting 20 = .ok (.ireturn, 1) := by decide +kernel
theorem dX7_join_0 : decode cX7_join 0 = .ok (.aload_n 0, 1) := by decide +kernel
theorem dX7_join_1 : decode cX7_join 1 = .ok (.getfield 22, 3) := by decide +kernel
theorem dX7_join_4 : decode cX7_join 4 = .ok (.aload_n 0, 1) := by decide +kernel
theorem dX7_join_5 : decode cX7_join 5 = .ok (.getfield 10, 3) := by decide +kernel
theorem dX7_join_8 : decode cX7_join 8 = .ok (.invokevirtual 37, 3) := by decide +kernel
theorem dX7_join_11 : decode cX7_join 11 = .ok (.aload_n 0, 1) := by decide +kernel
theorem dX7_join_12 : decode cX7_join 12 = .ok (.getfield 22, 3) := by decide +kernel
theorem dX7_join_15 : decode cX7_join 15 = .ok (.aload_n 0, 1) := by decide +kernel
theorem dX7_join_16 : decode cX7_join 16 = .ok (.getfield 10, 3) := by decide +kernel
theorem dX7_join_19 : decode cX7_join 19 = .ok (.invokestatic 59, 3) := by decide +kernel
theorem dX7_join_22 : decode cX7_join 22 = .ok (.invokevirtual 47, 3) := by decide +kernel
theorem dX7_join_25 : decode cX7_join 25 = .ok (.ireturn, 1) := by decide +kernel
theorem dX7_start_0 : decode cX7_start 0 = .ok (.aload_n 0, 1) := by decide +kernel
theorem dX7_start_1 : decode cX7_start 1 = .ok (.getfield 22, 3) := by decide +kernel
theorem dX7_start_4 : decode cX7_start 4 = .ok (.aload_n 0, 1) := by decide +kernel
theorem dX7_start_5 : decode cX7_start 5 = .ok (.getfield 10, 3) := by decide +kernel
theorem dX7_start_8 : decode cX7_start 8 = .ok (.invokevirtual 37, 3) := by decide +kernel
theorem dX7_start_11 : decode cX7_start 11 = .ok (.aload_n 0, 1) := by decide +kernel
theorem dX7_start_12 : decode cX7_start 12 = .ok (.getfield 22, 3) := by decide +kernel
theorem dX7_start_15 : decode cX7_start 15 = .ok (.aload_n 0, 1) := by decide +kernel
theorem dX7_start_16 : decode cX7_start 16 = .ok (.getfield 10, 3) := by decide +kernel
theorem dX7_start_19 : decode cX7_start 19 = .ok (.iload_n 1, 1) := by decide +kernel
theorem dX7_start_20 : decode cX7_start 20 = .ok (.iload_n 2, 1) := by decide +kernel
theorem dX7_start_21 : decode cX7_start 21 = .ok (.invokestatic 63, 3) := by decide +kernel
theorem dX7_start_24 : decode cX7_start 24 = .ok (.invokevirtual 47, 3) := by decide +kernel
theorem dX7_start_27 : decode cX7_start 27 = .ok (.ireturn, 1) := by decide +kernel
theorem dX7_hide_0 : decode cX7_hide 0 = .ok (.aload_n 0, 1) := by decide +kernel
theorem dX7_hide_1 : decode cX7_hide 1 = .ok (.getfield 22, 3) := by decide +kernel
theorem dX7_hide_4 : decode cX7_hide 4 = .ok (.aload_n 0, 1) := by decide +kernel
theorem dX7_hide_5 : decode cX7_hide 5 = .ok (.getfield 10, 3) := by decide +kernel
theorem dX7_hide_8 : decode cX7_hide 8 = .ok (.invokevirtual 37, 3) := by decide +kernel
theorem dX7_hide_11 : decode cX7_hide 11 = .ok (.aload_n 0, 1) := by decide +kernel
theorem dX7_hide_12 : decode cX7_hide 12 = .ok (.getfield 22, 3) := by decide +kernel
theorem dX7_hide_15 : decode cX7_hide 15 = .ok (.aload_n 0, 1) := by decide +kernel
theorem dX7_hide_16 : decode cX7_hide 16 = .ok (.getfield 10, 3) := by decide +kernel
theorem dX7_hide_19 : decode cX7_hide 19 = .ok (.iload_n 1, 1) := by decide +kernel
theorem dX7_hide_20 : decode cX7_hide 20 = .ok (.iload_n 2, 1) := by decide +kernel
theorem dX7_hide_21 : decode cX7_hide 21 = .ok (.invokestatic 66, 3) := by decide +kernel
theorem dX7_hide_24 : decode cX7_hide 24 = .ok (.invokevirtual 47, 3) := by decide +kernel
theorem dX7_hide_27 : decode cX7_hide 27 = .ok (.ireturn, 1) := by decide +kernel
theorem dX7_seek_0 : decode cX7_seek 0 = .ok (.aload_n 0, 1) := by decide +kernel
theorem dX7_seek_1 : decode cX7_seek 1 = .ok (.getfield 22, 3) := by decide +kernel
theorem dX7_seek_4 : decode cX7_seek 4 = .ok (.aload_n 0, 1) := by decide +kernel
theorem dX7_seek_5 : decode cX7_seek 5 = .ok (.getfield 10, 3) := by decide +kernel
theorem dX7_seek_8 : decode cX7_seek 8 = .ok (.invokevirtual 37, 3) := by decide +kernel
theorem dX7_seek_11 : decode cX7_seek 11 = .ok (.aload_n 0, 1) := by decide +kernel
theorem dX7_seek_12 : decode cX7_seek 12 = .ok (.getfield 22, 3) := by decide +kernel
theorem dX7_seek_15 : decode cX7_seek 15 = .ok (.aload_n 0, 1) := by decide +kernel
theorem dX7_seek_16 : decode cX7_seek 16 = .ok (.getfield 10, 3) := by decide +kernel
theorem dX7_seek_19 : decode cX7_seek 19 = .ok (.invokestatic 69, 3) := by decide +kernel
theorem dX7_seek_22 : decode cX7_seek 22 = .ok (.invokevirtual 47, 3) := by decide +kernel
theorem dX7_seek_25 : decode cX7_seek 25 = .ok (.ireturn, 1) := by decide +kernel
theorem dX7_walk_0 : decode cX7_walk 0 = .ok (.aload_n 0, 1) := by decide +kernel
theorem dX7_walk_1 : decode cX7_walk 1 = .ok (.getfield 22, 3) := by decide +kernel
theorem dX7_walk_4 : decode cX7_walk 4 = .ok (.aload_n 0, 1) := by decide +kernel
theorem dX7_walk_5 : decode cX7_walk 5 = .ok (.getfield 10, 3) := by decide +kernel
theorem dX7_walk_8 : decode cX7_walk 8 = .ok (.invokevirtual 37, 3) := by decide +kernel
theorem dX7_walk_11 : decode cX7_walk 11 = .ok (.aload_n 0, 1) := by decide +kernel
theorem dX7_walk_12 : decode cX7_walk 12 = .ok (.getfield 22, 3) := by decide +kernel
theorem dX7_walk_15 : decode cX7_walk 15 = .ok (.aload_n 0, 1) := by decide +kernel
theorem dX7_walk_16 : decode cX7_walk 16 = .ok (.getfield 10, 3) := by decide +kernel
theorem dX7_walk_19 : decode cX7_walk 19 = .ok (.iload_n 1, 1) := by decide +kernel
theorem dX7_walk_20 : decode cX7_walk 20 = .ok (.invokestatic 72, 3) := by decide +kernel
theorem dX7_walk_23 : decode cX7_walk 23 = .ok (.invokevirtual 47, 3) := by decide +kernel
theorem dX7_walk_26 : decode cX7_walk 26 = .ok (.ireturn, 1) := by decide +kernel
theorem dX7_cry_0 : decode cX7_cry 0 = .ok (.aload_n 0, 1) := by decide +kernel
theorem dX7_cry_1 : decode cX7_cry 1 = .ok (.getfield 22, 3) := by decide +kernel
theorem dX7_cry_4 : decode cX7_cry 4 = .ok (.aload_n 0, 1) := by decide +kernel
theorem dX7_cry_5 : decode cX7_cry 5 = .ok (.getfield 10, 3) := by decide +kernel
theorem dX7_cry_8 : decode cX7_cry 8 = .ok (.invokevirtual 37, 3) := by decide +kernel
theorem dX7_cry_11 : decode cX7_cry 11 = .ok (.aload_n 0, 1) := by decide +kernel
theorem dX7_cry_12 : decode cX7_cry 12 = .ok (.getfield 22, 3) := by decide +kernel
theorem dX7_cry_15 : decode cX7_cry 15 = .ok (.aload_n 0, 1) := by decide +kernel
theorem dX7_cry_16 : decode cX7_cry 16 = .ok (.getfield 10, 3) := by decide +kernel
theorem dX7_cry_19 : decode cX7_cry 19 = .ok (.iload_n 1, 1) := by decide +kernel
theorem dX7_cry_20 : decode cX7_cry 20 = .ok (.iload_n 2, 1) := by decide +kernel
theorem dX7_cry_21 : decode cX7_cry 21 = .ok (.invokestatic 76, 3) := by decide +kernel
theorem dX7_cry_24 : decode cX7_cry 24 = .ok (.invokevirtual 47, 3) := by decide +kernel
theorem dX7_cry_27 : decode cX7_cry 27 = .ok (.ireturn, 1) := by decide +kernel
theorem dX7_dash_0 : decode cX7_dash 0 = .ok (.aload_n 0, 1) := by decide +kernel
theorem dX7_dash_1 : decode cX7_dash 1 = .ok (.getfield 22, 3) := by decide +kernel
theorem dX7_dash_4 : decode cX7_dash 4 = .ok (.aload_n 0, 1) := by decide +kernel
theorem dX7_dash_5 : decode cX7_dash 5 = .ok (.getfield 10, 3) := by decide +kernel
theorem dX7_dash_8 : decode cX7_dash 8 = .ok (.invokevirtual 37, 3) := by decide +kernel
theorem dX7_dash_11 : decode cX7_dash 11 = .ok (.aload_n 0, 1) := by decide +kernel
theorem dX7_dash_12 : decode cX7_dash 12 = .ok (.getfield 22, 3) := by decide +kernel
theorem dX7_dash_15 : decode cX7_dash 15 = .ok (.aload_n 0, 1) := by decide +kernel
theorem dX7_dash_16 : decode cX7_dash 16 = .ok (.getfield 10, 3) := by decide +kernel
theorem dX7_dash_19 : decode cX7_dash 19 = .ok (.iload_n 1, 1) := by decide +kernel
theorem dX7_dash_20 : decode cX7_dash 20 = .ok (.invokestatic 79, 3) := by decide +kernel
theorem dX7_dash_23 : decode cX7_dash 23 = .ok (.invokevirtual 47, 3) := by decide +kernel
theorem dX7_dash_26 : decode cX7_dash 26 = .ok (.ireturn, 1) := by decide +kernel
theorem dX7_player_0 : decode cX7_player 0 = .ok (.aload_n 0, 1) := by decide +kernel
theorem dX7_player_1 : decode cX7_player 1 = .ok (.getfield 10, 3) := by decide +kernel
theorem dX7_player_4 : decode cX7_player 4 = .ok (.iload_n 1, 1) := by decide +kernel
theorem dX7_player_5 : decode cX7_player 5 = .ok (.invokevirtual 82, 3) := by decide +kernel
theorem dX7_player_8 : decode cX7_player 8 = .ok (.ifCond .ne 7, 3) := by decide +kernel
theorem dX7_player_11 : decode cX7_player 11 = .ok (.sipush (-10001), 3) := by decide +kernel
theorem dX7_player_14 : decode cX7_player 14 = .ok (.ireturn, 1) := by decide +kernel
theorem dX7_player_15 : decode cX7_player 15 = .ok (.iload_n 2, 1) := by decide +kernel
theorem dX7_player_16 : decode cX7_player 16 = .ok (.tableswitch 113 0 6 #[44, 54, 64, 74, 84, 94, 103], 44) := by decide +kernel
theorem dX7_player_60 : decode cX7_player 60 = .ok (.aload_n 0, 1) := by decide +kernel
theorem dX7_player_61 : decode cX7_player 61 = .ok (.getfield 10, 3) := by decide +kernel
theorem dX7_player_64 : decode cX7_player 64 = .ok (.getfield 85, 3) := by decide +kernel
theorem dX7_player_67 : decode cX7_player 67 = .ok (.iload_n 1, 1) := by decide +kernel
theorem dX7_player_68 : decode cX7_player 68 = .ok (.iaload, 1) := by decide +kernel
theorem dX7_player_69 : decode cX7_player 69 = .ok (.ireturn, 1) := by decide +kernel
theorem dX7_player_70 : decode cX7_player 70 = .ok (.aload_n 0, 1) := by decide +kernel
theorem dX7_player_71 : decode cX7_player 71 = .ok (.getfield 10, 3) := by decide +kernel
theorem dX7_player_74 : decode cX7_player 74 = .ok (.getfield 88, 3) := by decide +kernel
theorem dX7_player_77 : decode cX7_player 77 = .ok (.iload_n 1, 1) := by decide +kernel
theorem dX7_player_78 : decode cX7_player 78 = .ok (.iaload, 1) := by decide +kernel
theorem dX7_player_79 : decode cX7_player 79 = .ok (.ireturn, 1) := by decide +kernel
theorem dX7_player_80 : decode cX7_player 80 = .ok (.aload_n 0, 1) := by decide +kernel
theorem dX7_player_81 : decode cX7_player 81 = .ok (.getfield 10, 3) := by decide +kernel
theorem dX7_player_84 : decode cX7_player 84 = .ok (.getfield 91, 3) := by decide +kernel
theorem dX7_player_87 : decode cX7_player 87 = .ok (.iload_n 1, 1) := by decide +kernel
theorem dX7_player_88 : decode cX7_player 88 = .ok (.iaload, 1) := by decide +kernel
theorem dX7_player_89 : decode cX7_player 89 = .ok (.ireturn, 1) := by decide +kernel
theorem dX7_player_90 : decode cX7_player 90 = .ok (.aload_n 0, 1) := by decide +kernel
theorem dX7_player_91 : decode cX7_player 91 = .ok (.getfield 10, 3) := by decide +kernel
theorem dX7_player_94 : decode cX7_player 94 = .ok (.getfield 94, 3) := by decide +kernel
theorem dX7_player_97 : decode cX7_player 97 = .ok (.iload_n 1, 1) := by decide +kernel
theorem dX7_player_98 : decode cX7_player 98 = .ok (.iaload, 1) := by decide +kernel
theorem dX7_player_99 : decode cX7_player 99 = .ok (.ireturn, 1) := by decide +kernel
theorem dX7_player_100 : decode cX7_player 100 = .ok (.aload_n 0, 1) := by decide +kernel
theorem dX7_player_101 : decode cX7_player 101 = .ok (.getfield 10, 3) := by decide +kernel
theorem dX7_player_104 : decode cX7_player 104 = .ok (.getfield 97, 3) := by decide +kernel
theorem dX7_player_107 : decode cX7_player 107 = .ok (.iload_n 1, 1) := by decide +kernel
theorem dX7_player_108 : decode cX7_player 108 = .ok (.iaload, 1) := by decide +kernel
theorem dX7_player_109 : decode cX7_player 109 = .ok (.ireturn, 1) := by decide +kernel
theorem dX7_player_110 : decode cX7_player 110 = .ok (.aload_n 0, 1) := by decide +kernel
theorem dX7_player_111 : decode cX7_player 111 = .ok (.getfield 10, 3) := by decide +kernel
theorem dX7_player_114 : decode cX7_player 114 = .ok (.iload_n 1, 1) := by decide +kernel
theorem dX7_player_115 : decode cX7_player 115 = .ok (.invokestatic 100, 3) := by decide +kernel
theorem dX7_player_118 : decode cX7_player 118 = .ok (.ireturn, 1) := by decide +kernel
theorem dX7_player_119 : decode cX7_player 119 = .ok (.aload_n 0, 1) := by decide +kernel
theorem dX7_player_120 : decode cX7_player 120 = .ok (.getfield 10, 3) := by decide +kernel
theorem dX7_player_123 : decode cX7_player 123 = .ok (.getfield 105, 3) := by decide +kernel
theorem dX7_player_126 : decode cX7_player 126 = .ok (.iload_n 1, 1) := by decide +kernel
theorem dX7_player_127 : decode cX7_player 127 = .ok (.iaload, 1) := by decide +kernel
theorem dX7_player_128 : decode cX7_player 128 = .ok (.ireturn, 1) := by decide +kernel
theorem dX7_player_129 : decode cX7_player 129 = .ok (.sipush (-10002), 3) := by decide +kernel
theorem dX7_player_132 : decode cX7_player 132 = .ok (.ireturn, 1) := by decide +kernel
theorem dX7_spot_0 : decode cX7_spot 0 = .ok (.iload_n 1, 1) := by decide +kernel
theorem dX7_spot_1 : decode cX7_spot 1 = .ok (.invokestatic 108, 3) := by decide +kernel
theorem dX7_spot_4 : decode cX7_spot 4 = .ok (.ifCond .ne 7, 3) := by decide +kernel
theorem dX7_spot_7 : decode cX7_spot 7 = .ok (.sipush (-10001), 3) := by decide +kernel
theorem dX7_spot_10 : decode cX7_spot 10 = .ok (.ireturn, 1) := by decide +kernel
theorem dX7_spot_11 : decode cX7_spot 11 = .ok (.iload_n 2, 1) := by decide +kernel
theorem dX7_spot_12 : decode cX7_spot 12 = .ok (.tableswitch 73 0 3 #[32, 37, 47, 64], 32) := by decide +kernel
theorem dX7_spot_44 : decode cX7_spot 44 = .ok (.iload_n 1, 1) := by decide +kernel
theorem dX7_spot_45 : decode cX7_spot 45 = .ok (.invokestatic 113, 3) := by decide +kernel
theorem dX7_spot_48 : decode cX7_spot 48 = .ok (.ireturn, 1) := by decide +kernel
theorem dX7_spot_49 : decode cX7_spot 49 = .ok (.aload_n 0, 1) := by decide +kernel
theorem dX7_spot_50 : decode cX7_spot 50 = .ok (.getfield 10, 3) := by decide +kernel
theorem dX7_spot_53 : decode cX7_spot 53 = .ok (.getfield 116, 3) := by decide +kernel
theorem dX7_spot_56 : decode cX7_spot 56 = .ok (.iload_n 1, 1) := by decide +kernel
theorem dX7_spot_57 : decode cX7_spot 57 = .ok (.iaload, 1) := by decide +kernel
theorem dX7_spot_58 : decode cX7_spot 58 = .ok (.ireturn, 1) := by decide +kernel
theorem dX7_spot_59 : decode cX7_spot 59 = .ok (.aload_n 0, 1) := by decide +kernel
theorem dX7_spot_60 : decode cX7_spot 60 = .ok (.getfield 10, 3) := by decide +kernel
theorem dX7_spot_63 : decode cX7_spot 63 = .ok (.iload_n 1, 1) := by decide +kernel
theorem dX7_spot_64 : decode cX7_spot 64 = .ok (.invokevirtual 119, 3) := by decide +kernel
theorem dX7_spot_67 : decode cX7_spot 67 = .ok (.ifCond .eq 7, 3) := by decide +kernel
theorem dX7_spot_70 : decode cX7_spot 70 = .ok (.iconst 1, 1) := by decide +kernel
theorem dX7_spot_71 : decode cX7_spot 71 = .ok (.goto 4, 3) := by decide +kernel
theorem dX7_spot_74 : decode cX7_spot 74 = .ok (.iconst 0, 1) := by decide +kernel
theorem dX7_spot_75 : decode cX7_spot 75 = .ok (.ireturn, 1) := by decide +kernel
theorem dX7_spot_76 : decode cX7_spot 76 = .ok (.aload_n 0, 1) := by decide +kernel
theorem dX7_spot_77 : decode cX7_spot 77 = .ok (.getfield 10, 3) := by decide +kernel
theorem dX7_spot_80 : decode cX7_spot 80 = .ok (.iload_n 1, 1) := by decide +kernel
theorem dX7_spot_81 : decode cX7_spot 81 = .ok (.invokevirtual 122, 3) := by decide +kernel
theorem dX7_spot_84 : decode cX7_spot 84 = .ok (.ireturn, 1) := by decide +kernel
theorem dX7_spot_85 : decode cX7_spot 85 = .ok (.sipush (-10002), 3) := by decide +kernel
theorem dX7_spot_88 : decode cX7_spot 88 = .ok (.ireturn, 1) := by decide +kernel
theorem dX7_ranked_0 : decode cX7_ranked 0 = .ok (.aload_n 0, 1) := by decide +kernel
theorem dX7_ranked_1 : decode cX7_ranked 1 = .ok (.getfield 10, 3) := by decide +kernel
theorem dX7_ranked_4 : decode cX7_ranked 4 = .ok (.iload_n 1, 1) := by decide +kernel
theorem dX7_ranked_5 : decode cX7_ranked 5 = .ok (.invokestatic 125, 3) := by decide +kernel
theorem dX7_ranked_8 : decode cX7_ranked 8 = .ok (.ireturn, 1) := by decide +kernel
theorem dX7_nextSeeker_0 : decode cX7_nextSeeker 0 = .ok (.aload_n 0, 1) := by decide +kernel
theorem dX7_nextSeeker_1 : decode cX7_nextSeeker 1 = .ok (.getfield 10, 3) := by decide +kernel
theorem dX7_nextSeeker_4 : decode cX7_nextSeeker 4 = .ok (.invokestatic 128, 3) := by decide +kernel
theorem dX7_nextSeeker_7 : decode cX7_nextSeeker 7 = .ok (.ireturn, 1) := by decide +kernel
theorem dX7_total_0 : decode cX7_total 0 = .ok (.iload_n 1, 1) := by decide +kernel
theorem dX7_total_1 : decode cX7_total 1 = .ok (.tableswitch 135 0 9 #[55, 63, 71, 79, 87, 95, 103, 111, 119, 127], 55) := by decide +kernel
theorem dX7_total_56 : decode cX7_total 56 = .ok (.aload_n 0, 1) := by decide +kernel
theorem dX7_total_57 : decode cX7_total 57 = .ok (.getfield 10, 3) := by decide +kernel
theorem dX7_total_60 : decode cX7_total 60 = .ok (.getfield 131, 3) := by decide +kernel
theorem dX7_total_63 : decode cX7_total 63 = .ok (.ireturn, 1) := by decide +kernel
theorem dX7_total_64 : decode cX7_total 64 = .ok (.aload_n 0, 1) := by decide +kernel
theorem dX7_total_65 : decode cX7_total 65 = .ok (.getfield 10, 3) := by decide +kernel
theorem dX7_total_68 : decode cX7_total 68 = .ok (.getfield 135, 3) := by decide +kernel
theorem dX7_total_71 : decode cX7_total 71 = .ok (.ireturn, 1) := by decide +kernel
theorem dX7_total_72 : decode cX7_total 72 = .ok (.aload_n 0, 1) := by decide +kernel
theorem dX7_total_73 : decode cX7_total 73 = .ok (.getfield 10, 3) := by decide +kernel
theorem dX7_total_76 : decode cX7_total 76 = .ok (.getfield 138, 3) := by decide +kernel
theorem dX7_total_79 : decode cX7_total 79 = .ok (.ireturn, 1) := by decide +kernel
theorem dX7_total_80 : decode cX7_total 80 = .ok (.aload_n 0, 1) := by decide +kernel
theorem dX7_total_81 : decode cX7_total 81 = .ok (.getfield 10, 3) := by decide +kernel
theorem dX7_total_84 : decode cX7_total 84 = .ok (.getfield 141, 3) := by decide +kernel
theorem dX7_total_87 : decode cX7_total 87 = .ok (.ireturn, 1) := by decide +kernel
theorem dX7_total_88 : decode cX7_total 88 = .ok (.aload_n 0, 1) := by decide +kernel
theorem dX7_total_89 : decode cX7_total 89 = .ok (.getfield 10, 3) := by decide +kernel
theorem dX7_total_92 : decode cX7_total 92 = .ok (.getfield 144, 3) := by decide +kernel
theorem dX7_total_95 : decode cX7_total 95 = .ok (.ireturn, 1) := by decide +kernel
theorem dX7_total_96 : decode cX7_total 96 = .ok (.aload_n 0, 1) := by decide +kernel
theorem dX7_total_97 : decode cX7_total 97 = .ok (.getfield 10, 3) := by decide +kernel
theorem dX7_total_100 : decode cX7_total 100 = .ok (.getfield 147, 3) := by decide +kernel
theorem dX7_total_103 : decode cX7_total 103 = .ok (.ireturn, 1) := by decide +kernel
theorem dX7_total_104 : decode cX7_total 104 = .ok (.aload_n 0, 1) := by decide +kernel
theorem dX7_total_105 : decode cX7_total 105 = .ok (.getfield 10, 3) := by decide +kernel
theorem dX7_total_108 : decode cX7_total 108 = .ok (.getfield 150, 3) := by decide +kernel
theorem dX7_total_111 : decode cX7_total 111 = .ok (.ireturn, 1) := by decide +kernel
theorem dX7_total_112 : decode cX7_total 112 = .ok (.aload_n 0, 1) := by decide +kernel
theorem dX7_total_113 : decode cX7_total 113 = .ok (.getfield 10, 3) := by decide +kernel
theorem dX7_total_116 : decode cX7_total 116 = .ok (.invokevirtual 153, 3) := by decide +kernel
theorem dX7_total_119 : decode cX7_total 119 = .ok (.ireturn, 1) := by decide +kernel
theorem dX7_total_120 : decode cX7_total 120 = .ok (.aload_n 0, 1) := by decide +kernel
theorem dX7_total_121 : decode cX7_total 121 = .ok (.getfield 10, 3) := by decide +kernel
theorem dX7_total_124 : decode cX7_total 124 = .ok (.invokevirtual 157, 3) := by decide +kernel
theorem dX7_total_127 : decode cX7_total 127 = .ok (.ireturn, 1) := by decide +kernel
theorem dX7_total_128 : decode cX7_total 128 = .ok (.aload_n 0, 1) := by decide +kernel
theorem dX7_total_129 : decode cX7_total 129 = .ok (.getfield 10, 3) := by decide +kernel
theorem dX7_total_132 : decode cX7_total 132 = .ok (.invokevirtual 160, 3) := by decide +kernel
theorem dX7_total_135 : decode cX7_total 135 = .ok (.ireturn, 1) := by decide +kernel
theorem dX7_total_136 : decode cX7_total 136 = .ok (.sipush (-10002), 3) := by decide +kernel
theorem dX7_total_139 : decode cX7_total 139 = .ok (.ireturn, 1) := by decide +kernel
theorem dX7_inSight_0 : decode cX7_inSight 0 = .ok (.aload_n 0, 1) := by decide +kernel
theorem dX7_inSight_1 : decode cX7_inSight 1 = .ok (.getfield 10, 3) := by decide +kernel
theorem dX7_inSight_4 : decode cX7_inSight 4 = .ok (.invokestatic 163, 3) := by decide +kernel
theorem dX7_inSight_7 : decode cX7_inSight 7 = .ok (.ireturn, 1) := by decide +kernel
theorem dX7_couldDash_0 : decode cX7_couldDash 0 = .ok (.aload_n 0, 1) := by decide +kernel
theorem dX7_couldDash_1 : decode cX7_couldDash 1 = .ok (.getfield 10, 3) := by decide +kernel
theorem dX7_couldDash_4 : decode cX7_couldDash 4 = .ok (.invokestatic 168, 3) := by decide +kernel
theorem dX7_couldDash_7 : decode cX7_couldDash 7 = .ok (.ireturn, 1) := by decide +kernel
theorem dX7_bestSpot_0 : decode cX7_bestSpot 0 = .ok (.aload_n 0, 1) := by decide +kernel
theorem dX7_bestSpot_1 : decode cX7_bestSpot 1 = .ok (.getfield 10, 3) := by decide +kernel
theorem dX7_bestSpot_4 : decode cX7_bestSpot 4 = .ok (.invokestatic 171, 3) := by decide +kernel
theorem dX7_bestSpot_7 : decode cX7_bestSpot 7 = .ok (.ireturn, 1) := by decide +kernel
theorem dX7_fewestSteps_0 : decode cX7_fewestSteps 0 = .ok (.aload_n 0, 1) := by decide +kernel
theorem dX7_fewestSteps_1 : decode cX7_fewestSteps 1 = .ok (.getfield 10, 3) := by decide +kernel
theorem dX7_fewestSteps_4 : decode cX7_fewestSteps 4 = .ok (.invokestatic 174, 3) := by decide +kernel
theorem dX7_fewestSteps_7 : decode cX7_fewestSteps 7 = .ok (.ireturn, 1) := by decide +kernel
theorem dJ6_bitCount_0f7a4_0 : decode cJ6_bitCount_0f7a4 0 = .ok (.iload_n 0, 1) := by decide +kernel
theorem dJ6_bitCount_0f7a4_1 : decode cJ6_bitCount_0f7a4 1 = .ok (.iload_n 0, 1) := by decide +kernel
theorem dJ6_bitCount_0f7a4_2 : decode cJ6_bitCount_0f7a4 2 = .ok (.iconst 1, 1) := by decide +kernel
theorem dJ6_bitCount_0f7a4_3 : decode cJ6_bitCount_0f7a4 3 = .ok (.iushr, 1) := by decide +kernel
theorem dJ6_bitCount_0f7a4_4 : decode cJ6_bitCount_0f7a4 4 = .ok (.ldc_w 265, 3) := by decide +kernel
theorem dJ6_bitCount_0f7a4_7 : decode cJ6_bitCount_0f7a4 7 = .ok (.iand, 1) := by decide +kernel
theorem dJ6_bitCount_0f7a4_8 : decode cJ6_bitCount_0f7a4 8 = .ok (.isub, 1) := by decide +kernel
theorem dJ6_bitCount_0f7a4_9 : decode cJ6_bitCount_0f7a4 9 = .ok (.istore_n 0, 1) := by decide +kernel
theorem dJ6_bitCount_0f7a4_10 : decode cJ6_bitCount_0f7a4 10 = .ok (.iload_n 0, 1) := by decide +kernel
theorem dJ6_bitCount_0f7a4_11 : decode cJ6_bitCount_0f7a4 11 = .ok (.ldc_w 266, 3) := by decide +kernel
theorem dJ6_bitCount_0f7a4_14 : decode cJ6_bitCount_0f7a4 14 = .ok (.iand, 1) := by decide +kernel
theorem dJ6_bitCount_0f7a4_15 : decode cJ6_bitCount_0f7a4 15 = .ok (.iload_n 0, 1) := by decide +kernel
theorem dJ6_bitCount_0f7a4_16 : decode cJ6_bitCount_0f7a4 16 = .ok (.iconst 2, 1) := by decide +kernel
theorem dJ6_bitCount_0f7a4_17 : decode cJ6_bitCount_0f7a4 17 = .ok (.iushr, 1) := by decide +kernel
theorem dJ6_bitCount_0f7a4_18 : decode cJ6_bitCount_0f7a4 18 = .ok (.ldc_w 266, 3) := by decide +kernel
theorem dJ6_bitCount_0f7a4_21 : decode cJ6_bitCount_0f7a4 21 = .ok (.iand, 1) := by decide +kernel
theorem dJ6_bitCount_0f7a4_22 : decode cJ6_bitCount_0f7a4 22 = .ok (.iadd, 1) := by decide +kernel
theorem dJ6_bitCount_0f7a4_23 : decode cJ6_bitCount_0f7a4 23 = .ok (.istore_n 0, 1) := by decide +kernel
theorem dJ6_bitCount_0f7a4_24 : decode cJ6_bitCount_0f7a4 24 = .ok (.iload_n 0, 1) := by decide +kernel
theorem dJ6_bitCount_0f7a4_25 : decode cJ6_bitCount_0f7a4 25 = .ok (.iload_n 0, 1) := by decide +kernel
theorem dJ6_bitCount_0f7a4_26 : decode cJ6_bitCount_0f7a4 26 = .ok (.iconst 4, 1) := by decide +kernel
theorem dJ6_bitCount_0f7a4_27 : decode cJ6_bitCount_0f7a4 27 = .ok (.iushr, 1) := by decide +kernel
theorem dJ6_bitCount_0f7a4_28 : decode cJ6_bitCount_0f7a4 28 = .ok (.iadd, 1) := by decide +kernel
theorem dJ6_bitCount_0f7a4_29 : decode cJ6_bitCount_0f7a4 29 = .ok (.ldc_w 267, 3) := by decide +kernel
theorem dJ6_bitCount_0f7a4_32 : decode cJ6_bitCount_0f7a4 32 = .ok (.iand, 1) := by decide +kernel
theorem dJ6_bitCount_0f7a4_33 : decode cJ6_bitCount_0f7a4 33 = .ok (.istore_n 0, 1) := by decide +kernel
theorem dJ6_bitCount_0f7a4_34 : decode cJ6_bitCount_0f7a4 34 = .ok (.iload_n 0, 1) := by decide +kernel
theorem dJ6_bitCount_0f7a4_35 : decode cJ6_bitCount_0f7a4 35 = .ok (.iload_n 0, 1) := by decide +kernel
theorem dJ6_bitCount_0f7a4_36 : decode cJ6_bitCount_0f7a4 36 = .ok (.bipush 8, 2) := by decide +kernel
theorem dJ6_bitCount_0f7a4_38 : decode cJ6_bitCount_0f7a4 38 = .ok (.iushr, 1) := by decide +kernel
theorem dJ6_bitCount_0f7a4_39 : decode cJ6_bitCount_0f7a4 39 = .ok (.iadd, 1) := by decide +kernel
theorem dJ6_bitCount_0f7a4_40 : decode cJ6_bitCount_0f7a4 40 = .ok (.istore_n 0, 1) := by decide +kernel
theorem dJ6_bitCount_0f7a4_41 : decode cJ6_bitCount_0f7a4 41 = .ok (.iload_n 0, 1) := by decide +kernel
theorem dJ6_bitCount_0f7a4_42 : decode cJ6_bitCount_0f7a4 42 = .ok (.iload_n 0, 1) := by decide +kernel
theorem dJ6_bitCount_0f7a4_43 : decode cJ6_bitCount_0f7a4 43 = .ok (.bipush 16, 2) := by decide +kernel
theorem dJ6_bitCount_0f7a4_45 : decode cJ6_bitCount_0f7a4 45 = .ok (.iushr, 1) := by decide +kernel
theorem dJ6_bitCount_0f7a4_46 : decode cJ6_bitCount_0f7a4 46 = .ok (.iadd, 1) := by decide +kernel
theorem dJ6_bitCount_0f7a4_47 : decode cJ6_bitCount_0f7a4 47 = .ok (.istore_n 0, 1) := by decide +kernel
theorem dJ6_bitCount_0f7a4_48 : decode cJ6_bitCount_0f7a4 48 = .ok (.iload_n 0, 1) := by decide +kernel
theorem dJ6_bitCount_0f7a4_49 : decode cJ6_bitCount_0f7a4 49 = .ok (.bipush 63, 2) := by decide +kernel
theorem dJ6_bitCount_0f7a4_51 : decode cJ6_bitCount_0f7a4 51 = .ok (.iand, 1) := by decide +kernel
theorem dJ6_bitCount_0f7a4_52 : decode cJ6_bitCount_0f7a4 52 = .ok (.ireturn, 1) := by decide +kernel
theorem dJ9_floorMod_7cf53_0 : decode cJ9_floorMod_7cf53 0 = .ok (.iload_n 0, 1) := by decide +kernel
theorem dJ9_floorMod_7cf53_1 : decode cJ9_floorMod_7cf53 1 = .ok (.iload_n 1, 1) := by decide +kernel
theorem dJ9_floorMod_7cf53_2 : decode cJ9_floorMod_7cf53 2 = .ok (.irem, 1) := by decide +kernel
theorem dJ9_floorMod_7cf53_3 : decode cJ9_floorMod_7cf53 3 = .ok (.istore_n 2, 1) := by decide +kernel
theorem dJ9_floorMod_7cf53_4 : decode cJ9_floorMod_7cf53 4 = .ok (.iload_n 0, 1) := by decide +kernel
theorem dJ9_floorMod_7cf53_5 : decode cJ9_floorMod_7cf53 5 = .ok (.iload_n 1, 1) := by decide +kernel
theorem dJ9_floorMod_7cf53_6 : decode cJ9_floorMod_7cf53 6 = .ok (.ixor, 1) := by decide +kernel
theorem dJ9_floorMod_7cf53_7 : decode cJ9_floorMod_7cf53 7 = .ok (.ifCond .ge 11, 3) := by decide +kernel
theorem dJ9_floorMod_7cf53_10 : decode cJ9_floorMod_7cf53 10 = .ok (.iload_n 2, 1) := by decide +kernel
theorem dJ9_floorMod_7cf53_11 : decode cJ9_floorMod_7cf53 11 = .ok (.ifCond .eq 7, 3) := by decide +kernel
theorem dJ9_floorMod_7cf53_14 : decode cJ9_floorMod_7cf53 14 = .ok (.iload_n 2, 1) := by decide +kernel
theorem dJ9_floorMod_7cf53_15 : decode cJ9_floorMod_7cf53 15 = .ok (.iload_n 1, 1) := by decide +kernel
theorem dJ9_floorMod_7cf53_16 : decode cJ9_floorMod_7cf53 16 = .ok (.iadd, 1) := by decide +kernel
theorem dJ9_floorMod_7cf53_17 : decode cJ9_floorMod_7cf53 17 = .ok (.ireturn, 1) := by decide +kernel
theorem dJ9_floorMod_7cf53_18 : decode cJ9_floorMod_7cf53 18 = .ok (.iload_n 2, 1) := by decide +kernel
theorem dJ9_floorMod_7cf53_19 : decode cJ9_floorMod_7cf53 19 = .ok (.ireturn, 1) := by decide +kernel
theorem dJ9_max_7cf53_0 : decode cJ9_max_7cf53 0 = .ok (.iload_n 0, 1) := by decide +kernel
theorem dJ9_max_7cf53_1 : decode cJ9_max_7cf53 1 = .ok (.iload_n 1, 1) := by decide +kernel
theorem dJ9_max_7cf53_2 : decode cJ9_max_7cf53 2 = .ok (.if_icmp .lt 7, 3) := by decide +kernel
theorem dJ9_max_7cf53_5 : decode cJ9_max_7cf53 5 = .ok (.iload_n 0, 1) := by decide +kernel
theorem dJ9_max_7cf53_6 : decode cJ9_max_7cf53 6 = .ok (.goto 4, 3) := by decide +kernel
theorem dJ9_max_7cf53_9 : decode cJ9_max_7cf53 9 = .ok (.iload_n 1, 1) := by decide +kernel
theorem dJ9_max_7cf53_10 : decode cJ9_max_7cf53 10 = .ok (.ireturn, 1) := by decide +kernel
theorem dJ9_min_7cf53_0 : decode cJ9_min_7cf53 0 = .ok (.iload_n 0, 1) := by decide +kernel
theorem dJ9_min_7cf53_1 : decode cJ9_min_7cf53 1 = .ok (.iload_n 1, 1) := by decide +kernel
theorem dJ9_min_7cf53_2 : decode cJ9_min_7cf53 2 = .ok (.if_icmp .gt 7, 3) := by decide +kernel
theorem dJ9_min_7cf53_5 : decode cJ9_min_7cf53 5 = .ok (.iload_n 0, 1) := by decide +kernel
theorem dJ9_min_7cf53_6 : decode cJ9_min_7cf53 6 = .ok (.goto 4, 3) := by decide +kernel
theorem dJ9_min_7cf53_9 : decode cJ9_min_7cf53 9 = .ok (.iload_n 1, 1) := by decide +kernel
theorem dJ9_min_7cf53_10 : decode cJ9_min_7cf53 10 = .ok (.ireturn, 1) := by decide +kernel
theorem dJ7_fill_53178_0 : decode cJ7_fill_53178 0 = .ok (.iconst 0, 1) := by decide +kernel
theorem dJ7_fill_53178_1 : decode cJ7_fill_53178 1 = .ok (.istore_n 2, 1) := by decide +kernel
theorem dJ7_fill_53178_2 : decode cJ7_fill_53178 2 = .ok (.aload_n 0, 1) := by decide +kernel
theorem dJ7_fill_53178_3 : decode cJ7_fill_53178 3 = .ok (.arraylength, 1) := by decide +kernel
theorem dJ7_fill_53178_4 : decode cJ7_fill_53178 4 = .ok (.istore_n 3, 1) := by decide +kernel
theorem dJ7_fill_53178_5 : decode cJ7_fill_53178 5 = .ok (.iload_n 2, 1) := by decide +kernel
theorem dJ7_fill_53178_6 : decode cJ7_fill_53178 6 = .ok (.iload_n 3, 1) := by decide +kernel
theorem dJ7_fill_53178_7 : decode cJ7_fill_53178 7 = .ok (.if_icmp .ge 13, 3) := by decide +kernel
theorem dJ7_fill_53178_10 : decode cJ7_fill_53178 10 = .ok (.aload_n 0, 1) := by decide +kernel
theorem dJ7_fill_53178_11 : decode cJ7_fill_53178 11 = .ok (.iload_n 2, 1) := by decide +kernel
theorem dJ7_fill_53178_12 : decode cJ7_fill_53178 12 = .ok (.iload_n 1, 1) := by decide +kernel
theorem dJ7_fill_53178_13 : decode cJ7_fill_53178 13 = .ok (.iastore, 1) := by decide +kernel
theorem dJ7_fill_53178_14 : decode cJ7_fill_53178 14 = .ok (.iinc 2 1, 3) := by decide +kernel
theorem dJ7_fill_53178_17 : decode cJ7_fill_53178 17 = .ok (.goto (-12), 3) := by decide +kernel
theorem dJ7_fill_53178_20 : decode cJ7_fill_53178 20 = .ok (.return_, 1) := by decide +kernel
end
section
theorem dL_cell_0 : decode cL_cell 0 = .ok (.iload_n 1, 1) := by decide +kernel
theorem dL_cell_1 : decode cL_cell 1 = .ok (.aload_n 0, 1) := by decide +kernel
theorem dL_cell_2 : decode cL_cell 2 = .ok (.arraylength, 1) := by decide +kernel
theorem dL_cell_3 : decode cL_cell 3 = .ok (.if_icmp .ge 9, 3) := by decide +kernel
theorem dL_cell_6 : decode cL_cell 6 = .ok (.aload_n 0, 1) := by decide +kernel
theorem dL_cell_7 : decode cL_cell 7 = .ok (.iload_n 1, 1) := by decide +kernel
theorem dL_cell_8 : decode cL_cell 8 = .ok (.iaload, 1) := by decide +kernel
theorem dL_cell_9 : decode cL_cell 9 = .ok (.goto 10, 3) := by decide +kernel
theorem dL_cell_12 : decode cL_cell 12 = .ok (.ldc 7, 2) := by decide +kernel
theorem dL_cell_14 : decode cL_cell 14 = .ok (.iload_n 1, 1) := by decide +kernel
theorem dL_cell_15 : decode cL_cell 15 = .ok (.imul, 1) := by decide +kernel
theorem dL_cell_16 : decode cL_cell 16 = .ok (.ldc 8, 2) := by decide +kernel
theorem dL_cell_18 : decode cL_cell 18 = .ok (.iadd, 1) := by decide +kernel
theorem dL_cell_19 : decode cL_cell 19 = .ok (.ireturn, 1) := by decide +kernel
theorem dL_low_0 : decode cL_low 0 = .ok (.iload_n 0, 1) := by decide +kernel
theorem dL_low_1 : decode cL_low 1 = .ok (.ldc 9, 2) := by decide +kernel
theorem dL_low_3 : decode cL_low 3 = .ok (.iand, 1) := by decide +kernel
theorem dL_low_4 : decode cL_low 4 = .ok (.iload_n 1, 1) := by decide +kernel
theorem dL_low_5 : decode cL_low 5 = .ok (.irem, 1) := by decide +kernel
theorem dL_low_6 : decode cL_low 6 = .ok (.ireturn, 1) := by decide +kernel
theorem dL_apart_0 : decode cL_apart 0 = .ok (.iconst 0, 1) := by decide +kernel
theorem dL_apart_1 : decode cL_apart 1 = .ok (.istore_n 2, 1) := by decide +kernel
theorem dL_apart_2 : decode cL_apart 2 = .ok (.iload_n 0, 1) := by decide +kernel
theorem dL_apart_3 : decode cL_apart 3 = .ok (.iload_n 2, 1) := by decide +kernel
theorem dL_apart_4 : decode cL_apart 4 = .ok (.iadd, 1) := by decide +kernel
theorem dL_apart_5 : decode cL_apart 5 = .ok (.bipush 16, 2) := by decide +kernel
theorem dL_apart_7 : decode cL_apart 7 = .ok (.irem, 1) := by decide +kernel
theorem dL_apart_8 : decode cL_apart 8 = .ok (.iload_n 1, 1) := by decide +kernel
theorem dL_apart_9 : decode cL_apart 9 = .ok (.if_icmp .eq 9, 3) := by decide +kernel
theorem dL_apart_12 : decode cL_apart 12 = .ok (.iinc 2 1, 3) := by decide +kernel
theorem dL_apart_15 : decode cL_apart 15 = .ok (.goto (-13), 3) := by decide +kernel
theorem dL_apart_18 : decode cL_apart 18 = .ok (.iload_n 2, 1) := by decide +kernel
theorem dL_apart_19 : decode cL_apart 19 = .ok (.bipush 16, 2) := by decide +kernel
theorem dL_apart_21 : decode cL_apart 21 = .ok (.iload_n 2, 1) := by decide +kernel
theorem dL_apart_22 : decode cL_apart 22 = .ok (.isub, 1) := by decide +kernel
theorem dL_apart_23 : decode cL_apart 23 = .ok (.if_icmp .ge 7, 3) := by decide +kernel
theorem dL_apart_26 : decode cL_apart 26 = .ok (.iload_n 2, 1) := by decide +kernel
theorem dL_apart_27 : decode cL_apart 27 = .ok (.goto 7, 3) := by decide +kernel
theorem dL_apart_30 : decode cL_apart 30 = .ok (.bipush 16, 2) := by decide +kernel
theorem dL_apart_32 : decode cL_apart 32 = .ok (.iload_n 2, 1) := by decide +kernel
theorem dL_apart_33 : decode cL_apart 33 = .ok (.isub, 1) := by decide +kernel
theorem dL_apart_34 : decode cL_apart 34 = .ok (.ireturn, 1) := by decide +kernel
theorem dL_here_0 : decode cL_here 0 = .ok (.iconst 0, 1) := by decide +kernel
theorem dL_here_1 : decode cL_here 1 = .ok (.istore_n 2, 1) := by decide +kernel
theorem dL_here_2 : decode cL_here 2 = .ok (.iconst 0, 1) := by decide +kernel
theorem dL_here_3 : decode cL_here 3 = .ok (.istore_n 3, 1) := by decide +kernel
theorem dL_here_4 : decode cL_here 4 = .ok (.iload_n 3, 1) := by decide +kernel
theorem dL_here_5 : decode cL_here 5 = .ok (.bipush 8, 2) := by decide +kernel
theorem dL_here_7 : decode cL_here 7 = .ok (.if_icmp .ge 31, 3) := by decide +kernel
theorem dL_here_10 : decode cL_here 10 = .ok (.iload_n 2, 1) := by decide +kernel
theorem dL_here_11 : decode cL_here 11 = .ok (.aload_n 0, 1) := by decide +kernel
theorem dL_here_12 : decode cL_here 12 = .ok (.bipush 6, 2) := by decide +kernel
theorem dL_here_14 : decode cL_here 14 = .ok (.iload_n 3, 1) := by decide +kernel
theorem dL_here_15 : decode cL_here 15 = .ok (.imul, 1) := by decide +kernel
theorem dL_here_16 : decode cL_here 16 = .ok (.iconst 5, 1) := by decide +kernel
theorem dL_here_17 : decode cL_here 17 = .ok (.iadd, 1) := by decide +kernel
theorem dL_here_18 : decode cL_here 18 = .ok (.iaload, 1) := by decide +kernel
theorem dL_here_19 : decode cL_here 19 = .ok (.iload_n 1, 1) := by decide +kernel
theorem dL_here_20 : decode cL_here 20 = .ok (.if_icmp .ne 9, 3) := by decide +kernel
theorem dL_here_23 : decode cL_here 23 = .ok (.iconst 1, 1) := by decide +kernel
theorem dL_here_24 : decode cL_here 24 = .ok (.iload_n 3, 1) := by decide +kernel
theorem dL_here_25 : decode cL_here 25 = .ok (.ishl, 1) := by decide +kernel
theorem dL_here_26 : decode cL_here 26 = .ok (.goto 4, 3) := by decide +kernel
theorem dL_here_29 : decode cL_here 29 = .ok (.iconst 0, 1) := by decide +kernel
theorem dL_here_30 : decode cL_here 30 = .ok (.ior, 1) := by decide +kernel
theorem dL_here_31 : decode cL_here 31 = .ok (.istore_n 2, 1) := by decide +kernel
theorem dL_here_32 : decode cL_here 32 = .ok (.iinc 3 1, 3) := by decide +kernel
theorem dL_here_35 : decode cL_here 35 = .ok (.goto (-31), 3) := by decide +kernel
theorem dL_here_38 : decode cL_here 38 = .ok (.iload_n 2, 1) := by decide +kernel
theorem dL_here_39 : decode cL_here 39 = .ok (.ireturn, 1) := by decide +kernel
theorem dL_count_0 : decode cL_count 0 = .ok (.iconst 0, 1) := by decide +kernel
theorem dL_count_1 : decode cL_count 1 = .ok (.istore_n 1, 1) := by decide +kernel
theorem dL_count_2 : decode cL_count 2 = .ok (.iload_n 0, 1) := by decide +kernel
theorem dL_count_3 : decode cL_count 3 = .ok (.istore_n 2, 1) := by decide +kernel
theorem dL_count_4 : decode cL_count 4 = .ok (.iload_n 2, 1) := by decide +kernel
theorem dL_count_5 : decode cL_count 5 = .ok (.ifCond .le 16, 3) := by decide +kernel
theorem dL_count_8 : decode cL_count 8 = .ok (.iload_n 1, 1) := by decide +kernel
theorem dL_count_9 : decode cL_count 9 = .ok (.iload_n 2, 1) := by decide +kernel
theorem dL_count_10 : decode cL_count 10 = .ok (.iconst 2, 1) := by decide +kernel
theorem dL_count_11 : decode cL_count 11 = .ok (.irem, 1) := by decide +kernel
theorem dL_count_12 : decode cL_count 12 = .ok (.iadd, 1) := by decide +kernel
theorem dL_count_13 : decode cL_count 13 = .ok (.istore_n 1, 1) := by decide +kernel
theorem dL_count_14 : decode cL_count 14 = .ok (.iload_n 2, 1) := by decide +kernel
theorem dL_count_15 : decode cL_count 15 = .ok (.iconst 2, 1) := by decide +kernel
theorem dL_count_16 : decode cL_count 16 = .ok (.idiv, 1) := by decide +kernel
theorem dL_count_17 : decode cL_count 17 = .ok (.istore_n 2, 1) := by decide +kernel
theorem dL_count_18 : decode cL_count 18 = .ok (.goto (-14), 3) := by decide +kernel
theorem dL_count_21 : decode cL_count 21 = .ok (.iload_n 1, 1) := by decide +kernel
theorem dL_count_22 : decode cL_count 22 = .ok (.ireturn, 1) := by decide +kernel
theorem dL_hidden_0 : decode cL_hidden 0 = .ok (.iconst 0, 1) := by decide +kernel
theorem dL_hidden_1 : decode cL_hidden 1 = .ok (.istore_n 1, 1) := by decide +kernel
theorem dL_hidden_2 : decode cL_hidden 2 = .ok (.iconst 0, 1) := by decide +kernel
theorem dL_hidden_3 : decode cL_hidden 3 = .ok (.istore_n 2, 1) := by decide +kernel
theorem dL_hidden_4 : decode cL_hidden 4 = .ok (.iload_n 2, 1) := by decide +kernel
theorem dL_hidden_5 : decode cL_hidden 5 = .ok (.bipush 8, 2) := by decide +kernel
theorem dL_hidden_7 : decode cL_hidden 7 = .ok (.if_icmp .ge 28, 3) := by decide +kernel
theorem dL_hidden_10 : decode cL_hidden 10 = .ok (.iload_n 1, 1) := by decide +kernel
theorem dL_hidden_11 : decode cL_hidden 11 = .ok (.aload_n 0, 1) := by decide +kernel
theorem dL_hidden_12 : decode cL_hidden 12 = .ok (.bipush 6, 2) := by decide +kernel
theorem dL_hidden_14 : decode cL_hidden 14 = .ok (.iload_n 2, 1) := by decide +kernel
theorem dL_hidden_15 : decode cL_hidden 15 = .ok (.imul, 1) := by decide +kernel
theorem dL_hidden_16 : decode cL_hidden 16 = .ok (.iconst 5, 1) := by decide +kernel
theorem dL_hidden_17 : decode cL_hidden 17 = .ok (.iadd, 1) := by decide +kernel
theorem dL_hidden_18 : decode cL_hidden 18 = .ok (.iaload, 1) := by decide +kernel
theorem dL_hidden_19 : decode cL_hidden 19 = .ok (.ifCond .le 7, 3) := by decide +kernel
theorem dL_hidden_22 : decode cL_hidden 22 = .ok (.iconst 1, 1) := by decide +kernel
theorem dL_hidden_23 : decode cL_hidden 23 = .ok (.goto 4, 3) := by decide +kernel
theorem dL_hidden_26 : decode cL_hidden 26 = .ok (.iconst 0, 1) := by decide +kernel
theorem dL_hidden_27 : decode cL_hidden 27 = .ok (.iadd, 1) := by decide +kernel
theorem dL_hidden_28 : decode cL_hidden 28 = .ok (.istore_n 1, 1) := by decide +kernel
theorem dL_hidden_29 : decode cL_hidden 29 = .ok (.iinc 2 1, 3) := by decide +kernel
theorem dL_hidden_32 : decode cL_hidden 32 = .ok (.goto (-28), 3) := by decide +kernel
theorem dL_hidden_35 : decode cL_hidden 35 = .ok (.iload_n 1, 1) := by decide +kernel
theorem dL_hidden_36 : decode cL_hidden 36 = .ok (.ireturn, 1) := by decide +kernel
theorem dL_good_0 : decode cL_good 0 = .ok (.iload_n 2, 1) := by decide +kernel
theorem dL_good_1 : decode cL_good 1 = .ok (.ifCond .eq 27, 3) := by decide +kernel
theorem dL_good_4 : decode cL_good 4 = .ok (.iconst 0, 1) := by decide +kernel
theorem dL_good_5 : decode cL_good 5 = .ok (.iload_n 2, 1) := by decide +kernel
theorem dL_good_6 : decode cL_good 6 = .ok (.invokestatic 10, 3) := by decide +kernel
theorem dL_good_9 : decode cL_good 9 = .ok (.aload_n 1, 1) := by decide +kernel
theorem dL_good_10 : decode cL_good 10 = .ok (.bipush 8, 2) := by decide +kernel
theorem dL_good_12 : decode cL_good 12 = .ok (.iaload, 1) := by decide +kernel
theorem dL_good_13 : decode cL_good 13 = .ok (.if_icmp .gt 15, 3) := by decide +kernel
theorem dL_good_16 : decode cL_good 16 = .ok (.aload_n 0, 1) := by decide +kernel
theorem dL_good_17 : decode cL_good 17 = .ok (.iconst 2, 1) := by decide +kernel
theorem dL_good_18 : decode cL_good 18 = .ok (.iload_n 2, 1) := by decide +kernel
theorem dL_good_19 : decode cL_good 19 = .ok (.imul, 1) := by decide +kernel
theorem dL_good_20 : decode cL_good 20 = .ok (.iaload, 1) := by decide +kernel
theorem dL_good_21 : decode cL_good 21 = .ok (.ifCond .ne 7, 3) := by decide +kernel
theorem dL_good_24 : decode cL_good 24 = .ok (.iconst 1, 1) := by decide +kernel
theorem dL_good_25 : decode cL_good 25 = .ok (.goto 4, 3) := by decide +kernel
theorem dL_good_28 : decode cL_good 28 = .ok (.iconst 0, 1) := by decide +kernel
theorem dL_good_29 : decode cL_good 29 = .ok (.ireturn, 1) := by decide +kernel
theorem dL_end_0 : decode cL_end 0 = .ok (.aload_n 3, 1) := by decide +kernel
theorem dL_end_1 : decode cL_end 1 = .ok (.iconst 5, 1) := by decide +kernel
theorem dL_end_2 : decode cL_end 2 = .ok (.dup2, 1) := by decide +kernel
theorem dL_end_3 : decode cL_end 3 = .ok (.iaload, 1) := by decide +kernel
theorem dL_end_4 : decode cL_end 4 = .ok (.iconst 1, 1) := by decide +kernel
theorem dL_end_5 : decode cL_end 5 = .ok (.iadd, 1) := by decide +kernel
theorem dL_end_6 : decode cL_end 6 = .ok (.iastore, 1) := by decide +kernel
theorem dL_end_7 : decode cL_end 7 = .ok (.aload_n 3, 1) := by decide +kernel
theorem dL_end_8 : decode cL_end 8 = .ok (.bipush 6, 2) := by decide +kernel
theorem dL_end_10 : decode cL_end 10 = .ok (.iconst 0, 1) := by decide +kernel
theorem dL_end_11 : decode cL_end 11 = .ok (.iastore, 1) := by decide +kernel
theorem dL_end_12 : decode cL_end 12 = .ok (.aload_n 3, 1) := by decide +kernel
theorem dL_end_13 : decode cL_end 13 = .ok (.bipush 10, 2) := by decide +kernel
theorem dL_end_15 : decode cL_end 15 = .ok (.iconst 0, 1) := by decide +kernel
theorem dL_end_16 : decode cL_end 16 = .ok (.iastore, 1) := by decide +kernel
theorem dL_end_17 : decode cL_end 17 = .ok (.iconst 0, 1) := by decide +kernel
theorem dL_end_18 : decode cL_end 18 = .ok (.istore 4, 2) := by decide +kernel
theorem dL_end_20 : decode cL_end 20 = .ok (.iload 4, 2) := by decide +kernel
theorem dL_end_22 : decode cL_end 22 = .ok (.bipush 8, 2) := by decide +kernel
theorem dL_end_24 : decode cL_end 24 = .ok (.if_icmp .ge 19, 3) := by decide +kernel
theorem dL_end_27 : decode cL_end 27 = .ok (.aload_n 0, 1) := by decide +kernel
theorem dL_end_28 : decode cL_end 28 = .ok (.bipush 6, 2) := by decide +kernel
theorem dL_end_30 : decode cL_end 30 = .ok (.iload 4, 2) := by decide +kernel
theorem dL_end_32 : decode cL_end 32 = .ok (.imul, 1) := by decide +kernel
theorem dL_end_33 : decode cL_end 33 = .ok (.iconst 5, 1) := by decide +kernel
theorem dL_end_34 : decode cL_end 34 = .ok (.iadd, 1) := by decide +kernel
theorem dL_end_35 : decode cL_end 35 = .ok (.iconst (-1), 1) := by decide +kernel
theorem dL_end_36 : decode cL_end 36 = .ok (.iastore, 1) := by decide +kernel
theorem dL_end_37 : decode cL_end 37 = .ok (.iinc 4 1, 3) := by decide +kernel
theorem dL_end_40 : decode cL_end 40 = .ok (.goto (-20), 3) := by decide +kernel
theorem dL_end_43 : decode cL_end 43 = .ok (.iconst 0, 1) := by decide +kernel
theorem dL_end_44 : decode cL_end 44 = .ok (.istore 4, 2) := by decide +kernel
theorem dL_end_46 : decode cL_end 46 = .ok (.iload 4, 2) := by decide +kernel
theorem dL_end_48 : decode cL_end 48 = .ok (.bipush 16, 2) := by decide +kernel
theorem dL_end_50 : decode cL_end 50 = .ok (.if_icmp .ge 77, 3) := by decide +kernel
theorem dL_end_53 : decode cL_end 53 = .ok (.aload_n 2, 1) := by decide +kernel
theorem dL_end_54 : decode cL_end 54 = .ok (.iconst 2, 1) := by decide +kernel
theorem dL_end_55 : decode cL_end 55 = .ok (.iload 4, 2) := by decide +kernel
theorem dL_end_57 : decode cL_end 57 = .ok (.imul, 1) := by decide +kernel
theorem dL_end_58 : decode cL_end 58 = .ok (.iconst 1, 1) := by decide +kernel
theorem dL_end_59 : decode cL_end 59 = .ok (.iadd, 1) := by decide +kernel
theorem dL_end_60 : decode cL_end 60 = .ok (.dup2, 1) := by decide +kernel
theorem dL_end_61 : decode cL_end 61 = .ok (.iaload, 1) := by decide +kernel
theorem dL_end_62 : decode cL_end 62 = .ok (.aload_n 2, 1) := by decide +kernel
theorem dL_end_63 : decode cL_end 63 = .ok (.iconst 2, 1) := by decide +kernel
theorem dL_end_64 : decode cL_end 64 = .ok (.iload 4, 2) := by decide +kernel
theorem dL_end_66 : decode cL_end 66 = .ok (.imul, 1) := by decide +kernel
theorem dL_end_67 : decode cL_end 67 = .ok (.iaload, 1) := by decide +kernel
theorem dL_end_68 : decode cL_end 68 = .ok (.iadd, 1) := by decide +kernel
theorem dL_end_69 : decode cL_end 69 = .ok (.iastore, 1) := by decide +kernel
theorem dL_end_70 : decode cL_end 70 = .ok (.aload_n 2, 1) := by decide +kernel
theorem dL_end_71 : decode cL_end 71 = .ok (.iconst 2, 1) := by decide +kernel
theorem dL_end_72 : decode cL_end 72 = .ok (.iload 4, 2) := by decide +kernel
theorem dL_end_74 : decode cL_end 74 = .ok (.imul, 1) := by decide +kernel
theorem dL_end_75 : decode cL_end 75 = .ok (.iaload, 1) := by decide +kernel
theorem dL_end_76 : decode cL_end 76 = .ok (.iconst 1, 1) := by decide +kernel
theorem dL_end_77 : decode cL_end 77 = .ok (.if_icmp .ne 44, 3) := by decide +kernel
theorem dL_end_80 : decode cL_end 80 = .ok (.aload_n 3, 1) := by decide +kernel
theorem dL_end_81 : decode cL_end 81 = .ok (.iconst 2, 1) := by decide +kernel
theorem dL_end_82 : decode cL_end 82 = .ok (.iaload, 1) := by decide +kernel
theorem dL_end_83 : decode cL_end 83 = .ok (.ifCond .le 38, 3) := by decide +kernel
theorem dL_end_86 : decode cL_end 86 = .ok (.aload_n 2, 1) := by decide +kernel
theorem dL_end_87 : decode cL_end 87 = .ok (.iconst 2, 1) := by decide +kernel
theorem dL_end_88 : decode cL_end 88 = .ok (.iload 4, 2) := by decide +kernel
theorem dL_end_90 : decode cL_end 90 = .ok (.imul, 1) := by decide +kernel
theorem dL_end_91 : decode cL_end 91 = .ok (.iconst 1, 1) := by decide +kernel
theorem dL_end_92 : decode cL_end 92 = .ok (.iadd, 1) := by decide +kernel
theorem dL_end_93 : decode cL_end 93 = .ok (.iaload, 1) := by decide +kernel
theorem dL_end_94 : decode cL_end 94 = .ok (.aload_n 3, 1) := by decide +kernel
theorem dL_end_95 : decode cL_end 95 = .ok (.iconst 2, 1) := by decide +kernel
theorem dL_end_96 : decode cL_end 96 = .ok (.iaload, 1) := by decide +kernel
theorem dL_end_97 : decode cL_end 97 = .ok (.if_icmp .lt 24, 3) := by decide +kernel
theorem dL_end_100 : decode cL_end 100 = .ok (.aload_n 2, 1) := by decide +kernel
theorem dL_end_101 : decode cL_end 101 = .ok (.iconst 2, 1) := by decide +kernel
theorem dL_end_102 : decode cL_end 102 = .ok (.iload 4, 2) := by decide +kernel
theorem dL_end_104 : decode cL_end 104 = .ok (.imul, 1) := by decide +kernel
theorem dL_end_105 : decode cL_end 105 = .ok (.iconst 0, 1) := by decide +kernel
theorem dL_end_106 : decode cL_end 106 = .ok (.iastore, 1) := by decide +kernel
theorem dL_end_107 : decode cL_end 107 = .ok (.aload_n 2, 1) := by decide +kernel
theorem dL_end_108 : decode cL_end 108 = .ok (.iconst 2, 1) := by decide +kernel
theorem dL_end_109 : decode cL_end 109 = .ok (.iload 4, 2) := by decide +kernel
theorem dL_end_111 : decode cL_end 111 = .ok (.imul, 1) := by decide +kernel
theorem dL_end_112 : decode cL_end 112 = .ok (.iconst 1, 1) := by decide +kernel
theorem dL_end_113 : decode cL_end 113 = .ok (.iadd, 1) := by decide +kernel
theorem dL_end_114 : decode cL_end 114 = .ok (.iconst 0, 1) := by decide +kernel
theorem dL_end_115 : decode cL_end 115 = .ok (.iastore, 1) := by decide +kernel
theorem dL_end_116 : decode cL_end 116 = .ok (.aload_n 1, 1) := by decide +kernel
theorem dL_end_117 : decode cL_end 117 = .ok (.iload 4, 2) := by decide +kernel
theorem dL_end_119 : decode cL_end 119 = .ok (.iconst 0, 1) := by decide +kernel
theorem dL_end_120 : decode cL_end 120 = .ok (.iastore, 1) := by decide +kernel
theorem dL_end_121 : decode cL_end 121 = .ok (.iinc 4 1, 3) := by decide +kernel
theorem dL_end_124 : decode cL_end 124 = .ok (.goto (-78), 3) := by decide +kernel
theorem dL_end_127 : decode cL_end 127 = .ok (.return_, 1) := by decide +kernel
theorem dL_ahead_0 : decode cL_ahead 0 = .ok (.aload_n 0, 1) := by decide +kernel
theorem dL_ahead_1 : decode cL_ahead 1 = .ok (.bipush 6, 2) := by decide +kernel
theorem dL_ahead_3 : decode cL_ahead 3 = .ok (.iload_n 1, 1) := by decide +kernel
theorem dL_ahead_4 : decode cL_ahead 4 = .ok (.imul, 1) := by decide +kernel
theorem dL_ahead_5 : decode cL_ahead 5 = .ok (.iaload, 1) := by decide +kernel
theorem dL_ahead_6 : decode cL_ahead 6 = .ok (.aload_n 0, 1) := by decide +kernel
theorem dL_ahead_7 : decode cL_ahead 7 = .ok (.bipush 6, 2) := by decide +kernel
theorem dL_ahead_9 : decode cL_ahead 9 = .ok (.iload_n 2, 1) := by decide +kernel
theorem dL_ahead_10 : decode cL_ahead 10 = .ok (.imul, 1) := by decide +kernel
theorem dL_ahead_11 : decode cL_ahead 11 = .ok (.iaload, 1) := by decide +kernel
theorem dL_ahead_12 : decode cL_ahead 12 = .ok (.isub, 1) := by decide +kernel
theorem dL_ahead_13 : decode cL_ahead 13 = .ok (.istore_n 3, 1) := by decide +kernel
theorem dL_ahead_14 : decode cL_ahead 14 = .ok (.aload_n 0, 1) := by decide +kernel
theorem dL_ahead_15 : decode cL_ahead 15 = .ok (.bipush 6, 2) := by decide +kernel
theorem dL_ahead_17 : decode cL_ahead 17 = .ok (.iload_n 2, 1) := by decide +kernel
theorem dL_ahead_18 : decode cL_ahead 18 = .ok (.imul, 1) := by decide +kernel
theorem dL_ahead_19 : decode cL_ahead 19 = .ok (.iconst 3, 1) := by decide +kernel
theorem dL_ahead_20 : decode cL_ahead 20 = .ok (.iadd, 1) := by decide +kernel
theorem dL_ahead_21 : decode cL_ahead 21 = .ok (.iaload, 1) := by decide +kernel
theorem dL_ahead_22 : decode cL_ahead 22 = .ok (.aload_n 0, 1) := by decide +kernel
theorem dL_ahead_23 : decode cL_ahead 23 = .ok (.bipush 6, 2) := by decide +kernel
theorem dL_ahead_25 : decode cL_ahead 25 = .ok (.iload_n 1, 1) := by decide +kernel
theorem dL_ahead_26 : decode cL_ahead 26 = .ok (.imul, 1) := by decide +kernel
theorem dL_ahead_27 : decode cL_ahead 27 = .ok (.iconst 3, 1) := by decide +kernel
theorem dL_ahead_28 : decode cL_ahead 28 = .ok (.iadd, 1) := by decide +kernel
theorem dL_ahead_29 : decode cL_ahead 29 = .ok (.iaload, 1) := by decide +kernel
theorem dL_ahead_30 : decode cL_ahead 30 = .ok (.isub, 1) := by decide +kernel
theorem dL_ahead_31 : decode cL_ahead 31 = .ok (.istore 4, 2) := by decide +kernel
theorem dL_ahead_33 : decode cL_ahead 33 = .ok (.iload_n 3, 1) := by decide +kernel
theorem dL_ahead_34 : decode cL_ahead 34 = .ok (.ifCond .gt 22, 3) := by decide +kernel
theorem dL_ahead_37 : decode cL_ahead 37 = .ok (.iload_n 3, 1) := by decide +kernel
theorem dL_ahead_38 : decode cL_ahead 38 = .ok (.ifCond .ne 22, 3) := by decide +kernel
theorem dL_ahead_41 : decode cL_ahead 41 = .ok (.iload 4, 2) := by decide +kernel
theorem dL_ahead_43 : decode cL_ahead 43 = .ok (.ifCond .gt 13, 3) := by decide +kernel
theorem dL_ahead_46 : decode cL_ahead 46 = .ok (.iload 4, 2) := by decide +kernel
theorem dL_ahead_48 : decode cL_ahead 48 = .ok (.ifCond .ne 12, 3) := by decide +kernel
theorem dL_ahead_51 : decode cL_ahead 51 = .ok (.iload_n 1, 1) := by decide +kernel
theorem dL_ahead_52 : decode cL_ahead 52 = .ok (.iload_n 2, 1) := by decide +kernel
theorem dL_ahead_53 : decode cL_ahead 53 = .ok (.if_icmp .ge 7, 3) := by decide +kernel
theorem dL_ahead_56 : decode cL_ahead 56 = .ok (.iconst 1, 1) := by decide +kernel
theorem dL_ahead_57 : decode cL_ahead 57 = .ok (.goto 4, 3) := by decide +kernel
theorem dL_ahead_60 : decode cL_ahead 60 = .ok (.iconst 0, 1) := by decide +kernel
theorem dL_ahead_61 : decode cL_ahead 61 = .ok (.ireturn, 1) := by decide +kernel
theorem dL_steps_0 : decode cL_steps 0 = .ok (.bipush 99, 2) := by decide +kernel
theorem dL_steps_2 : decode cL_steps 2 = .ok (.istore_n 2, 1) := by decide +kernel
theorem dL_steps_3 : decode cL_steps 3 = .ok (.iconst (-1), 1) := by decide +kernel
theorem dL_steps_4 : decode cL_steps 4 = .ok (.istore_n 3, 1) := by decide +kernel
theorem dL_steps_5 : decode cL_steps 5 = .ok (.iload_n 3, 1) := by decide +kernel
theorem dL_steps_6 : decode cL_steps 6 = .ok (.iconst 2, 1) := by decide +kernel
theorem dL_steps_7 : decode cL_steps 7 = .ok (.if_icmp .ge 222, 3) := by decide +kernel
theorem dL_steps_10 : decode cL_steps 10 = .ok (.iconst 0, 1) := by decide +kernel
theorem dL_steps_11 : decode cL_steps 11 = .ok (.istore 4, 2) := by decide +kernel
theorem dL_steps_13 : decode cL_steps 13 = .ok (.iload 4, 2) := by decide +kernel
theorem dL_steps_15 : decode cL_steps 15 = .ok (.bipush 17, 2) := by decide +kernel
theorem dL_steps_17 : decode cL_steps 17 = .ok (.if_icmp .ge 206, 3) := by decide +kernel
theorem dL_steps_20 : decode cL_steps 20 = .ok (.iconst 0, 1) := by decide +kernel
theorem dL_steps_21 : decode cL_steps 21 = .ok (.istore 5, 2) := by decide +kernel
theorem dL_steps_23 : decode cL_steps 23 = .ok (.iload 5, 2) := by decide +kernel
theorem dL_steps_25 : decode cL_steps 25 = .ok (.bipush 34, 2) := by decide +kernel
theorem dL_steps_27 : decode cL_steps 27 = .ok (.if_icmp .ge 190, 3) := by decide +kernel
theorem dL_steps_30 : decode cL_steps 30 = .ok (.iconst 1, 1) := by decide +kernel
theorem dL_steps_31 : decode cL_steps 31 = .ok (.istore 6, 2) := by decide +kernel
theorem dL_steps_33 : decode cL_steps 33 = .ok (.iconst 0, 1) := by decide +kernel
theorem dL_steps_34 : decode cL_steps 34 = .ok (.istore 7, 2) := by decide +kernel
theorem dL_steps_36 : decode cL_steps 36 = .ok (.iload 7, 2) := by decide +kernel
theorem dL_steps_38 : decode cL_steps 38 = .ok (.bipush 8, 2) := by decide +kernel
theorem dL_steps_40 : decode cL_steps 40 = .ok (.if_icmp .ge 133, 3) := by decide +kernel
theorem dL_steps_43 : decode cL_steps 43 = .ok (.aload_n 0, 1) := by decide +kernel
theorem dL_steps_44 : decode cL_steps 44 = .ok (.bipush 6, 2) := by decide +kernel
theorem dL_steps_46 : decode cL_steps 46 = .ok (.iload 7, 2) := by decide +kernel
theorem dL_steps_48 : decode cL_steps 48 = .ok (.imul, 1) := by decide +kernel
theorem dL_steps_49 : decode cL_steps 49 = .ok (.iconst 5, 1) := by decide +kernel
theorem dL_steps_50 : decode cL_steps 50 = .ok (.iadd, 1) := by decide +kernel
theorem dL_steps_51 : decode cL_steps 51 = .ok (.iaload, 1) := by decide +kernel
theorem dL_steps_52 : decode cL_steps 52 = .ok (.ifCond .ge 7, 3) := by decide +kernel
theorem dL_steps_55 : decode cL_steps 55 = .ok (.iconst 1, 1) := by decide +kernel
theorem dL_steps_56 : decode cL_steps 56 = .ok (.goto 4, 3) := by decide +kernel
theorem dL_steps_59 : decode cL_steps 59 = .ok (.iconst 0, 1) := by decide +kernel
theorem dL_steps_60 : decode cL_steps 60 = .ok (.istore 8, 2) := by decide +kernel
theorem dL_steps_62 : decode cL_steps 62 = .ok (.iconst 0, 1) := by decide +kernel
theorem dL_steps_63 : decode cL_steps 63 = .ok (.istore 9, 2) := by decide +kernel
theorem dL_steps_65 : decode cL_steps 65 = .ok (.iload 9, 2) := by decide +kernel
theorem dL_steps_67 : decode cL_steps 67 = .ok (.iload 4, 2) := by decide +kernel
theorem dL_steps_69 : decode cL_steps 69 = .ok (.iload 5, 2) := by decide +kernel
theorem dL_steps_71 : decode cL_steps 71 = .ok (.iadd, 1) := by decide +kernel
theorem dL_steps_72 : decode cL_steps 72 = .ok (.if_icmp .gt 78, 3) := by decide +kernel
theorem dL_steps_75 : decode cL_steps 75 = .ok (.iload 9, 2) := by decide +kernel
theorem dL_steps_77 : decode cL_steps 77 = .ok (.iload 4, 2) := by decide +kernel
theorem dL_steps_79 : decode cL_steps 79 = .ok (.if_icmp .gt 10, 3) := by decide +kernel
theorem dL_steps_82 : decode cL_steps 82 = .ok (.iload_n 3, 1) := by decide +kernel
theorem dL_steps_83 : decode cL_steps 83 = .ok (.iload 9, 2) := by decide +kernel
theorem dL_steps_85 : decode cL_steps 85 = .ok (.imul, 1) := by decide +kernel
theorem dL_steps_86 : decode cL_steps 86 = .ok (.goto 13, 3) := by decide +kernel
theorem dL_steps_89 : decode cL_steps 89 = .ok (.iload_n 3, 1) := by decide +kernel
theorem dL_steps_90 : decode cL_steps 90 = .ok (.iload 4, 2) := by decide +kernel
theorem dL_steps_92 : decode cL_steps 92 = .ok (.iload 9, 2) := by decide +kernel
theorem dL_steps_94 : decode cL_steps 94 = .ok (.iload 4, 2) := by decide +kernel
theorem dL_steps_96 : decode cL_steps 96 = .ok (.isub, 1) := by decide +kernel
theorem dL_steps_97 : decode cL_steps 97 = .ok (.isub, 1) := by decide +kernel
theorem dL_steps_98 : decode cL_steps 98 = .ok (.imul, 1) := by decide +kernel
theorem dL_steps_99 : decode cL_steps 99 = .ok (.istore 10, 2) := by decide +kernel
theorem dL_steps_101 : decode cL_steps 101 = .ok (.iload 8, 2) := by decide +kernel
theorem dL_steps_103 : decode cL_steps 103 = .ok (.ifCond .ne 34, 3) := by decide +kernel
theorem dL_steps_106 : decode cL_steps 106 = .ok (.aload_n 1, 1) := by decide +kernel
theorem dL_steps_107 : decode cL_steps 107 = .ok (.bipush 9, 2) := by decide +kernel
theorem dL_steps_109 : decode cL_steps 109 = .ok (.iaload, 1) := by decide +kernel
theorem dL_steps_110 : decode cL_steps 110 = .ok (.iload 10, 2) := by decide +kernel
theorem dL_steps_112 : decode cL_steps 112 = .ok (.iadd, 1) := by decide +kernel
theorem dL_steps_113 : decode cL_steps 113 = .ok (.bipush 64, 2) := by decide +kernel
theorem dL_steps_115 : decode cL_steps 115 = .ok (.iadd, 1) := by decide +kernel
theorem dL_steps_116 : decode cL_steps 116 = .ok (.bipush 16, 2) := by decide +kernel
theorem dL_steps_118 : decode cL_steps 118 = .ok (.irem, 1) := by decide +kernel
theorem dL_steps_119 : decode cL_steps 119 = .ok (.aload_n 0, 1) := by decide +kernel
theorem dL_steps_120 : decode cL_steps 120 = .ok (.bipush 6, 2) := by decide +kernel
theorem dL_steps_122 : decode cL_steps 122 = .ok (.iload 7, 2) := by decide +kernel
theorem dL_steps_124 : decode cL_steps 124 = .ok (.imul, 1) := by decide +kernel
theorem dL_steps_125 : decode cL_steps 125 = .ok (.iconst 5, 1) := by decide +kernel
theorem dL_steps_126 : decode cL_steps 126 = .ok (.iadd, 1) := by decide +kernel
theorem dL_steps_127 : decode cL_steps 127 = .ok (.iaload, 1) := by decide +kernel
theorem dL_steps_128 : decode cL_steps 128 = .ok (.invokestatic 10, 3) := by decide +kernel
theorem dL_steps_131 : decode cL_steps 131 = .ok (.aload_n 1, 1) := by decide +kernel
theorem dL_steps_132 : decode cL_steps 132 = .ok (.iconst 0, 1) := by decide +kernel
theorem dL_steps_133 : decode cL_steps 133 = .ok (.iaload, 1) := by decide +kernel
theorem dL_steps_134 : decode cL_steps 134 = .ok (.if_icmp .gt 7, 3) := by decide +kernel
theorem dL_steps_137 : decode cL_steps 137 = .ok (.iconst 1, 1) := by decide +kernel
theorem dL_steps_138 : decode cL_steps 138 = .ok (.goto 4, 3) := by decide +kernel
theorem dL_steps_141 : decode cL_steps 141 = .ok (.iconst 0, 1) := by decide +kernel
theorem dL_steps_142 : decode cL_steps 142 = .ok (.istore 8, 2) := by decide +kernel
theorem dL_steps_144 : decode cL_steps 144 = .ok (.iinc 9 1, 3) := by decide +kernel
theorem dL_steps_147 : decode cL_steps 147 = .ok (.goto (-82), 3) := by decide +kernel
theorem dL_steps_150 : decode cL_steps 150 = .ok (.iload 6, 2) := by decide +kernel
theorem dL_steps_152 : decode cL_steps 152 = .ok (.ifCond .eq 12, 3) := by decide +kernel
theorem dL_steps_155 : decode cL_steps 155 = .ok (.iload 8, 2) := by decide +kernel
theorem dL_steps_157 : decode cL_steps 157 = .ok (.ifCond .eq 7, 3) := by decide +kernel
theorem dL_steps_160 : decode cL_steps 160 = .ok (.iconst 1, 1) := by decide +kernel
theorem dL_steps_161 : decode cL_steps 161 = .ok (.goto 4, 3) := by decide +kernel
theorem dL_steps_164 : decode cL_steps 164 = .ok (.iconst 0, 1) := by decide +kernel
theorem dL_steps_165 : decode cL_steps 165 = .ok (.istore 6, 2) := by decide +kernel
theorem dL_steps_167 : decode cL_steps 167 = .ok (.iinc 7 1, 3) := by decide +kernel
theorem dL_steps_170 : decode cL_steps 170 = .ok (.goto (-134), 3) := by decide +kernel
theorem dL_steps_173 : decode cL_steps 173 = .ok (.iload 6, 2) := by decide +kernel
theorem dL_steps_175 : decode cL_steps 175 = .ok (.ifCond .eq 20, 3) := by decide +kernel
theorem dL_steps_178 : decode cL_steps 178 = .ok (.iload 4, 2) := by decide +kernel
theorem dL_steps_180 : decode cL_steps 180 = .ok (.iload 5, 2) := by decide +kernel
theorem dL_steps_182 : decode cL_steps 182 = .ok (.iadd, 1) := by decide +kernel
theorem dL_steps_183 : decode cL_steps 183 = .ok (.iload_n 2, 1) := by decide +kernel
theorem dL_steps_184 : decode cL_steps 184 = .ok (.if_icmp .ge 11, 3) := by decide +kernel
theorem dL_steps_187 : decode cL_steps 187 = .ok (.iload 4, 2) := by decide +kernel
theorem dL_steps_189 : decode cL_steps 189 = .ok (.iload 5, 2) := by decide +kernel
theorem dL_steps_191 : decode cL_steps 191 = .ok (.iadd, 1) := by decide +kernel
theorem dL_steps_192 : decode cL_steps 192 = .ok (.goto 4, 3) := by decide +kernel
theorem dL_steps_195 : decode cL_steps 195 = .ok (.iload_n 2, 1) := by decide +kernel
theorem dL_steps_196 : decode cL_steps 196 = .ok (.istore_n 2, 1) := by decide +kernel
theorem dL_steps_197 : decode cL_steps 197 = .ok (.iload 6, 2) := by decide +kernel
theorem dL_steps_199 : decode cL_steps 199 = .ok (.ifCond .eq 8, 3) := by decide +kernel
theorem dL_steps_202 : decode cL_steps 202 = .ok (.bipush 34, 2) := by decide +kernel
theorem dL_steps_204 : decode cL_steps 204 = .ok (.goto 5, 3) := by decide +kernel
theorem dL_steps_207 : decode cL_steps 207 = .ok (.iload 5, 2) := by decide +kernel
theorem dL_steps_209 : decode cL_steps 209 = .ok (.istore 5, 2) := by decide +kernel
theorem dL_steps_211 : decode cL_steps 211 = .ok (.iinc 5 1, 3) := by decide +kernel
theorem dL_steps_214 : decode cL_steps 214 = .ok (.goto (-191), 3) := by decide +kernel
theorem dL_steps_217 : decode cL_steps 217 = .ok (.iinc 4 1, 3) := by decide +kernel
theorem dL_steps_220 : decode cL_steps 220 = .ok (.goto (-207), 3) := by decide +kernel
theorem dL_steps_223 : decode cL_steps 223 = .ok (.iinc 3 2, 3) := by decide +kernel
theorem dL_steps_226 : decode cL_steps 226 = .ok (.goto (-221), 3) := by decide +kernel
theorem dL_steps_229 : decode cL_steps 229 = .ok (.iload_n 2, 1) := by decide +kernel
theorem dL_steps_230 : decode cL_steps 230 = .ok (.ireturn, 1) := by decide +kernel
theorem dL_league_0 : decode cL_league 0 = .ok (.sipush (-10006), 3) := by decide +kernel
theorem dL_league_3 : decode cL_league 3 = .ok (.istore 5, 2) := by decide +kernel
theorem dL_league_5 : decode cL_league 5 = .ok (.iconst 0, 1) := by decide +kernel
theorem dL_league_6 : decode cL_league 6 = .ok (.istore 6, 2) := by decide +kernel
theorem dL_league_8 : decode cL_league 8 = .ok (.iconst 0, 1) := by decide +kernel
theorem dL_league_9 : decode cL_league 9 = .ok (.istore 7, 2) := by decide +kernel
theorem dL_league_11 : decode cL_league 11 = .ok (.iconst (-1), 1) := by decide +kernel
theorem dL_league_12 : decode cL_league 12 = .ok (.istore 8, 2) := by decide +kernel
theorem dL_league_14 : decode cL_league 14 = .ok (.iconst 0, 1) := by decide +kernel
theorem dL_league_15 : decode cL_league 15 = .ok (.istore 9, 2) := by decide +kernel
theorem dL_league_17 : decode cL_league 17 = .ok (.iload 9, 2) := by decide +kernel
theorem dL_league_19 : decode cL_league 19 = .ok (.aload 4, 2) := by decide +kernel
theorem dL_league_21 : decode cL_league 21 = .ok (.iconst 4, 1) := by decide +kernel
theorem dL_league_22 : decode cL_league 22 = .ok (.iaload, 1) := by decide +kernel
theorem dL_league_23 : decode cL_league 23 = .ok (.if_icmp .ge 237, 3) := by decide +kernel
theorem dL_league_26 : decode cL_league 26 = .ok (.iconst 0, 1) := by decide +kernel
theorem dL_league_27 : decode cL_league 27 = .ok (.istore 10, 2) := by decide +kernel
theorem dL_league_29 : decode cL_league 29 = .ok (.iconst 0, 1) := by decide +kernel
theorem dL_league_30 : decode cL_league 30 = .ok (.istore 11, 2) := by decide +kernel
theorem dL_league_32 : decode cL_league 32 = .ok (.iload 11, 2) := by decide +kernel
theorem dL_league_34 : decode cL_league 34 = .ok (.aload 4, 2) := by decide +kernel
theorem dL_league_36 : decode cL_league 36 = .ok (.iconst 4, 1) := by decide +kernel
theorem dL_league_37 : decode cL_league 37 = .ok (.iaload, 1) := by decide +kernel
theorem dL_league_38 : decode cL_league 38 = .ok (.if_icmp .ge 37, 3) := by decide +kernel
theorem dL_league_41 : decode cL_league 41 = .ok (.iload 10, 2) := by decide +kernel
theorem dL_league_43 : decode cL_league 43 = .ok (.iload 11, 2) := by decide +kernel
theorem dL_league_45 : decode cL_league 45 = .ok (.iload 9, 2) := by decide +kernel
theorem dL_league_47 : decode cL_league 47 = .ok (.if_icmp .eq 18, 3) := by decide +kernel
theorem dL_league_50 : decode cL_league 50 = .ok (.aload_n 1, 1) := by decide +kernel
theorem dL_league_51 : decode cL_league 51 = .ok (.iload 11, 2) := by decide +kernel
theorem dL_league_53 : decode cL_league 53 = .ok (.iload 9, 2) := by decide +kernel
theorem dL_league_55 : decode cL_league 55 = .ok (.invokestatic 18, 3) := by decide +kernel
theorem dL_league_58 : decode cL_league 58 = .ok (.ifCond .eq 7, 3) := by decide +kernel
theorem dL_league_61 : decode cL_league 61 = .ok (.iconst 1, 1) := by decide +kernel
theorem dL_league_62 : decode cL_league 62 = .ok (.goto 4, 3) := by decide +kernel
theorem dL_league_65 : decode cL_league 65 = .ok (.iconst 0, 1) := by decide +kernel
theorem dL_league_66 : decode cL_league 66 = .ok (.iadd, 1) := by decide +kernel
theorem dL_league_67 : decode cL_league 67 = .ok (.istore 10, 2) := by decide +kernel
theorem dL_league_69 : decode cL_league 69 = .ok (.iinc 11 1, 3) := by decide +kernel
theorem dL_league_72 : decode cL_league 72 = .ok (.goto (-40), 3) := by decide +kernel
theorem dL_league_75 : decode cL_league 75 = .ok (.iload 6, 2) := by decide +kernel
theorem dL_league_77 : decode cL_league 77 = .ok (.aload_n 1, 1) := by decide +kernel
theorem dL_league_78 : decode cL_league 78 = .ok (.bipush 6, 2) := by decide +kernel
theorem dL_league_80 : decode cL_league 80 = .ok (.iload 9, 2) := by decide +kernel
theorem dL_league_82 : decode cL_league 82 = .ok (.imul, 1) := by decide +kernel
theorem dL_league_83 : decode cL_league 83 = .ok (.iaload, 1) := by decide +kernel
theorem dL_league_84 : decode cL_league 84 = .ok (.iadd, 1) := by decide +kernel
theorem dL_league_85 : decode cL_league 85 = .ok (.istore 6, 2) := by decide +kernel
theorem dL_league_87 : decode cL_league 87 = .ok (.iload 8, 2) := by decide +kernel
theorem dL_league_89 : decode cL_league 89 = .ok (.ifCond .lt 56, 3) := by decide +kernel
theorem dL_league_92 : decode cL_league 92 = .ok (.aload_n 1, 1) := by decide +kernel
theorem dL_league_93 : decode cL_league 93 = .ok (.bipush 6, 2) := by decide +kernel
theorem dL_league_95 : decode cL_league 95 = .ok (.iload 9, 2) := by decide +kernel
theorem dL_league_97 : decode cL_league 97 = .ok (.imul, 1) := by decide +kernel
theorem dL_league_98 : decode cL_league 98 = .ok (.iconst 1, 1) := by decide +kernel
theorem dL_league_99 : decode cL_league 99 = .ok (.iadd, 1) := by decide +kernel
theorem dL_league_100 : decode cL_league 100 = .ok (.iaload, 1) := by decide +kernel
theorem dL_league_101 : decode cL_league 101 = .ok (.aload_n 1, 1) := by decide +kernel
theorem dL_league_102 : decode cL_league 102 = .ok (.bipush 6, 2) := by decide +kernel
theorem dL_league_104 : decode cL_league 104 = .ok (.iload 8, 2) := by decide +kernel
theorem dL_league_106 : decode cL_league 106 = .ok (.imul, 1) := by decide +kernel
theorem dL_league_107 : decode cL_league 107 = .ok (.iconst 1, 1) := by decide +kernel
theorem dL_league_108 : decode cL_league 108 = .ok (.iadd, 1) := by decide +kernel
theorem dL_league_109 : decode cL_league 109 = .ok (.iaload, 1) := by decide +kernel
theorem dL_league_110 : decode cL_league 110 = .ok (.if_icmp .lt 35, 3) := by decide +kernel
theorem dL_league_113 : decode cL_league 113 = .ok (.aload_n 1, 1) := by decide +kernel
theorem dL_league_114 : decode cL_league 114 = .ok (.bipush 6, 2) := by decide +kernel
theorem dL_league_116 : decode cL_league 116 = .ok (.iload 9, 2) := by decide +kernel
theorem dL_league_118 : decode cL_league 118 = .ok (.imul, 1) := by decide +kernel
theorem dL_league_119 : decode cL_league 119 = .ok (.iconst 1, 1) := by decide +kernel
theorem dL_league_120 : decode cL_league 120 = .ok (.iadd, 1) := by decide +kernel
theorem dL_league_121 : decode cL_league 121 = .ok (.iaload, 1) := by decide +kernel
theorem dL_league_122 : decode cL_league 122 = .ok (.aload_n 1, 1) := by decide +kernel
theorem dL_league_123 : decode cL_league 123 = .ok (.bipush 6, 2) := by decide +kernel
theorem dL_league_125 : decode cL_league 125 = .ok (.iload 8, 2) := by decide +kernel
theorem dL_league_127 : decode cL_league 127 = .ok (.imul, 1) := by decide +kernel
theorem dL_league_128 : decode cL_league 128 = .ok (.iconst 1, 1) := by decide +kernel
theorem dL_league_129 : decode cL_league 129 = .ok (.iadd, 1) := by decide +kernel
theorem dL_league_130 : decode cL_league 130 = .ok (.iaload, 1) := by decide +kernel
theorem dL_league_131 : decode cL_league 131 = .ok (.if_icmp .ne 19, 3) := by decide +kernel
theorem dL_league_134 : decode cL_league 134 = .ok (.aload_n 1, 1) := by decide +kernel
theorem dL_league_135 : decode cL_league 135 = .ok (.iload 8, 2) := by decide +kernel
theorem dL_league_137 : decode cL_league 137 = .ok (.iload 9, 2) := by decide +kernel
theorem dL_league_139 : decode cL_league 139 = .ok (.invokestatic 18, 3) := by decide +kernel
theorem dL_league_142 : decode cL_league 142 = .ok (.ifCond .eq 8, 3) := by decide +kernel
theorem dL_league_145 : decode cL_league 145 = .ok (.iload 9, 2) := by decide +kernel
theorem dL_league_147 : decode cL_league 147 = .ok (.goto 5, 3) := by decide +kernel
theorem dL_league_150 : decode cL_league 150 = .ok (.iload 8, 2) := by decide +kernel
theorem dL_league_152 : decode cL_league 152 = .ok (.istore 8, 2) := by decide +kernel
theorem dL_league_154 : decode cL_league 154 = .ok (.iconst 0, 1) := by decide +kernel
theorem dL_league_155 : decode cL_league 155 = .ok (.istore 11, 2) := by decide +kernel
theorem dL_league_157 : decode cL_league 157 = .ok (.iload 11, 2) := by decide +kernel
theorem dL_league_159 : decode cL_league 159 = .ok (.iconst 5, 1) := by decide +kernel
theorem dL_league_160 : decode cL_league 160 = .ok (.if_icmp .ge 32, 3) := by decide +kernel
theorem dL_league_163 : decode cL_league 163 = .ok (.aload_n 0, 1) := by decide +kernel
theorem dL_league_164 : decode cL_league 164 = .ok (.iload 9, 2) := by decide +kernel
theorem dL_league_166 : decode cL_league 166 = .ok (.iload 11, 2) := by decide +kernel
theorem dL_league_168 : decode cL_league 168 = .ok (.invokevirtual 22, 3) := by decide +kernel
theorem dL_league_171 : decode cL_league 171 = .ok (.aload_n 1, 1) := by decide +kernel
theorem dL_league_172 : decode cL_league 172 = .ok (.bipush 6, 2) := by decide +kernel
theorem dL_league_174 : decode cL_league 174 = .ok (.iload 9, 2) := by decide +kernel
theorem dL_league_176 : decode cL_league 176 = .ok (.imul, 1) := by decide +kernel
theorem dL_league_177 : decode cL_league 177 = .ok (.iload 11, 2) := by decide +kernel
theorem dL_league_179 : decode cL_league 179 = .ok (.iadd, 1) := by decide +kernel
theorem dL_league_180 : decode cL_league 180 = .ok (.iaload, 1) := by decide +kernel
theorem dL_league_181 : decode cL_league 181 = .ok (.if_icmp .eq 5, 3) := by decide +kernel
theorem dL_league_184 : decode cL_league 184 = .ok (.iconst 0, 1) := by decide +kernel
theorem dL_league_185 : decode cL_league 185 = .ok (.ireturn, 1) := by decide +kernel
theorem dL_league_186 : decode cL_league 186 = .ok (.iinc 11 1, 3) := by decide +kernel
theorem dL_league_189 : decode cL_league 189 = .ok (.goto (-32), 3) := by decide +kernel
theorem dL_league_192 : decode cL_league 192 = .ok (.aload_n 0, 1) := by decide +kernel
theorem dL_league_193 : decode cL_league 193 = .ok (.iload 9, 2) := by decide +kernel
theorem dL_league_195 : decode cL_league 195 = .ok (.iconst 5, 1) := by decide +kernel
theorem dL_league_196 : decode cL_league 196 = .ok (.invokevirtual 22, 3) := by decide +kernel
theorem dL_league_199 : decode cL_league 199 = .ok (.iload 10, 2) := by decide +kernel
theorem dL_league_201 : decode cL_league 201 = .ok (.if_icmp .ne 51, 3) := by decide +kernel
theorem dL_league_204 : decode cL_league 204 = .ok (.aload_n 0, 1) := by decide +kernel
theorem dL_league_205 : decode cL_league 205 = .ok (.iload 10, 2) := by decide +kernel
theorem dL_league_207 : decode cL_league 207 = .ok (.invokevirtual 25, 3) := by decide +kernel
theorem dL_league_210 : decode cL_league 210 = .ok (.iload 9, 2) := by decide +kernel
theorem dL_league_212 : decode cL_league 212 = .ok (.if_icmp .ne 40, 3) := by decide +kernel
theorem dL_league_215 : decode cL_league 215 = .ok (.aload_n 0, 1) := by decide +kernel
theorem dL_league_216 : decode cL_league 216 = .ok (.iload 9, 2) := by decide +kernel
theorem dL_league_218 : decode cL_league 218 = .ok (.bipush 6, 2) := by decide +kernel
theorem dL_league_220 : decode cL_league 220 = .ok (.invokevirtual 22, 3) := by decide +kernel
theorem dL_league_223 : decode cL_league 223 = .ok (.aload_n 1, 1) := by decide +kernel
theorem dL_league_224 : decode cL_league 224 = .ok (.bipush 6, 2) := by decide +kernel
theorem dL_league_226 : decode cL_league 226 = .ok (.iload 9, 2) := by decide +kernel
theorem dL_league_228 : decode cL_league 228 = .ok (.imul, 1) := by decide +kernel
theorem dL_league_229 : decode cL_league 229 = .ok (.iconst 5, 1) := by decide +kernel
theorem dL_league_230 : decode cL_league 230 = .ok (.iadd, 1) := by decide +kernel
theorem dL_league_231 : decode cL_league 231 = .ok (.iaload, 1) := by decide +kernel
theorem dL_league_232 : decode cL_league 232 = .ok (.ifCond .ge 8, 3) := by decide +kernel
theorem dL_league_235 : decode cL_league 235 = .ok (.iload 5, 2) := by decide +kernel
theorem dL_league_237 : decode cL_league 237 = .ok (.goto 12, 3) := by decide +kernel
theorem dL_league_240 : decode cL_league 240 = .ok (.aload_n 1, 1) := by decide +kernel
theorem dL_league_241 : decode cL_league 241 = .ok (.bipush 6, 2) := by decide +kernel
theorem dL_league_243 : decode cL_league 243 = .ok (.iload 9, 2) := by decide +kernel
theorem dL_league_245 : decode cL_league 245 = .ok (.imul, 1) := by decide +kernel
theorem dL_league_246 : decode cL_league 246 = .ok (.iconst 5, 1) := by decide +kernel
theorem dL_league_247 : decode cL_league 247 = .ok (.iadd, 1) := by decide +kernel
theorem dL_league_248 : decode cL_league 248 = .ok (.iaload, 1) := by decide +kernel
theorem dL_league_249 : decode cL_league 249 = .ok (.if_icmp .eq 5, 3) := by decide +kernel
theorem dL_league_252 : decode cL_league 252 = .ok (.iconst 0, 1) := by decide +kernel
theorem dL_league_253 : decode cL_league 253 = .ok (.ireturn, 1) := by decide +kernel
theorem dL_league_254 : decode cL_league 254 = .ok (.iinc 9 1, 3) := by decide +kernel
theorem dL_league_257 : decode cL_league 257 = .ok (.goto (-240), 3) := by decide +kernel
theorem dL_league_260 : decode cL_league 260 = .ok (.iconst (-1), 1) := by decide +kernel
theorem dL_league_261 : decode cL_league 261 = .ok (.istore 9, 2) := by decide +kernel
theorem dL_league_263 : decode cL_league 263 = .ok (.iconst 0, 1) := by decide +kernel
theorem dL_league_264 : decode cL_league 264 = .ok (.istore 10, 2) := by decide +kernel
theorem dL_league_266 : decode cL_league 266 = .ok (.iload 10, 2) := by decide +kernel
theorem dL_league_268 : decode cL_league 268 = .ok (.bipush 16, 2) := by decide +kernel
theorem dL_league_270 : decode cL_league 270 = .ok (.if_icmp .ge 192, 3) := by decide +kernel
theorem dL_league_273 : decode cL_league 273 = .ok (.iload 7, 2) := by decide +kernel
theorem dL_league_275 : decode cL_league 275 = .ok (.aload_n 3, 1) := by decide +kernel
theorem dL_league_276 : decode cL_league 276 = .ok (.iconst 2, 1) := by decide +kernel
theorem dL_league_277 : decode cL_league 277 = .ok (.iload 10, 2) := by decide +kernel
theorem dL_league_279 : decode cL_league 279 = .ok (.imul, 1) := by decide +kernel
theorem dL_league_280 : decode cL_league 280 = .ok (.iaload, 1) := by decide +kernel
theorem dL_league_281 : decode cL_league 281 = .ok (.iadd, 1) := by decide +kernel
theorem dL_league_282 : decode cL_league 282 = .ok (.istore 7, 2) := by decide +kernel
theorem dL_league_284 : decode cL_league 284 = .ok (.aload_n 0, 1) := by decide +kernel
theorem dL_league_285 : decode cL_league 285 = .ok (.iload 10, 2) := by decide +kernel
theorem dL_league_287 : decode cL_league 287 = .ok (.iconst 0, 1) := by decide +kernel
theorem dL_league_288 : decode cL_league 288 = .ok (.invokevirtual 29, 3) := by decide +kernel
theorem dL_league_291 : decode cL_league 291 = .ok (.iconst 0, 1) := by decide +kernel
theorem dL_league_292 : decode cL_league 292 = .ok (.iload 10, 2) := by decide +kernel
theorem dL_league_294 : decode cL_league 294 = .ok (.invokestatic 10, 3) := by decide +kernel
theorem dL_league_297 : decode cL_league 297 = .ok (.if_icmp .ne 49, 3) := by decide +kernel
theorem dL_league_300 : decode cL_league 300 = .ok (.aload_n 0, 1) := by decide +kernel
theorem dL_league_301 : decode cL_league 301 = .ok (.iload 10, 2) := by decide +kernel
theorem dL_league_303 : decode cL_league 303 = .ok (.iconst 1, 1) := by decide +kernel
theorem dL_league_304 : decode cL_league 304 = .ok (.invokevirtual 29, 3) := by decide +kernel
theorem dL_league_307 : decode cL_league 307 = .ok (.aload_n 2, 1) := by decide +kernel
theorem dL_league_308 : decode cL_league 308 = .ok (.iload 10, 2) := by decide +kernel
theorem dL_league_310 : decode cL_league 310 = .ok (.iaload, 1) := by decide +kernel
theorem dL_league_311 : decode cL_league 311 = .ok (.if_icmp .ne 35, 3) := by decide +kernel
theorem dL_league_314 : decode cL_league 314 = .ok (.aload_n 0, 1) := by decide +kernel
theorem dL_league_315 : decode cL_league 315 = .ok (.iload 10, 2) := by decide +kernel
theorem dL_league_317 : decode cL_league 317 = .ok (.iconst 2, 1) := by decide +kernel
theorem dL_league_318 : decode cL_league 318 = .ok (.invokevirtual 29, 3) := by decide +kernel
theorem dL_league_321 : decode cL_league 321 = .ok (.aload_n 3, 1) := by decide +kernel
theorem dL_league_322 : decode cL_league 322 = .ok (.iconst 2, 1) := by decide +kernel
theorem dL_league_323 : decode cL_league 323 = .ok (.iload 10, 2) := by decide +kernel
theorem dL_league_325 : decode cL_league 325 = .ok (.imul, 1) := by decide +kernel
theorem dL_league_326 : decode cL_league 326 = .ok (.iaload, 1) := by decide +kernel
theorem dL_league_327 : decode cL_league 327 = .ok (.if_icmp .ne 19, 3) := by decide +kernel
theorem dL_league_330 : decode cL_league 330 = .ok (.aload_n 0, 1) := by decide +kernel
theorem dL_league_331 : decode cL_league 331 = .ok (.iload 10, 2) := by decide +kernel
theorem dL_league_333 : decode cL_league 333 = .ok (.iconst 3, 1) := by decide +kernel
theorem dL_league_334 : decode cL_league 334 = .ok (.invokevirtual 29, 3) := by decide +kernel
theorem dL_league_337 : decode cL_league 337 = .ok (.aload_n 1, 1) := by decide +kernel
theorem dL_league_338 : decode cL_league 338 = .ok (.iload 10, 2) := by decide +kernel
theorem dL_league_340 : decode cL_league 340 = .ok (.invokestatic 32, 3) := by decide +kernel
theorem dL_league_343 : decode cL_league 343 = .ok (.if_icmp .eq 5, 3) := by decide +kernel
theorem dL_league_346 : decode cL_league 346 = .ok (.iconst 0, 1) := by decide +kernel
theorem dL_league_347 : decode cL_league 347 = .ok (.ireturn, 1) := by decide +kernel
theorem dL_league_348 : decode cL_league 348 = .ok (.aload 4, 2) := by decide +kernel
theorem dL_league_350 : decode cL_league 350 = .ok (.bipush 6, 2) := by decide +kernel
theorem dL_league_352 : decode cL_league 352 = .ok (.iaload, 1) := by decide +kernel
theorem dL_league_353 : decode cL_league 353 = .ok (.iconst 1, 1) := by decide +kernel
theorem dL_league_354 : decode cL_league 354 = .ok (.if_icmp .ne 102, 3) := by decide +kernel
theorem dL_league_357 : decode cL_league 357 = .ok (.aload_n 3, 1) := by decide +kernel
theorem dL_league_358 : decode cL_league 358 = .ok (.aload 4, 2) := by decide +kernel
theorem dL_league_360 : decode cL_league 360 = .ok (.iload 10, 2) := by decide +kernel
theorem dL_league_362 : decode cL_league 362 = .ok (.invokestatic 36, 3) := by decide +kernel
theorem dL_league_365 : decode cL_league 365 = .ok (.ifCond .eq 91, 3) := by decide +kernel
theorem dL_league_368 : decode cL_league 368 = .ok (.aload_n 1, 1) := by decide +kernel
theorem dL_league_369 : decode cL_league 369 = .ok (.iload 10, 2) := by decide +kernel
theorem dL_league_371 : decode cL_league 371 = .ok (.invokestatic 32, 3) := by decide +kernel
theorem dL_league_374 : decode cL_league 374 = .ok (.invokestatic 40, 3) := by decide +kernel
theorem dL_league_377 : decode cL_league 377 = .ok (.iconst 2, 1) := by decide +kernel
theorem dL_league_378 : decode cL_league 378 = .ok (.if_icmp .ge 78, 3) := by decide +kernel
theorem dL_league_381 : decode cL_league 381 = .ok (.iload 9, 2) := by decide +kernel
theorem dL_league_383 : decode cL_league 383 = .ok (.ifCond .ge 7, 3) := by decide +kernel
theorem dL_league_386 : decode cL_league 386 = .ok (.iconst 1, 1) := by decide +kernel
theorem dL_league_387 : decode cL_league 387 = .ok (.goto 53, 3) := by decide +kernel
theorem dL_league_390 : decode cL_league 390 = .ok (.sipush 1000, 3) := by decide +kernel
theorem dL_league_393 : decode cL_league 393 = .ok (.iconst 0, 1) := by decide +kernel
theorem dL_league_394 : decode cL_league 394 = .ok (.iload 10, 2) := by decide +kernel
theorem dL_league_396 : decode cL_league 396 = .ok (.invokestatic 10, 3) := by decide +kernel
theorem dL_league_399 : decode cL_league 399 = .ok (.iconst 0, 1) := by decide +kernel
theorem dL_league_400 : decode cL_league 400 = .ok (.iload 9, 2) := by decide +kernel
theorem dL_league_402 : decode cL_league 402 = .ok (.invokestatic 10, 3) := by decide +kernel
theorem dL_league_405 : decode cL_league 405 = .ok (.isub, 1) := by decide +kernel
theorem dL_league_406 : decode cL_league 406 = .ok (.imul, 1) := by decide +kernel
theorem dL_league_407 : decode cL_league 407 = .ok (.bipush 10, 2) := by decide +kernel
theorem dL_league_409 : decode cL_league 409 = .ok (.aload_n 2, 1) := by decide +kernel
theorem dL_league_410 : decode cL_league 410 = .ok (.iload 10, 2) := by decide +kernel
theorem dL_league_412 : decode cL_league 412 = .ok (.iaload, 1) := by decide +kernel
theorem dL_league_413 : decode cL_league 413 = .ok (.aload_n 2, 1) := by decide +kernel
theorem dL_league_414 : decode cL_league 414 = .ok (.iload 9, 2) := by decide +kernel
theorem dL_league_416 : decode cL_league 416 = .ok (.iaload, 1) := by decide +kernel
theorem dL_league_417 : decode cL_league 417 = .ok (.isub, 1) := by decide +kernel
theorem dL_league_418 : decode cL_league 418 = .ok (.imul, 1) := by decide +kernel
theorem dL_league_419 : decode cL_league 419 = .ok (.isub, 1) := by decide +kernel
theorem dL_league_420 : decode cL_league 420 = .ok (.aload_n 1, 1) := by decide +kernel
theorem dL_league_421 : decode cL_league 421 = .ok (.iload 10, 2) := by decide +kernel
theorem dL_league_423 : decode cL_league 423 = .ok (.invokestatic 32, 3) := by decide +kernel
theorem dL_league_426 : decode cL_league 426 = .ok (.invokestatic 40, 3) := by decide +kernel
theorem dL_league_429 : decode cL_league 429 = .ok (.aload_n 1, 1) := by decide +kernel
theorem dL_league_430 : decode cL_league 430 = .ok (.iload 9, 2) := by decide +kernel
theorem dL_league_432 : decode cL_league 432 = .ok (.invokestatic 32, 3) := by decide +kernel
theorem dL_league_435 : decode cL_league 435 = .ok (.invokestatic 40, 3) := by decide +kernel
theorem dL_league_438 : decode cL_league 438 = .ok (.isub, 1) := by decide +kernel
theorem dL_league_439 : decode cL_league 439 = .ok (.isub, 1) := by decide +kernel
theorem dL_league_440 : decode cL_league 440 = .ok (.istore 11, 2) := by decide +kernel
theorem dL_league_442 : decode cL_league 442 = .ok (.iload 11, 2) := by decide +kernel
theorem dL_league_444 : decode cL_league 444 = .ok (.ifCond .le 8, 3) := by decide +kernel
theorem dL_league_447 : decode cL_league 447 = .ok (.iload 10, 2) := by decide +kernel
theorem dL_league_449 : decode cL_league 449 = .ok (.goto 5, 3) := by decide +kernel
theorem dL_league_452 : decode cL_league 452 = .ok (.iload 9, 2) := by decide +kernel
theorem dL_league_454 : decode cL_league 454 = .ok (.istore 9, 2) := by decide +kernel
theorem dL_league_456 : decode cL_league 456 = .ok (.iinc 10 1, 3) := by decide +kernel
theorem dL_league_459 : decode cL_league 459 = .ok (.goto (-193), 3) := by decide +kernel
theorem dL_league_462 : decode cL_league 462 = .ok (.sipush (-10003), 3) := by decide +kernel
theorem dL_league_465 : decode cL_league 465 = .ok (.istore 10, 2) := by decide +kernel
theorem dL_league_467 : decode cL_league 467 = .ok (.iconst 0, 1) := by decide +kernel
theorem dL_league_468 : decode cL_league 468 = .ok (.istore 11, 2) := by decide +kernel
theorem dL_league_470 : decode cL_league 470 = .ok (.iconst 0, 1) := by decide +kernel
theorem dL_league_471 : decode cL_league 471 = .ok (.istore 12, 2) := by decide +kernel
theorem dL_league_473 : decode cL_league 473 = .ok (.iconst 0, 1) := by decide +kernel
theorem dL_league_474 : decode cL_league 474 = .ok (.istore 13, 2) := by decide +kernel
theorem dL_league_476 : decode cL_league 476 = .ok (.iload 13, 2) := by decide +kernel
theorem dL_league_478 : decode cL_league 478 = .ok (.bipush 16, 2) := by decide +kernel
theorem dL_league_480 : decode cL_league 480 = .ok (.if_icmp .ge 81, 3) := by decide +kernel
theorem dL_league_483 : decode cL_league 483 = .ok (.aload 4, 2) := by decide +kernel
theorem dL_league_485 : decode cL_league 485 = .ok (.bipush 6, 2) := by decide +kernel
theorem dL_league_487 : decode cL_league 487 = .ok (.iaload, 1) := by decide +kernel
theorem dL_league_488 : decode cL_league 488 = .ok (.iconst 2, 1) := by decide +kernel
theorem dL_league_489 : decode cL_league 489 = .ok (.if_icmp .ne 72, 3) := by decide +kernel
theorem dL_league_492 : decode cL_league 492 = .ok (.iload 11, 2) := by decide +kernel
theorem dL_league_494 : decode cL_league 494 = .ok (.iload 13, 2) := by decide +kernel
theorem dL_league_496 : decode cL_league 496 = .ok (.aload 4, 2) := by decide +kernel
theorem dL_league_498 : decode cL_league 498 = .ok (.bipush 9, 2) := by decide +kernel
theorem dL_league_500 : decode cL_league 500 = .ok (.iaload, 1) := by decide +kernel
theorem dL_league_501 : decode cL_league 501 = .ok (.invokestatic 10, 3) := by decide +kernel
theorem dL_league_504 : decode cL_league 504 = .ok (.aload 4, 2) := by decide +kernel
theorem dL_league_506 : decode cL_league 506 = .ok (.iconst 0, 1) := by decide +kernel
theorem dL_league_507 : decode cL_league 507 = .ok (.iaload, 1) := by decide +kernel
theorem dL_league_508 : decode cL_league 508 = .ok (.if_icmp .gt 10, 3) := by decide +kernel
theorem dL_league_511 : decode cL_league 511 = .ok (.iconst 1, 1) := by decide +kernel
theorem dL_league_512 : decode cL_league 512 = .ok (.iload 13, 2) := by decide +kernel
theorem dL_league_514 : decode cL_league 514 = .ok (.ishl, 1) := by decide +kernel
theorem dL_league_515 : decode cL_league 515 = .ok (.goto 4, 3) := by decide +kernel
theorem dL_league_518 : decode cL_league 518 = .ok (.iconst 0, 1) := by decide +kernel
theorem dL_league_519 : decode cL_league 519 = .ok (.ior, 1) := by decide +kernel
theorem dL_league_520 : decode cL_league 520 = .ok (.istore 11, 2) := by decide +kernel
theorem dL_league_522 : decode cL_league 522 = .ok (.iload 12, 2) := by decide +kernel
theorem dL_league_524 : decode cL_league 524 = .ok (.iconst 0, 1) := by decide +kernel
theorem dL_league_525 : decode cL_league 525 = .ok (.iload 13, 2) := by decide +kernel
theorem dL_league_527 : decode cL_league 527 = .ok (.invokestatic 10, 3) := by decide +kernel
theorem dL_league_530 : decode cL_league 530 = .ok (.iconst 0, 1) := by decide +kernel
theorem dL_league_531 : decode cL_league 531 = .ok (.aload 4, 2) := by decide +kernel
theorem dL_league_533 : decode cL_league 533 = .ok (.bipush 9, 2) := by decide +kernel
theorem dL_league_535 : decode cL_league 535 = .ok (.iaload, 1) := by decide +kernel
theorem dL_league_536 : decode cL_league 536 = .ok (.invokestatic 10, 3) := by decide +kernel
theorem dL_league_539 : decode cL_league 539 = .ok (.if_icmp .ge 12, 3) := by decide +kernel
theorem dL_league_542 : decode cL_league 542 = .ok (.aload_n 1, 1) := by decide +kernel
theorem dL_league_543 : decode cL_league 543 = .ok (.iload 13, 2) := by decide +kernel
theorem dL_league_545 : decode cL_league 545 = .ok (.invokestatic 32, 3) := by decide +kernel
theorem dL_league_548 : decode cL_league 548 = .ok (.goto 4, 3) := by decide +kernel
theorem dL_league_551 : decode cL_league 551 = .ok (.iconst 0, 1) := by decide +kernel
theorem dL_league_552 : decode cL_league 552 = .ok (.ior, 1) := by decide +kernel
theorem dL_league_553 : decode cL_league 553 = .ok (.istore 12, 2) := by decide +kernel
theorem dL_league_555 : decode cL_league 555 = .ok (.iinc 13 1, 3) := by decide +kernel
theorem dL_league_558 : decode cL_league 558 = .ok (.goto (-82), 3) := by decide +kernel
theorem dL_league_561 : decode cL_league 561 = .ok (.aload_n 0, 1) := by decide +kernel
theorem dL_league_562 : decode cL_league 562 = .ok (.invokevirtual 43, 3) := by decide +kernel
theorem dL_league_565 : decode cL_league 565 = .ok (.aload 4, 2) := by decide +kernel
theorem dL_league_567 : decode cL_league 567 = .ok (.bipush 6, 2) := by decide +kernel
theorem dL_league_569 : decode cL_league 569 = .ok (.iaload, 1) := by decide +kernel
theorem dL_league_570 : decode cL_league 570 = .ok (.iconst 1, 1) := by decide +kernel
theorem dL_league_571 : decode cL_league 571 = .ok (.if_icmp .eq 8, 3) := by decide +kernel
theorem dL_league_574 : decode cL_league 574 = .ok (.iload 10, 2) := by decide +kernel
theorem dL_league_576 : decode cL_league 576 = .ok (.goto 15, 3) := by decide +kernel
theorem dL_league_579 : decode cL_league 579 = .ok (.iload 9, 2) := by decide +kernel
theorem dL_league_581 : decode cL_league 581 = .ok (.ifCond .ge 8, 3) := by decide +kernel
theorem dL_league_584 : decode cL_league 584 = .ok (.iload 5, 2) := by decide +kernel
theorem dL_league_586 : decode cL_league 586 = .ok (.goto 5, 3) := by decide +kernel
theorem dL_league_589 : decode cL_league 589 = .ok (.iload 9, 2) := by decide +kernel
theorem dL_league_591 : decode cL_league 591 = .ok (.if_icmp .ne 113, 3) := by decide +kernel
theorem dL_league_594 : decode cL_league 594 = .ok (.aload_n 0, 1) := by decide +kernel
theorem dL_league_595 : decode cL_league 595 = .ok (.invokevirtual 47, 3) := by decide +kernel
theorem dL_league_598 : decode cL_league 598 = .ok (.aload 4, 2) := by decide +kernel
theorem dL_league_600 : decode cL_league 600 = .ok (.bipush 6, 2) := by decide +kernel
theorem dL_league_602 : decode cL_league 602 = .ok (.iaload, 1) := by decide +kernel
theorem dL_league_603 : decode cL_league 603 = .ok (.iconst 2, 1) := by decide +kernel
theorem dL_league_604 : decode cL_league 604 = .ok (.if_icmp .ne 8, 3) := by decide +kernel
theorem dL_league_607 : decode cL_league 607 = .ok (.iload 11, 2) := by decide +kernel
theorem dL_league_609 : decode cL_league 609 = .ok (.goto 5, 3) := by decide +kernel
theorem dL_league_612 : decode cL_league 612 = .ok (.iload 10, 2) := by decide +kernel
theorem dL_league_614 : decode cL_league 614 = .ok (.if_icmp .ne 90, 3) := by decide +kernel
theorem dL_league_617 : decode cL_league 617 = .ok (.aload_n 0, 1) := by decide +kernel
theorem dL_league_618 : decode cL_league 618 = .ok (.invokevirtual 50, 3) := by decide +kernel
theorem dL_league_621 : decode cL_league 621 = .ok (.aload 4, 2) := by decide +kernel
theorem dL_league_623 : decode cL_league 623 = .ok (.bipush 6, 2) := by decide +kernel
theorem dL_league_625 : decode cL_league 625 = .ok (.iaload, 1) := by decide +kernel
theorem dL_league_626 : decode cL_league 626 = .ok (.iconst 2, 1) := by decide +kernel
theorem dL_league_627 : decode cL_league 627 = .ok (.if_icmp .ne 8, 3) := by decide +kernel
theorem dL_league_630 : decode cL_league 630 = .ok (.iload 12, 2) := by decide +kernel
theorem dL_league_632 : decode cL_league 632 = .ok (.goto 5, 3) := by decide +kernel
theorem dL_league_635 : decode cL_league 635 = .ok (.iload 10, 2) := by decide +kernel
theorem dL_league_637 : decode cL_league 637 = .ok (.if_icmp .ne 67, 3) := by decide +kernel
theorem dL_league_640 : decode cL_league 640 = .ok (.aload_n 0, 1) := by decide +kernel
theorem dL_league_641 : decode cL_league 641 = .ok (.invokevirtual 53, 3) := by decide +kernel
theorem dL_league_644 : decode cL_league 644 = .ok (.aload 4, 2) := by decide +kernel
theorem dL_league_646 : decode cL_league 646 = .ok (.bipush 6, 2) := by decide +kernel
theorem dL_league_648 : decode cL_league 648 = .ok (.iaload, 1) := by decide +kernel
theorem dL_league_649 : decode cL_league 649 = .ok (.iconst 2, 1) := by decide +kernel
theorem dL_league_650 : decode cL_league 650 = .ok (.if_icmp .ne 12, 3) := by decide +kernel
theorem dL_league_653 : decode cL_league 653 = .ok (.aload_n 1, 1) := by decide +kernel
theorem dL_league_654 : decode cL_league 654 = .ok (.aload 4, 2) := by decide +kernel
theorem dL_league_656 : decode cL_league 656 = .ok (.invokestatic 56, 3) := by decide +kernel
theorem dL_league_659 : decode cL_league 659 = .ok (.goto 5, 3) := by decide +kernel
theorem dL_league_662 : decode cL_league 662 = .ok (.iload 10, 2) := by decide +kernel
theorem dL_league_664 : decode cL_league 664 = .ok (.if_icmp .ne 40, 3) := by decide +kernel
theorem dL_league_667 : decode cL_league 667 = .ok (.aload_n 0, 1) := by decide +kernel
theorem dL_league_668 : decode cL_league 668 = .ok (.invokevirtual 60, 3) := by decide +kernel
theorem dL_league_671 : decode cL_league 671 = .ok (.iload 8, 2) := by decide +kernel
theorem dL_league_673 : decode cL_league 673 = .ok (.ifCond .ge 8, 3) := by decide +kernel
theorem dL_league_676 : decode cL_league 676 = .ok (.iload 5, 2) := by decide +kernel
theorem dL_league_678 : decode cL_league 678 = .ok (.goto 5, 3) := by decide +kernel
theorem dL_league_681 : decode cL_league 681 = .ok (.iload 8, 2) := by decide +kernel
theorem dL_league_683 : decode cL_league 683 = .ok (.if_icmp .ne 21, 3) := by decide +kernel
theorem dL_league_686 : decode cL_league 686 = .ok (.aload_n 0, 1) := by decide +kernel
theorem dL_league_687 : decode cL_league 687 = .ok (.aload 4, 2) := by decide +kernel
theorem dL_league_689 : decode cL_league 689 = .ok (.iconst 4, 1) := by decide +kernel
theorem dL_league_690 : decode cL_league 690 = .ok (.iaload, 1) := by decide +kernel
theorem dL_league_691 : decode cL_league 691 = .ok (.invokevirtual 25, 3) := by decide +kernel
theorem dL_league_694 : decode cL_league 694 = .ok (.sipush (-10001), 3) := by decide +kernel
theorem dL_league_697 : decode cL_league 697 = .ok (.if_icmp .ne 7, 3) := by decide +kernel
theorem dL_league_700 : decode cL_league 700 = .ok (.iconst 1, 1) := by decide +kernel
theorem dL_league_701 : decode cL_league 701 = .ok (.goto 4, 3) := by decide +kernel
theorem dL_league_704 : decode cL_league 704 = .ok (.iconst 0, 1) := by decide +kernel
theorem dL_league_705 : decode cL_league 705 = .ok (.istore 13, 2) := by decide +kernel
theorem dL_league_707 : decode cL_league 707 = .ok (.iload 13, 2) := by decide +kernel
theorem dL_league_709 : decode cL_league 709 = .ok (.ifCond .eq 172, 3) := by decide +kernel
theorem dL_league_712 : decode cL_league 712 = .ok (.aload_n 0, 1) := by decide +kernel
theorem dL_league_713 : decode cL_league 713 = .ok (.iconst 0, 1) := by decide +kernel
theorem dL_league_714 : decode cL_league 714 = .ok (.invokevirtual 63, 3) := by decide +kernel
theorem dL_league_717 : decode cL_league 717 = .ok (.aload 4, 2) := by decide +kernel
theorem dL_league_719 : decode cL_league 719 = .ok (.iconst 4, 1) := by decide +kernel
theorem dL_league_720 : decode cL_league 720 = .ok (.iaload, 1) := by decide +kernel
theorem dL_league_721 : decode cL_league 721 = .ok (.if_icmp .ne 160, 3) := by decide +kernel
theorem dL_league_724 : decode cL_league 724 = .ok (.aload_n 0, 1) := by decide +kernel
theorem dL_league_725 : decode cL_league 725 = .ok (.iconst 1, 1) := by decide +kernel
theorem dL_league_726 : decode cL_league 726 = .ok (.invokevirtual 63, 3) := by decide +kernel
theorem dL_league_729 : decode cL_league 729 = .ok (.aload 4, 2) := by decide +kernel
theorem dL_league_731 : decode cL_league 731 = .ok (.iconst 5, 1) := by decide +kernel
theorem dL_league_732 : decode cL_league 732 = .ok (.iaload, 1) := by decide +kernel
theorem dL_league_733 : decode cL_league 733 = .ok (.if_icmp .ne 148, 3) := by decide +kernel
theorem dL_league_736 : decode cL_league 736 = .ok (.aload_n 0, 1) := by decide +kernel
theorem dL_league_737 : decode cL_league 737 = .ok (.iconst 2, 1) := by decide +kernel
theorem dL_league_738 : decode cL_league 738 = .ok (.invokevirtual 63, 3) := by decide +kernel
theorem dL_league_741 : decode cL_league 741 = .ok (.aload 4, 2) := by decide +kernel
theorem dL_league_743 : decode cL_league 743 = .ok (.bipush 6, 2) := by decide +kernel
theorem dL_league_745 : decode cL_league 745 = .ok (.iaload, 1) := by decide +kernel
theorem dL_league_746 : decode cL_league 746 = .ok (.if_icmp .ne 135, 3) := by decide +kernel
theorem dL_league_749 : decode cL_league 749 = .ok (.aload_n 0, 1) := by decide +kernel
theorem dL_league_750 : decode cL_league 750 = .ok (.iconst 3, 1) := by decide +kernel
theorem dL_league_751 : decode cL_league 751 = .ok (.invokevirtual 63, 3) := by decide +kernel
theorem dL_league_754 : decode cL_league 754 = .ok (.aload 4, 2) := by decide +kernel
theorem dL_league_756 : decode cL_league 756 = .ok (.bipush 6, 2) := by decide +kernel
theorem dL_league_758 : decode cL_league 758 = .ok (.iaload, 1) := by decide +kernel
theorem dL_league_759 : decode cL_league 759 = .ok (.ifCond .ne 8, 3) := by decide +kernel
theorem dL_league_762 : decode cL_league 762 = .ok (.iload 5, 2) := by decide +kernel
theorem dL_league_764 : decode cL_league 764 = .ok (.goto 8, 3) := by decide +kernel
theorem dL_league_767 : decode cL_league 767 = .ok (.aload 4, 2) := by decide +kernel
theorem dL_league_769 : decode cL_league 769 = .ok (.bipush 7, 2) := by decide +kernel
theorem dL_league_771 : decode cL_league 771 = .ok (.iaload, 1) := by decide +kernel
theorem dL_league_772 : decode cL_league 772 = .ok (.if_icmp .ne 109, 3) := by decide +kernel
theorem dL_league_775 : decode cL_league 775 = .ok (.aload_n 0, 1) := by decide +kernel
theorem dL_league_776 : decode cL_league 776 = .ok (.iconst 4, 1) := by decide +kernel
theorem dL_league_777 : decode cL_league 777 = .ok (.invokevirtual 63, 3) := by decide +kernel
theorem dL_league_780 : decode cL_league 780 = .ok (.aload 4, 2) := by decide +kernel
theorem dL_league_782 : decode cL_league 782 = .ok (.bipush 6, 2) := by decide +kernel
theorem dL_league_784 : decode cL_league 784 = .ok (.iaload, 1) := by decide +kernel
theorem dL_league_785 : decode cL_league 785 = .ok (.ifCond .ne 8, 3) := by decide +kernel
theorem dL_league_788 : decode cL_league 788 = .ok (.iload 5, 2) := by decide +kernel
theorem dL_league_790 : decode cL_league 790 = .ok (.goto 8, 3) := by decide +kernel
theorem dL_league_793 : decode cL_league 793 = .ok (.aload 4, 2) := by decide +kernel
theorem dL_league_795 : decode cL_league 795 = .ok (.bipush 8, 2) := by decide +kernel
theorem dL_league_797 : decode cL_league 797 = .ok (.iaload, 1) := by decide +kernel
theorem dL_league_798 : decode cL_league 798 = .ok (.if_icmp .ne 83, 3) := by decide +kernel
theorem dL_league_801 : decode cL_league 801 = .ok (.aload_n 0, 1) := by decide +kernel
theorem dL_league_802 : decode cL_league 802 = .ok (.iconst 5, 1) := by decide +kernel
theorem dL_league_803 : decode cL_league 803 = .ok (.invokevirtual 63, 3) := by decide +kernel
theorem dL_league_806 : decode cL_league 806 = .ok (.aload 4, 2) := by decide +kernel
theorem dL_league_808 : decode cL_league 808 = .ok (.bipush 6, 2) := by decide +kernel
theorem dL_league_810 : decode cL_league 810 = .ok (.iaload, 1) := by decide +kernel
theorem dL_league_811 : decode cL_league 811 = .ok (.iconst 2, 1) := by decide +kernel
theorem dL_league_812 : decode cL_league 812 = .ok (.if_icmp .ne 11, 3) := by decide +kernel
theorem dL_league_815 : decode cL_league 815 = .ok (.aload 4, 2) := by decide +kernel
theorem dL_league_817 : decode cL_league 817 = .ok (.bipush 9, 2) := by decide +kernel
theorem dL_league_819 : decode cL_league 819 = .ok (.iaload, 1) := by decide +kernel
theorem dL_league_820 : decode cL_league 820 = .ok (.goto 5, 3) := by decide +kernel
theorem dL_league_823 : decode cL_league 823 = .ok (.iload 5, 2) := by decide +kernel
theorem dL_league_825 : decode cL_league 825 = .ok (.if_icmp .ne 56, 3) := by decide +kernel
theorem dL_league_828 : decode cL_league 828 = .ok (.aload_n 0, 1) := by decide +kernel
theorem dL_league_829 : decode cL_league 829 = .ok (.bipush 6, 2) := by decide +kernel
theorem dL_league_831 : decode cL_league 831 = .ok (.invokevirtual 63, 3) := by decide +kernel
theorem dL_league_834 : decode cL_league 834 = .ok (.aload 4, 2) := by decide +kernel
theorem dL_league_836 : decode cL_league 836 = .ok (.bipush 10, 2) := by decide +kernel
theorem dL_league_838 : decode cL_league 838 = .ok (.iaload, 1) := by decide +kernel
theorem dL_league_839 : decode cL_league 839 = .ok (.if_icmp .ne 42, 3) := by decide +kernel
theorem dL_league_842 : decode cL_league 842 = .ok (.aload_n 0, 1) := by decide +kernel
theorem dL_league_843 : decode cL_league 843 = .ok (.bipush 7, 2) := by decide +kernel
theorem dL_league_845 : decode cL_league 845 = .ok (.invokevirtual 63, 3) := by decide +kernel
theorem dL_league_848 : decode cL_league 848 = .ok (.aload_n 1, 1) := by decide +kernel
theorem dL_league_849 : decode cL_league 849 = .ok (.invokestatic 66, 3) := by decide +kernel
theorem dL_league_852 : decode cL_league 852 = .ok (.if_icmp .ne 29, 3) := by decide +kernel
theorem dL_league_855 : decode cL_league 855 = .ok (.aload_n 0, 1) := by decide +kernel
theorem dL_league_856 : decode cL_league 856 = .ok (.bipush 8, 2) := by decide +kernel
theorem dL_league_858 : decode cL_league 858 = .ok (.invokevirtual 63, 3) := by decide +kernel
theorem dL_league_861 : decode cL_league 861 = .ok (.iload 7, 2) := by decide +kernel
theorem dL_league_863 : decode cL_league 863 = .ok (.if_icmp .ne 18, 3) := by decide +kernel
theorem dL_league_866 : decode cL_league 866 = .ok (.aload_n 0, 1) := by decide +kernel
theorem dL_league_867 : decode cL_league 867 = .ok (.bipush 9, 2) := by decide +kernel
theorem dL_league_869 : decode cL_league 869 = .ok (.invokevirtual 63, 3) := by decide +kernel
theorem dL_league_872 : decode cL_league 872 = .ok (.iload 6, 2) := by decide +kernel
theorem dL_league_874 : decode cL_league 874 = .ok (.if_icmp .ne 7, 3) := by decide +kernel
theorem dL_league_877 : decode cL_league 877 = .ok (.iconst 1, 1) := by decide +kernel
theorem dL_league_878 : decode cL_league 878 = .ok (.goto 4, 3) := by decide +kernel
theorem dL_league_881 : decode cL_league 881 = .ok (.iconst 0, 1) := by decide +kernel
theorem dL_league_882 : decode cL_league 882 = .ok (.ireturn, 1) := by decide +kernel
theorem dL_law_0 : decode cL_law 0 = .ok (.new 16, 3) := by decide +kernel
theorem dL_law_3 : decode cL_law 3 = .ok (.dup, 1) := by decide +kernel
theorem dL_law_4 : decode cL_law 4 = .ok (.invokespecial 70, 3) := by decide +kernel
theorem dL_law_7 : decode cL_law 7 = .ok (.astore_n 1, 1) := by decide +kernel
theorem dL_law_8 : decode cL_law 8 = .ok (.bipush 48, 2) := by decide +kernel
theorem dL_law_10 : decode cL_law 10 = .ok (.newarray .int, 2) := by decide +kernel
theorem dL_law_12 : decode cL_law 12 = .ok (.astore_n 2, 1) := by decide +kernel
theorem dL_law_13 : decode cL_law 13 = .ok (.bipush 16, 2) := by decide +kernel
theorem dL_law_15 : decode cL_law 15 = .ok (.newarray .int, 2) := by decide +kernel
theorem dL_law_17 : decode cL_law 17 = .ok (.astore_n 3, 1) := by decide +kernel
theorem dL_law_18 : decode cL_law 18 = .ok (.bipush 32, 2) := by decide +kernel
theorem dL_law_20 : decode cL_law 20 = .ok (.newarray .int, 2) := by decide +kernel
theorem dL_law_22 : decode cL_law 22 = .ok (.astore 4, 2) := by decide +kernel
theorem dL_law_24 : decode cL_law 24 = .ok (.bipush 11, 2) := by decide +kernel
theorem dL_law_26 : decode cL_law 26 = .ok (.newarray .int, 2) := by decide +kernel
theorem dL_law_28 : decode cL_law 28 = .ok (.astore 5, 2) := by decide +kernel
theorem dL_law_30 : decode cL_law 30 = .ok (.aload 5, 2) := by decide +kernel
theorem dL_law_32 : decode cL_law 32 = .ok (.iconst 0, 1) := by decide +kernel
theorem dL_law_33 : decode cL_law 33 = .ok (.iconst 1, 1) := by decide +kernel
theorem dL_law_34 : decode cL_law 34 = .ok (.iastore, 1) := by decide +kernel
theorem dL_law_35 : decode cL_law 35 = .ok (.aload 5, 2) := by decide +kernel
theorem dL_law_37 : decode cL_law 37 = .ok (.iconst 1, 1) := by decide +kernel
theorem dL_law_38 : decode cL_law 38 = .ok (.iconst 2, 1) := by decide +kernel
theorem dL_law_39 : decode cL_law 39 = .ok (.iastore, 1) := by decide +kernel
theorem dL_law_40 : decode cL_law 40 = .ok (.aload 5, 2) := by decide +kernel
theorem dL_law_42 : decode cL_law 42 = .ok (.iconst 2, 1) := by decide +kernel
theorem dL_law_43 : decode cL_law 43 = .ok (.iconst 2, 1) := by decide +kernel
theorem dL_law_44 : decode cL_law 44 = .ok (.iastore, 1) := by decide +kernel
theorem dL_law_45 : decode cL_law 45 = .ok (.aload 5, 2) := by decide +kernel
theorem dL_law_47 : decode cL_law 47 = .ok (.iconst 3, 1) := by decide +kernel
theorem dL_law_48 : decode cL_law 48 = .ok (.iconst 2, 1) := by decide +kernel
theorem dL_law_49 : decode cL_law 49 = .ok (.iastore, 1) := by decide +kernel
theorem dL_law_50 : decode cL_law 50 = .ok (.iconst 0, 1) := by decide +kernel
theorem dL_law_51 : decode cL_law 51 = .ok (.istore 6, 2) := by decide +kernel
theorem dL_law_53 : decode cL_law 53 = .ok (.iload 6, 2) := by decide +kernel
theorem dL_law_55 : decode cL_law 55 = .ok (.bipush 8, 2) := by decide +kernel
theorem dL_law_57 : decode cL_law 57 = .ok (.if_icmp .ge 19, 3) := by decide +kernel
theorem dL_law_60 : decode cL_law 60 = .ok (.aload_n 2, 1) := by decide +kernel
theorem dL_law_61 : decode cL_law 61 = .ok (.bipush 6, 2) := by decide +kernel
theorem dL_law_63 : decode cL_law 63 = .ok (.iload 6, 2) := by decide +kernel
theorem dL_law_65 : decode cL_law 65 = .ok (.imul, 1) := by decide +kernel
theorem dL_law_66 : decode cL_law 66 = .ok (.iconst 5, 1) := by decide +kernel
theorem dL_law_67 : decode cL_law 67 = .ok (.iadd, 1) := by decide +kernel
theorem dL_law_68 : decode cL_law 68 = .ok (.iconst (-1), 1) := by decide +kernel
theorem dL_law_69 : decode cL_law 69 = .ok (.iastore, 1) := by decide +kernel
theorem dL_law_70 : decode cL_law 70 = .ok (.iinc 6 1, 3) := by decide +kernel
theorem dL_law_73 : decode cL_law 73 = .ok (.goto (-20), 3) := by decide +kernel
theorem dL_law_76 : decode cL_law 76 = .ok (.iconst 0, 1) := by decide +kernel
theorem dL_law_77 : decode cL_law 77 = .ok (.istore 6, 2) := by decide +kernel
theorem dL_law_79 : decode cL_law 79 = .ok (.iload 6, 2) := by decide +kernel
theorem dL_law_81 : decode cL_law 81 = .ok (.bipush 80, 2) := by decide +kernel
theorem dL_law_83 : decode cL_law 83 = .ok (.if_icmp .ge 1316, 3) := by decide +kernel
theorem dL_law_86 : decode cL_law 86 = .ok (.aload_n 0, 1) := by decide +kernel
theorem dL_law_87 : decode cL_law 87 = .ok (.iload 6, 2) := by decide +kernel
theorem dL_law_89 : decode cL_law 89 = .ok (.invokestatic 71, 3) := by decide +kernel
theorem dL_law_92 : decode cL_law 92 = .ok (.istore 7, 2) := by decide +kernel
theorem dL_law_94 : decode cL_law 94 = .ok (.iload 7, 2) := by decide +kernel
theorem dL_law_96 : decode cL_law 96 = .ok (.bipush 20, 2) := by decide +kernel
theorem dL_law_98 : decode cL_law 98 = .ok (.invokestatic 74, 3) := by decide +kernel
theorem dL_law_101 : decode cL_law 101 = .ok (.istore 8, 2) := by decide +kernel
theorem dL_law_103 : decode cL_law 103 = .ok (.iload 7, 2) := by decide +kernel
theorem dL_law_105 : decode cL_law 105 = .ok (.iconst 5, 1) := by decide +kernel
theorem dL_law_106 : decode cL_law 106 = .ok (.ishr, 1) := by decide +kernel
theorem dL_law_107 : decode cL_law 107 = .ok (.iload 7, 2) := by decide +kernel
theorem dL_law_109 : decode cL_law 109 = .ok (.bipush 25, 2) := by decide +kernel
theorem dL_law_111 : decode cL_law 111 = .ok (.ishr, 1) := by decide +kernel
theorem dL_law_112 : decode cL_law 112 = .ok (.iconst 2, 1) := by decide +kernel
theorem dL_law_113 : decode cL_law 113 = .ok (.invokestatic 74, 3) := by decide +kernel
theorem dL_law_116 : decode cL_law 116 = .ok (.ifCond .ne 8, 3) := by decide +kernel
theorem dL_law_119 : decode cL_law 119 = .ok (.bipush 16, 2) := by decide +kernel
theorem dL_law_121 : decode cL_law 121 = .ok (.goto 4, 3) := by decide +kernel
theorem dL_law_124 : decode cL_law 124 = .ok (.iconst 5, 1) := by decide +kernel
theorem dL_law_125 : decode cL_law 125 = .ok (.invokestatic 74, 3) := by decide +kernel
theorem dL_law_128 : decode cL_law 128 = .ok (.istore 9, 2) := by decide +kernel
theorem dL_law_130 : decode cL_law 130 = .ok (.iload 7, 2) := by decide +kernel
theorem dL_law_132 : decode cL_law 132 = .ok (.bipush 9, 2) := by decide +kernel
theorem dL_law_134 : decode cL_law 134 = .ok (.ishr, 1) := by decide +kernel
theorem dL_law_135 : decode cL_law 135 = .ok (.aload 5, 2) := by decide +kernel
theorem dL_law_137 : decode cL_law 137 = .ok (.iconst 4, 1) := by decide +kernel
theorem dL_law_138 : decode cL_law 138 = .ok (.iaload, 1) := by decide +kernel
theorem dL_law_139 : decode cL_law 139 = .ok (.ifCond .ne 7, 3) := by decide +kernel
theorem dL_law_142 : decode cL_law 142 = .ok (.iconst 1, 1) := by decide +kernel
theorem dL_law_143 : decode cL_law 143 = .ok (.goto 7, 3) := by decide +kernel
theorem dL_law_146 : decode cL_law 146 = .ok (.aload 5, 2) := by decide +kernel
theorem dL_law_148 : decode cL_law 148 = .ok (.iconst 4, 1) := by decide +kernel
theorem dL_law_149 : decode cL_law 149 = .ok (.iaload, 1) := by decide +kernel
theorem dL_law_150 : decode cL_law 150 = .ok (.invokestatic 74, 3) := by decide +kernel
theorem dL_law_153 : decode cL_law 153 = .ok (.istore 10, 2) := by decide +kernel
theorem dL_law_155 : decode cL_law 155 = .ok (.sipush (-10003), 3) := by decide +kernel
theorem dL_law_158 : decode cL_law 158 = .ok (.istore 11, 2) := by decide +kernel
theorem dL_law_160 : decode cL_law 160 = .ok (.iconst 1, 1) := by decide +kernel
theorem dL_law_161 : decode cL_law 161 = .ok (.istore 12, 2) := by decide +kernel
theorem dL_law_163 : decode cL_law 163 = .ok (.iload 6, 2) := by decide +kernel
theorem dL_law_165 : decode cL_law 165 = .ok (.iconst 3, 1) := by decide +kernel
theorem dL_law_166 : decode cL_law 166 = .ok (.if_icmp .lt 16, 3) := by decide +kernel
theorem dL_law_169 : decode cL_law 169 = .ok (.iload 8, 2) := by decide +kernel
theorem dL_law_171 : decode cL_law 171 = .ok (.ifCond .ne 76, 3) := by decide +kernel
theorem dL_law_174 : decode cL_law 174 = .ok (.aload 5, 2) := by decide +kernel
theorem dL_law_176 : decode cL_law 176 = .ok (.bipush 6, 2) := by decide +kernel
theorem dL_law_178 : decode cL_law 178 = .ok (.iaload, 1) := by decide +kernel
theorem dL_law_179 : decode cL_law 179 = .ok (.ifCond .ne 68, 3) := by decide +kernel
theorem dL_law_182 : decode cL_law 182 = .ok (.aload 5, 2) := by decide +kernel
theorem dL_law_184 : decode cL_law 184 = .ok (.iconst 4, 1) := by decide +kernel
theorem dL_law_185 : decode cL_law 185 = .ok (.iaload, 1) := by decide +kernel
theorem dL_law_186 : decode cL_law 186 = .ok (.bipush 8, 2) := by decide +kernel
theorem dL_law_188 : decode cL_law 188 = .ok (.if_icmp .ge 7, 3) := by decide +kernel
theorem dL_law_191 : decode cL_law 191 = .ok (.iconst 1, 1) := by decide +kernel
theorem dL_law_192 : decode cL_law 192 = .ok (.goto 4, 3) := by decide +kernel
theorem dL_law_195 : decode cL_law 195 = .ok (.iconst 0, 1) := by decide +kernel
theorem dL_law_196 : decode cL_law 196 = .ok (.istore 13, 2) := by decide +kernel
theorem dL_law_198 : decode cL_law 198 = .ok (.aload_n 1, 1) := by decide +kernel
theorem dL_law_199 : decode cL_law 199 = .ok (.invokevirtual 77, 3) := by decide +kernel
theorem dL_law_202 : decode cL_law 202 = .ok (.iload 13, 2) := by decide +kernel
theorem dL_law_204 : decode cL_law 204 = .ok (.ifCond .eq 10, 3) := by decide +kernel
theorem dL_law_207 : decode cL_law 207 = .ok (.aload 5, 2) := by decide +kernel
theorem dL_law_209 : decode cL_law 209 = .ok (.iconst 4, 1) := by decide +kernel
theorem dL_law_210 : decode cL_law 210 = .ok (.iaload, 1) := by decide +kernel
theorem dL_law_211 : decode cL_law 211 = .ok (.goto 6, 3) := by decide +kernel
theorem dL_law_214 : decode cL_law 214 = .ok (.sipush (-10004), 3) := by decide +kernel
theorem dL_law_217 : decode cL_law 217 = .ok (.if_icmp .ne 7, 3) := by decide +kernel
theorem dL_law_220 : decode cL_law 220 = .ok (.iconst 1, 1) := by decide +kernel
theorem dL_law_221 : decode cL_law 221 = .ok (.goto 4, 3) := by decide +kernel
theorem dL_law_224 : decode cL_law 224 = .ok (.iconst 0, 1) := by decide +kernel
theorem dL_law_225 : decode cL_law 225 = .ok (.istore 12, 2) := by decide +kernel
theorem dL_law_227 : decode cL_law 227 = .ok (.aload 5, 2) := by decide +kernel
theorem dL_law_229 : decode cL_law 229 = .ok (.iconst 4, 1) := by decide +kernel
theorem dL_law_230 : decode cL_law 230 = .ok (.dup2, 1) := by decide +kernel
theorem dL_law_231 : decode cL_law 231 = .ok (.iaload, 1) := by decide +kernel
theorem dL_law_232 : decode cL_law 232 = .ok (.iload 13, 2) := by decide +kernel
theorem dL_law_234 : decode cL_law 234 = .ok (.ifCond .eq 7, 3) := by decide +kernel
theorem dL_law_237 : decode cL_law 237 = .ok (.iconst 1, 1) := by decide +kernel
theorem dL_law_238 : decode cL_law 238 = .ok (.goto 4, 3) := by decide +kernel
theorem dL_law_241 : decode cL_law 241 = .ok (.iconst 0, 1) := by decide +kernel
theorem dL_law_242 : decode cL_law 242 = .ok (.iadd, 1) := by decide +kernel
theorem dL_law_243 : decode cL_law 243 = .ok (.iastore, 1) := by decide +kernel
theorem dL_law_244 : decode cL_law 244 = .ok (.goto 1129, 3) := by decide +kernel
theorem dL_law_247 : decode cL_law 247 = .ok (.iload 8, 2) := by decide +kernel
theorem dL_law_249 : decode cL_law 249 = .ok (.iconst 1, 1) := by decide +kernel
theorem dL_law_250 : decode cL_law 250 = .ok (.if_icmp .ne 106, 3) := by decide +kernel
theorem dL_law_253 : decode cL_law 253 = .ok (.iload 7, 2) := by decide +kernel
theorem dL_law_255 : decode cL_law 255 = .ok (.bipush 9, 2) := by decide +kernel
theorem dL_law_257 : decode cL_law 257 = .ok (.ishr, 1) := by decide +kernel
theorem dL_law_258 : decode cL_law 258 = .ok (.iconst 4, 1) := by decide +kernel
theorem dL_law_259 : decode cL_law 259 = .ok (.invokestatic 74, 3) := by decide +kernel
theorem dL_law_262 : decode cL_law 262 = .ok (.istore 13, 2) := by decide +kernel
theorem dL_law_264 : decode cL_law 264 = .ok (.iload 13, 2) := by decide +kernel
theorem dL_law_266 : decode cL_law 266 = .ok (.ifCond .ne 15, 3) := by decide +kernel
theorem dL_law_269 : decode cL_law 269 = .ok (.iload 7, 2) := by decide +kernel
theorem dL_law_271 : decode cL_law 271 = .ok (.bipush 12, 2) := by decide +kernel
theorem dL_law_273 : decode cL_law 273 = .ok (.ishr, 1) := by decide +kernel
theorem dL_law_274 : decode cL_law 274 = .ok (.iconst 4, 1) := by decide +kernel
theorem dL_law_275 : decode cL_law 275 = .ok (.invokestatic 74, 3) := by decide +kernel
theorem dL_law_278 : decode cL_law 278 = .ok (.goto 32, 3) := by decide +kernel
theorem dL_law_281 : decode cL_law 281 = .ok (.iload 13, 2) := by decide +kernel
theorem dL_law_283 : decode cL_law 283 = .ok (.iconst 2, 1) := by decide +kernel
theorem dL_law_284 : decode cL_law 284 = .ok (.if_icmp .ne 15, 3) := by decide +kernel
theorem dL_law_287 : decode cL_law 287 = .ok (.iload 7, 2) := by decide +kernel
theorem dL_law_289 : decode cL_law 289 = .ok (.bipush 12, 2) := by decide +kernel
theorem dL_law_291 : decode cL_law 291 = .ok (.ishr, 1) := by decide +kernel
theorem dL_law_292 : decode cL_law 292 = .ok (.iconst 5, 1) := by decide +kernel
theorem dL_law_293 : decode cL_law 293 = .ok (.invokestatic 74, 3) := by decide +kernel
theorem dL_law_296 : decode cL_law 296 = .ok (.goto 14, 3) := by decide +kernel
theorem dL_law_299 : decode cL_law 299 = .ok (.iconst 1, 1) := by decide +kernel
theorem dL_law_300 : decode cL_law 300 = .ok (.iload 7, 2) := by decide +kernel
theorem dL_law_302 : decode cL_law 302 = .ok (.bipush 12, 2) := by decide +kernel
theorem dL_law_304 : decode cL_law 304 = .ok (.ishr, 1) := by decide +kernel
theorem dL_law_305 : decode cL_law 305 = .ok (.iconst 4, 1) := by decide +kernel
theorem dL_law_306 : decode cL_law 306 = .ok (.invokestatic 74, 3) := by decide +kernel
theorem dL_law_309 : decode cL_law 309 = .ok (.iadd, 1) := by decide +kernel
theorem dL_law_310 : decode cL_law 310 = .ok (.istore 14, 2) := by decide +kernel
theorem dL_law_312 : decode cL_law 312 = .ok (.aload_n 1, 1) := by decide +kernel
theorem dL_law_313 : decode cL_law 313 = .ok (.iload 13, 2) := by decide +kernel
theorem dL_law_315 : decode cL_law 315 = .ok (.iload 14, 2) := by decide +kernel
theorem dL_law_317 : decode cL_law 317 = .ok (.invokevirtual 80, 3) := by decide +kernel
theorem dL_law_320 : decode cL_law 320 = .ok (.aload 5, 2) := by decide +kernel
theorem dL_law_322 : decode cL_law 322 = .ok (.iload 13, 2) := by decide +kernel
theorem dL_law_324 : decode cL_law 324 = .ok (.iaload, 1) := by decide +kernel
theorem dL_law_325 : decode cL_law 325 = .ok (.if_icmp .ne 18, 3) := by decide +kernel
theorem dL_law_328 : decode cL_law 328 = .ok (.aload_n 1, 1) := by decide +kernel
theorem dL_law_329 : decode cL_law 329 = .ok (.iload 13, 2) := by decide +kernel
theorem dL_law_331 : decode cL_law 331 = .ok (.invokevirtual 83, 3) := by decide +kernel
theorem dL_law_334 : decode cL_law 334 = .ok (.iload 14, 2) := by decide +kernel
theorem dL_law_336 : decode cL_law 336 = .ok (.if_icmp .ne 7, 3) := by decide +kernel
theorem dL_law_339 : decode cL_law 339 = .ok (.iconst 1, 1) := by decide +kernel
theorem dL_law_340 : decode cL_law 340 = .ok (.goto 4, 3) := by decide +kernel
theorem dL_law_343 : decode cL_law 343 = .ok (.iconst 0, 1) := by decide +kernel
theorem dL_law_344 : decode cL_law 344 = .ok (.istore 12, 2) := by decide +kernel
theorem dL_law_346 : decode cL_law 346 = .ok (.aload 5, 2) := by decide +kernel
theorem dL_law_348 : decode cL_law 348 = .ok (.iload 13, 2) := by decide +kernel
theorem dL_law_350 : decode cL_law 350 = .ok (.iload 14, 2) := by decide +kernel
theorem dL_law_352 : decode cL_law 352 = .ok (.iastore, 1) := by decide +kernel
theorem dL_law_353 : decode cL_law 353 = .ok (.goto 1020, 3) := by decide +kernel
theorem dL_law_356 : decode cL_law 356 = .ok (.aload 5, 2) := by decide +kernel
theorem dL_law_358 : decode cL_law 358 = .ok (.bipush 6, 2) := by decide +kernel
theorem dL_law_360 : decode cL_law 360 = .ok (.iaload, 1) := by decide +kernel
theorem dL_law_361 : decode cL_law 361 = .ok (.ifCond .ne 160, 3) := by decide +kernel
theorem dL_law_364 : decode cL_law 364 = .ok (.iconst 1, 1) := by decide +kernel
theorem dL_law_365 : decode cL_law 365 = .ok (.iload 7, 2) := by decide +kernel
theorem dL_law_367 : decode cL_law 367 = .ok (.bipush 12, 2) := by decide +kernel
theorem dL_law_369 : decode cL_law 369 = .ok (.ishr, 1) := by decide +kernel
theorem dL_law_370 : decode cL_law 370 = .ok (.bipush 8, 2) := by decide +kernel
theorem dL_law_372 : decode cL_law 372 = .ok (.invokestatic 74, 3) := by decide +kernel
theorem dL_law_375 : decode cL_law 375 = .ok (.iadd, 1) := by decide +kernel
theorem dL_law_376 : decode cL_law 376 = .ok (.istore 13, 2) := by decide +kernel
theorem dL_law_378 : decode cL_law 378 = .ok (.aload 5, 2) := by decide +kernel
theorem dL_law_380 : decode cL_law 380 = .ok (.bipush 6, 2) := by decide +kernel
theorem dL_law_382 : decode cL_law 382 = .ok (.iconst 1, 1) := by decide +kernel
theorem dL_law_383 : decode cL_law 383 = .ok (.iastore, 1) := by decide +kernel
theorem dL_law_384 : decode cL_law 384 = .ok (.aload 5, 2) := by decide +kernel
theorem dL_law_386 : decode cL_law 386 = .ok (.bipush 7, 2) := by decide +kernel
theorem dL_law_388 : decode cL_law 388 = .ok (.iload 10, 2) := by decide +kernel
theorem dL_law_390 : decode cL_law 390 = .ok (.iastore, 1) := by decide +kernel
theorem dL_law_391 : decode cL_law 391 = .ok (.aload 5, 2) := by decide +kernel
theorem dL_law_393 : decode cL_law 393 = .ok (.bipush 8, 2) := by decide +kernel
theorem dL_law_395 : decode cL_law 395 = .ok (.iload 13, 2) := by decide +kernel
theorem dL_law_397 : decode cL_law 397 = .ok (.iastore, 1) := by decide +kernel
theorem dL_law_398 : decode cL_law 398 = .ok (.aload 5, 2) := by decide +kernel
theorem dL_law_400 : decode cL_law 400 = .ok (.bipush 9, 2) := by decide +kernel
theorem dL_law_402 : decode cL_law 402 = .ok (.iconst 0, 1) := by decide +kernel
theorem dL_law_403 : decode cL_law 403 = .ok (.iastore, 1) := by decide +kernel
theorem dL_law_404 : decode cL_law 404 = .ok (.aload_n 2, 1) := by decide +kernel
theorem dL_law_405 : decode cL_law 405 = .ok (.bipush 6, 2) := by decide +kernel
theorem dL_law_407 : decode cL_law 407 = .ok (.iload 10, 2) := by decide +kernel
theorem dL_law_409 : decode cL_law 409 = .ok (.imul, 1) := by decide +kernel
theorem dL_law_410 : decode cL_law 410 = .ok (.iconst 1, 1) := by decide +kernel
theorem dL_law_411 : decode cL_law 411 = .ok (.iadd, 1) := by decide +kernel
theorem dL_law_412 : decode cL_law 412 = .ok (.dup2, 1) := by decide +kernel
theorem dL_law_413 : decode cL_law 413 = .ok (.iaload, 1) := by decide +kernel
theorem dL_law_414 : decode cL_law 414 = .ok (.iconst 1, 1) := by decide +kernel
theorem dL_law_415 : decode cL_law 415 = .ok (.iadd, 1) := by decide +kernel
theorem dL_law_416 : decode cL_law 416 = .ok (.iastore, 1) := by decide +kernel
theorem dL_law_417 : decode cL_law 417 = .ok (.iconst 0, 1) := by decide +kernel
theorem dL_law_418 : decode cL_law 418 = .ok (.istore 14, 2) := by decide +kernel
theorem dL_law_420 : decode cL_law 420 = .ok (.iconst 0, 1) := by decide +kernel
theorem dL_law_421 : decode cL_law 421 = .ok (.istore 15, 2) := by decide +kernel
theorem dL_law_423 : decode cL_law 423 = .ok (.iload 15, 2) := by decide +kernel
theorem dL_law_425 : decode cL_law 425 = .ok (.bipush 16, 2) := by decide +kernel
theorem dL_law_427 : decode cL_law 427 = .ok (.if_icmp .ge 31, 3) := by decide +kernel
theorem dL_law_430 : decode cL_law 430 = .ok (.iload 14, 2) := by decide +kernel
theorem dL_law_432 : decode cL_law 432 = .ok (.aload 4, 2) := by decide +kernel
theorem dL_law_434 : decode cL_law 434 = .ok (.aload 5, 2) := by decide +kernel
theorem dL_law_436 : decode cL_law 436 = .ok (.iload 15, 2) := by decide +kernel
theorem dL_law_438 : decode cL_law 438 = .ok (.invokestatic 36, 3) := by decide +kernel
theorem dL_law_441 : decode cL_law 441 = .ok (.ifCond .eq 7, 3) := by decide +kernel
theorem dL_law_444 : decode cL_law 444 = .ok (.iconst 1, 1) := by decide +kernel
theorem dL_law_445 : decode cL_law 445 = .ok (.goto 4, 3) := by decide +kernel
theorem dL_law_448 : decode cL_law 448 = .ok (.iconst 0, 1) := by decide +kernel
theorem dL_law_449 : decode cL_law 449 = .ok (.iadd, 1) := by decide +kernel
theorem dL_law_450 : decode cL_law 450 = .ok (.istore 14, 2) := by decide +kernel
theorem dL_law_452 : decode cL_law 452 = .ok (.iinc 15 1, 3) := by decide +kernel
theorem dL_law_455 : decode cL_law 455 = .ok (.goto (-32), 3) := by decide +kernel
theorem dL_law_458 : decode cL_law 458 = .ok (.aload_n 1, 1) := by decide +kernel
theorem dL_law_459 : decode cL_law 459 = .ok (.iconst 1, 1) := by decide +kernel
theorem dL_law_460 : decode cL_law 460 = .ok (.invokevirtual 86, 3) := by decide +kernel
theorem dL_law_463 : decode cL_law 463 = .ok (.iload 11, 2) := by decide +kernel
theorem dL_law_465 : decode cL_law 465 = .ok (.if_icmp .ne 50, 3) := by decide +kernel
theorem dL_law_468 : decode cL_law 468 = .ok (.aload_n 1, 1) := by decide +kernel
theorem dL_law_469 : decode cL_law 469 = .ok (.invokevirtual 89, 3) := by decide +kernel
theorem dL_law_472 : decode cL_law 472 = .ok (.iload 11, 2) := by decide +kernel
theorem dL_law_474 : decode cL_law 474 = .ok (.if_icmp .ne 41, 3) := by decide +kernel
theorem dL_law_477 : decode cL_law 477 = .ok (.aload_n 1, 1) := by decide +kernel
theorem dL_law_478 : decode cL_law 478 = .ok (.iload 10, 2) := by decide +kernel
theorem dL_law_480 : decode cL_law 480 = .ok (.iload 13, 2) := by decide +kernel
theorem dL_law_482 : decode cL_law 482 = .ok (.invokevirtual 92, 3) := by decide +kernel
theorem dL_law_485 : decode cL_law 485 = .ok (.iload 14, 2) := by decide +kernel
theorem dL_law_487 : decode cL_law 487 = .ok (.if_icmp .ne 28, 3) := by decide +kernel
theorem dL_law_490 : decode cL_law 490 = .ok (.aload_n 1, 1) := by decide +kernel
theorem dL_law_491 : decode cL_law 491 = .ok (.iload 10, 2) := by decide +kernel
theorem dL_law_493 : decode cL_law 493 = .ok (.iconst 1, 1) := by decide +kernel
theorem dL_law_494 : decode cL_law 494 = .ok (.invokevirtual 92, 3) := by decide +kernel
theorem dL_law_497 : decode cL_law 497 = .ok (.iload 11, 2) := by decide +kernel
theorem dL_law_499 : decode cL_law 499 = .ok (.if_icmp .ne 16, 3) := by decide +kernel
theorem dL_law_502 : decode cL_law 502 = .ok (.aload_n 1, 1) := by decide +kernel
theorem dL_law_503 : decode cL_law 503 = .ok (.invokevirtual 77, 3) := by decide +kernel
theorem dL_law_506 : decode cL_law 506 = .ok (.iload 11, 2) := by decide +kernel
theorem dL_law_508 : decode cL_law 508 = .ok (.if_icmp .ne 7, 3) := by decide +kernel
theorem dL_law_511 : decode cL_law 511 = .ok (.iconst 1, 1) := by decide +kernel
theorem dL_law_512 : decode cL_law 512 = .ok (.goto 4, 3) := by decide +kernel
theorem dL_law_515 : decode cL_law 515 = .ok (.iconst 0, 1) := by decide +kernel
theorem dL_law_516 : decode cL_law 516 = .ok (.istore 12, 2) := by decide +kernel
theorem dL_law_518 : decode cL_law 518 = .ok (.goto 855, 3) := by decide +kernel
theorem dL_law_521 : decode cL_law 521 = .ok (.aload 5, 2) := by decide +kernel
theorem dL_law_523 : decode cL_law 523 = .ok (.bipush 6, 2) := by decide +kernel
theorem dL_law_525 : decode cL_law 525 = .ok (.iaload, 1) := by decide +kernel
theorem dL_law_526 : decode cL_law 526 = .ok (.iconst 1, 1) := by decide +kernel
theorem dL_law_527 : decode cL_law 527 = .ok (.if_icmp .ne 152, 3) := by decide +kernel
theorem dL_law_530 : decode cL_law 530 = .ok (.iload 8, 2) := by decide +kernel
theorem dL_law_532 : decode cL_law 532 = .ok (.bipush 15, 2) := by decide +kernel
theorem dL_law_534 : decode cL_law 534 = .ok (.if_icmp .ge 145, 3) := by decide +kernel
theorem dL_law_537 : decode cL_law 537 = .ok (.iload 10, 2) := by decide +kernel
theorem dL_law_539 : decode cL_law 539 = .ok (.aload 5, 2) := by decide +kernel
theorem dL_law_541 : decode cL_law 541 = .ok (.bipush 7, 2) := by decide +kernel
theorem dL_law_543 : decode cL_law 543 = .ok (.iaload, 1) := by decide +kernel
theorem dL_law_544 : decode cL_law 544 = .ok (.if_icmp .eq 31, 3) := by decide +kernel
theorem dL_law_547 : decode cL_law 547 = .ok (.aload_n 2, 1) := by decide +kernel
theorem dL_law_548 : decode cL_law 548 = .ok (.bipush 6, 2) := by decide +kernel
theorem dL_law_550 : decode cL_law 550 = .ok (.iload 10, 2) := by decide +kernel
theorem dL_law_552 : decode cL_law 552 = .ok (.imul, 1) := by decide +kernel
theorem dL_law_553 : decode cL_law 553 = .ok (.iconst 5, 1) := by decide +kernel
theorem dL_law_554 : decode cL_law 554 = .ok (.iadd, 1) := by decide +kernel
theorem dL_law_555 : decode cL_law 555 = .ok (.iaload, 1) := by decide +kernel
theorem dL_law_556 : decode cL_law 556 = .ok (.ifCond .ge 19, 3) := by decide +kernel
theorem dL_law_559 : decode cL_law 559 = .ok (.aload 4, 2) := by decide +kernel
theorem dL_law_561 : decode cL_law 561 = .ok (.aload 5, 2) := by decide +kernel
theorem dL_law_563 : decode cL_law 563 = .ok (.iload 9, 2) := by decide +kernel
theorem dL_law_565 : decode cL_law 565 = .ok (.invokestatic 36, 3) := by decide +kernel
theorem dL_law_568 : decode cL_law 568 = .ok (.ifCond .eq 7, 3) := by decide +kernel
theorem dL_law_571 : decode cL_law 571 = .ok (.iconst 1, 1) := by decide +kernel
theorem dL_law_572 : decode cL_law 572 = .ok (.goto 4, 3) := by decide +kernel
theorem dL_law_575 : decode cL_law 575 = .ok (.iconst 0, 1) := by decide +kernel
theorem dL_law_576 : decode cL_law 576 = .ok (.istore 13, 2) := by decide +kernel
theorem dL_law_578 : decode cL_law 578 = .ok (.aload_n 2, 1) := by decide +kernel
theorem dL_law_579 : decode cL_law 579 = .ok (.iload 9, 2) := by decide +kernel
theorem dL_law_581 : decode cL_law 581 = .ok (.invokestatic 32, 3) := by decide +kernel
theorem dL_law_584 : decode cL_law 584 = .ok (.invokestatic 40, 3) := by decide +kernel
theorem dL_law_587 : decode cL_law 587 = .ok (.iconst 2, 1) := by decide +kernel
theorem dL_law_588 : decode cL_law 588 = .ok (.if_icmp .ne 7, 3) := by decide +kernel
theorem dL_law_591 : decode cL_law 591 = .ok (.iconst 1, 1) := by decide +kernel
theorem dL_law_592 : decode cL_law 592 = .ok (.goto 4, 3) := by decide +kernel
theorem dL_law_595 : decode cL_law 595 = .ok (.iconst 0, 1) := by decide +kernel
theorem dL_law_596 : decode cL_law 596 = .ok (.istore 14, 2) := by decide +kernel
theorem dL_law_598 : decode cL_law 598 = .ok (.aload_n 1, 1) := by decide +kernel
theorem dL_law_599 : decode cL_law 599 = .ok (.iload 10, 2) := by decide +kernel
theorem dL_law_601 : decode cL_law 601 = .ok (.iload 9, 2) := by decide +kernel
theorem dL_law_603 : decode cL_law 603 = .ok (.invokevirtual 95, 3) := by decide +kernel
theorem dL_law_606 : decode cL_law 606 = .ok (.iload 13, 2) := by decide +kernel
theorem dL_law_608 : decode cL_law 608 = .ok (.ifCond .ne 8, 3) := by decide +kernel
theorem dL_law_611 : decode cL_law 611 = .ok (.iload 11, 2) := by decide +kernel
theorem dL_law_613 : decode cL_law 613 = .ok (.goto 20, 3) := by decide +kernel
theorem dL_law_616 : decode cL_law 616 = .ok (.iload 14, 2) := by decide +kernel
theorem dL_law_618 : decode cL_law 618 = .ok (.ifCond .eq 9, 3) := by decide +kernel
theorem dL_law_621 : decode cL_law 621 = .ok (.sipush (-10004), 3) := by decide +kernel
theorem dL_law_624 : decode cL_law 624 = .ok (.goto 9, 3) := by decide +kernel
theorem dL_law_627 : decode cL_law 627 = .ok (.iconst 0, 1) := by decide +kernel
theorem dL_law_628 : decode cL_law 628 = .ok (.iload 9, 2) := by decide +kernel
theorem dL_law_630 : decode cL_law 630 = .ok (.invokestatic 10, 3) := by decide +kernel
theorem dL_law_633 : decode cL_law 633 = .ok (.if_icmp .ne 7, 3) := by decide +kernel
theorem dL_law_636 : decode cL_law 636 = .ok (.iconst 1, 1) := by decide +kernel
theorem dL_law_637 : decode cL_law 637 = .ok (.goto 4, 3) := by decide +kernel
theorem dL_law_640 : decode cL_law 640 = .ok (.iconst 0, 1) := by decide +kernel
theorem dL_law_641 : decode cL_law 641 = .ok (.istore 12, 2) := by decide +kernel
theorem dL_law_643 : decode cL_law 643 = .ok (.aload_n 2, 1) := by decide +kernel
theorem dL_law_644 : decode cL_law 644 = .ok (.bipush 6, 2) := by decide +kernel
theorem dL_law_646 : decode cL_law 646 = .ok (.iload 10, 2) := by decide +kernel
theorem dL_law_648 : decode cL_law 648 = .ok (.imul, 1) := by decide +kernel
theorem dL_law_649 : decode cL_law 649 = .ok (.iconst 5, 1) := by decide +kernel
theorem dL_law_650 : decode cL_law 650 = .ok (.iadd, 1) := by decide +kernel
theorem dL_law_651 : decode cL_law 651 = .ok (.iload 13, 2) := by decide +kernel
theorem dL_law_653 : decode cL_law 653 = .ok (.ifCond .eq 13, 3) := by decide +kernel
theorem dL_law_656 : decode cL_law 656 = .ok (.iload 14, 2) := by decide +kernel
theorem dL_law_658 : decode cL_law 658 = .ok (.ifCond .ne 8, 3) := by decide +kernel
theorem dL_law_661 : decode cL_law 661 = .ok (.iload 9, 2) := by decide +kernel
theorem dL_law_663 : decode cL_law 663 = .ok (.goto 12, 3) := by decide +kernel
theorem dL_law_666 : decode cL_law 666 = .ok (.aload_n 2, 1) := by decide +kernel
theorem dL_law_667 : decode cL_law 667 = .ok (.bipush 6, 2) := by decide +kernel
theorem dL_law_669 : decode cL_law 669 = .ok (.iload 10, 2) := by decide +kernel
theorem dL_law_671 : decode cL_law 671 = .ok (.imul, 1) := by decide +kernel
theorem dL_law_672 : decode cL_law 672 = .ok (.iconst 5, 1) := by decide +kernel
theorem dL_law_673 : decode cL_law 673 = .ok (.iadd, 1) := by decide +kernel
theorem dL_law_674 : decode cL_law 674 = .ok (.iaload, 1) := by decide +kernel
theorem dL_law_675 : decode cL_law 675 = .ok (.iastore, 1) := by decide +kernel
theorem dL_law_676 : decode cL_law 676 = .ok (.goto 697, 3) := by decide +kernel
theorem dL_law_679 : decode cL_law 679 = .ok (.aload 5, 2) := by decide +kernel
theorem dL_law_681 : decode cL_law 681 = .ok (.bipush 6, 2) := by decide +kernel
theorem dL_law_683 : decode cL_law 683 = .ok (.iaload, 1) := by decide +kernel
theorem dL_law_684 : decode cL_law 684 = .ok (.iconst 1, 1) := by decide +kernel
theorem dL_law_685 : decode cL_law 685 = .ok (.if_icmp .ne 48, 3) := by decide +kernel
theorem dL_law_688 : decode cL_law 688 = .ok (.aload_n 2, 1) := by decide +kernel
theorem dL_law_689 : decode cL_law 689 = .ok (.invokestatic 66, 3) := by decide +kernel
theorem dL_law_692 : decode cL_law 692 = .ok (.istore 13, 2) := by decide +kernel
theorem dL_law_694 : decode cL_law 694 = .ok (.aload 5, 2) := by decide +kernel
theorem dL_law_696 : decode cL_law 696 = .ok (.bipush 6, 2) := by decide +kernel
theorem dL_law_698 : decode cL_law 698 = .ok (.iconst 2, 1) := by decide +kernel
theorem dL_law_699 : decode cL_law 699 = .ok (.iastore, 1) := by decide +kernel
theorem dL_law_700 : decode cL_law 700 = .ok (.aload_n 1, 1) := by decide +kernel
theorem dL_law_701 : decode cL_law 701 = .ok (.invokevirtual 89, 3) := by decide +kernel
theorem dL_law_704 : decode cL_law 704 = .ok (.iload 13, 2) := by decide +kernel
theorem dL_law_706 : decode cL_law 706 = .ok (.if_icmp .ne 7, 3) := by decide +kernel
theorem dL_law_709 : decode cL_law 709 = .ok (.iconst 1, 1) := by decide +kernel
theorem dL_law_710 : decode cL_law 710 = .ok (.goto 4, 3) := by decide +kernel
theorem dL_law_713 : decode cL_law 713 = .ok (.iconst 0, 1) := by decide +kernel
theorem dL_law_714 : decode cL_law 714 = .ok (.istore 12, 2) := by decide +kernel
theorem dL_law_716 : decode cL_law 716 = .ok (.iload 13, 2) := by decide +kernel
theorem dL_law_718 : decode cL_law 718 = .ok (.ifCond .ne 12, 3) := by decide +kernel
theorem dL_law_721 : decode cL_law 721 = .ok (.aload_n 2, 1) := by decide +kernel
theorem dL_law_722 : decode cL_law 722 = .ok (.aload_n 3, 1) := by decide +kernel
theorem dL_law_723 : decode cL_law 723 = .ok (.aload 4, 2) := by decide +kernel
theorem dL_law_725 : decode cL_law 725 = .ok (.aload 5, 2) := by decide +kernel
theorem dL_law_727 : decode cL_law 727 = .ok (.invokestatic 98, 3) := by decide +kernel
theorem dL_law_730 : decode cL_law 730 = .ok (.goto 643, 3) := by decide +kernel
theorem dL_law_733 : decode cL_law 733 = .ok (.iload 8, 2) := by decide +kernel
theorem dL_law_735 : decode cL_law 735 = .ok (.bipush 7, 2) := by decide +kernel
theorem dL_law_737 : decode cL_law 737 = .ok (.if_icmp .ge 59, 3) := by decide +kernel
theorem dL_law_740 : decode cL_law 740 = .ok (.iload 7, 2) := by decide +kernel
theorem dL_law_742 : decode cL_law 742 = .ok (.bipush 12, 2) := by decide +kernel
theorem dL_law_744 : decode cL_law 744 = .ok (.ishr, 1) := by decide +kernel
theorem dL_law_745 : decode cL_law 745 = .ok (.iconst 3, 1) := by decide +kernel
theorem dL_law_746 : decode cL_law 746 = .ok (.invokestatic 74, 3) := by decide +kernel
theorem dL_law_749 : decode cL_law 749 = .ok (.iconst 1, 1) := by decide +kernel
theorem dL_law_750 : decode cL_law 750 = .ok (.isub, 1) := by decide +kernel
theorem dL_law_751 : decode cL_law 751 = .ok (.istore 13, 2) := by decide +kernel
theorem dL_law_753 : decode cL_law 753 = .ok (.aload 5, 2) := by decide +kernel
theorem dL_law_755 : decode cL_law 755 = .ok (.bipush 9, 2) := by decide +kernel
theorem dL_law_757 : decode cL_law 757 = .ok (.aload 5, 2) := by decide +kernel
theorem dL_law_759 : decode cL_law 759 = .ok (.bipush 9, 2) := by decide +kernel
theorem dL_law_761 : decode cL_law 761 = .ok (.iaload, 1) := by decide +kernel
theorem dL_law_762 : decode cL_law 762 = .ok (.iload 13, 2) := by decide +kernel
theorem dL_law_764 : decode cL_law 764 = .ok (.iadd, 1) := by decide +kernel
theorem dL_law_765 : decode cL_law 765 = .ok (.bipush 16, 2) := by decide +kernel
theorem dL_law_767 : decode cL_law 767 = .ok (.iadd, 1) := by decide +kernel
theorem dL_law_768 : decode cL_law 768 = .ok (.bipush 16, 2) := by decide +kernel
theorem dL_law_770 : decode cL_law 770 = .ok (.irem, 1) := by decide +kernel
theorem dL_law_771 : decode cL_law 771 = .ok (.iastore, 1) := by decide +kernel
theorem dL_law_772 : decode cL_law 772 = .ok (.aload_n 1, 1) := by decide +kernel
theorem dL_law_773 : decode cL_law 773 = .ok (.iload 13, 2) := by decide +kernel
theorem dL_law_775 : decode cL_law 775 = .ok (.invokevirtual 86, 3) := by decide +kernel
theorem dL_law_778 : decode cL_law 778 = .ok (.aload 5, 2) := by decide +kernel
theorem dL_law_780 : decode cL_law 780 = .ok (.bipush 9, 2) := by decide +kernel
theorem dL_law_782 : decode cL_law 782 = .ok (.iaload, 1) := by decide +kernel
theorem dL_law_783 : decode cL_law 783 = .ok (.if_icmp .ne 7, 3) := by decide +kernel
theorem dL_law_786 : decode cL_law 786 = .ok (.iconst 1, 1) := by decide +kernel
theorem dL_law_787 : decode cL_law 787 = .ok (.goto 4, 3) := by decide +kernel
theorem dL_law_790 : decode cL_law 790 = .ok (.iconst 0, 1) := by decide +kernel
theorem dL_law_791 : decode cL_law 791 = .ok (.istore 12, 2) := by decide +kernel
theorem dL_law_793 : decode cL_law 793 = .ok (.goto 580, 3) := by decide +kernel
theorem dL_law_796 : decode cL_law 796 = .ok (.iload 8, 2) := by decide +kernel
theorem dL_law_798 : decode cL_law 798 = .ok (.bipush 16, 2) := by decide +kernel
theorem dL_law_800 : decode cL_law 800 = .ok (.if_icmp .ge 386, 3) := by decide +kernel
theorem dL_law_803 : decode cL_law 803 = .ok (.iload 7, 2) := by decide +kernel
theorem dL_law_805 : decode cL_law 805 = .ok (.bipush 13, 2) := by decide +kernel
theorem dL_law_807 : decode cL_law 807 = .ok (.ishr, 1) := by decide +kernel
theorem dL_law_808 : decode cL_law 808 = .ok (.iconst 3, 1) := by decide +kernel
theorem dL_law_809 : decode cL_law 809 = .ok (.invokestatic 74, 3) := by decide +kernel
theorem dL_law_812 : decode cL_law 812 = .ok (.ifCond .eq 15, 3) := by decide +kernel
theorem dL_law_815 : decode cL_law 815 = .ok (.aload_n 2, 1) := by decide +kernel
theorem dL_law_816 : decode cL_law 816 = .ok (.bipush 6, 2) := by decide +kernel
theorem dL_law_818 : decode cL_law 818 = .ok (.iload 10, 2) := by decide +kernel
theorem dL_law_820 : decode cL_law 820 = .ok (.imul, 1) := by decide +kernel
theorem dL_law_821 : decode cL_law 821 = .ok (.iconst 5, 1) := by decide +kernel
theorem dL_law_822 : decode cL_law 822 = .ok (.iadd, 1) := by decide +kernel
theorem dL_law_823 : decode cL_law 823 = .ok (.iaload, 1) := by decide +kernel
theorem dL_law_824 : decode cL_law 824 = .ok (.ifCond .ge 8, 3) := by decide +kernel
theorem dL_law_827 : decode cL_law 827 = .ok (.iload 9, 2) := by decide +kernel
theorem dL_law_829 : decode cL_law 829 = .ok (.goto 12, 3) := by decide +kernel
theorem dL_law_832 : decode cL_law 832 = .ok (.aload_n 2, 1) := by decide +kernel
theorem dL_law_833 : decode cL_law 833 = .ok (.bipush 6, 2) := by decide +kernel
theorem dL_law_835 : decode cL_law 835 = .ok (.iload 10, 2) := by decide +kernel
theorem dL_law_837 : decode cL_law 837 = .ok (.imul, 1) := by decide +kernel
theorem dL_law_838 : decode cL_law 838 = .ok (.iconst 5, 1) := by decide +kernel
theorem dL_law_839 : decode cL_law 839 = .ok (.iadd, 1) := by decide +kernel
theorem dL_law_840 : decode cL_law 840 = .ok (.iaload, 1) := by decide +kernel
theorem dL_law_841 : decode cL_law 841 = .ok (.istore 13, 2) := by decide +kernel
theorem dL_law_843 : decode cL_law 843 = .ok (.iload 10, 2) := by decide +kernel
theorem dL_law_845 : decode cL_law 845 = .ok (.aload 5, 2) := by decide +kernel
theorem dL_law_847 : decode cL_law 847 = .ok (.bipush 7, 2) := by decide +kernel
theorem dL_law_849 : decode cL_law 849 = .ok (.iaload, 1) := by decide +kernel
theorem dL_law_850 : decode cL_law 850 = .ok (.if_icmp .eq 24, 3) := by decide +kernel
theorem dL_law_853 : decode cL_law 853 = .ok (.iload 13, 2) := by decide +kernel
theorem dL_law_855 : decode cL_law 855 = .ok (.aload 5, 2) := by decide +kernel
theorem dL_law_857 : decode cL_law 857 = .ok (.bipush 9, 2) := by decide +kernel
theorem dL_law_859 : decode cL_law 859 = .ok (.iaload, 1) := by decide +kernel
theorem dL_law_860 : decode cL_law 860 = .ok (.invokestatic 10, 3) := by decide +kernel
theorem dL_law_863 : decode cL_law 863 = .ok (.aload 5, 2) := by decide +kernel
theorem dL_law_865 : decode cL_law 865 = .ok (.iconst 0, 1) := by decide +kernel
theorem dL_law_866 : decode cL_law 866 = .ok (.iaload, 1) := by decide +kernel
theorem dL_law_867 : decode cL_law 867 = .ok (.if_icmp .gt 7, 3) := by decide +kernel
theorem dL_law_870 : decode cL_law 870 = .ok (.iconst 1, 1) := by decide +kernel
theorem dL_law_871 : decode cL_law 871 = .ok (.goto 4, 3) := by decide +kernel
theorem dL_law_874 : decode cL_law 874 = .ok (.iconst 0, 1) := by decide +kernel
theorem dL_law_875 : decode cL_law 875 = .ok (.istore 14, 2) := by decide +kernel
theorem dL_law_877 : decode cL_law 877 = .ok (.iload 14, 2) := by decide +kernel
theorem dL_law_879 : decode cL_law 879 = .ok (.ifCond .eq 21, 3) := by decide +kernel
theorem dL_law_882 : decode cL_law 882 = .ok (.aload_n 2, 1) := by decide +kernel
theorem dL_law_883 : decode cL_law 883 = .ok (.bipush 6, 2) := by decide +kernel
theorem dL_law_885 : decode cL_law 885 = .ok (.iload 10, 2) := by decide +kernel
theorem dL_law_887 : decode cL_law 887 = .ok (.imul, 1) := by decide +kernel
theorem dL_law_888 : decode cL_law 888 = .ok (.iconst 5, 1) := by decide +kernel
theorem dL_law_889 : decode cL_law 889 = .ok (.iadd, 1) := by decide +kernel
theorem dL_law_890 : decode cL_law 890 = .ok (.iaload, 1) := by decide +kernel
theorem dL_law_891 : decode cL_law 891 = .ok (.iload 13, 2) := by decide +kernel
theorem dL_law_893 : decode cL_law 893 = .ok (.if_icmp .ne 7, 3) := by decide +kernel
theorem dL_law_896 : decode cL_law 896 = .ok (.iconst 1, 1) := by decide +kernel
theorem dL_law_897 : decode cL_law 897 = .ok (.goto 4, 3) := by decide +kernel
theorem dL_law_900 : decode cL_law 900 = .ok (.iconst 0, 1) := by decide +kernel
theorem dL_law_901 : decode cL_law 901 = .ok (.istore 15, 2) := by decide +kernel
theorem dL_law_903 : decode cL_law 903 = .ok (.bipush 6, 2) := by decide +kernel
theorem dL_law_905 : decode cL_law 905 = .ok (.aload 5, 2) := by decide +kernel
theorem dL_law_907 : decode cL_law 907 = .ok (.bipush 7, 2) := by decide +kernel
theorem dL_law_909 : decode cL_law 909 = .ok (.iaload, 1) := by decide +kernel
theorem dL_law_910 : decode cL_law 910 = .ok (.imul, 1) := by decide +kernel
theorem dL_law_911 : decode cL_law 911 = .ok (.istore 16, 2) := by decide +kernel
theorem dL_law_913 : decode cL_law 913 = .ok (.iload 15, 2) := by decide +kernel
theorem dL_law_915 : decode cL_law 915 = .ok (.ifCond .eq 71, 3) := by decide +kernel
theorem dL_law_918 : decode cL_law 918 = .ok (.aload_n 2, 1) := by decide +kernel
theorem dL_law_919 : decode cL_law 919 = .ok (.bipush 6, 2) := by decide +kernel
theorem dL_law_921 : decode cL_law 921 = .ok (.iload 10, 2) := by decide +kernel
theorem dL_law_923 : decode cL_law 923 = .ok (.imul, 1) := by decide +kernel
theorem dL_law_924 : decode cL_law 924 = .ok (.iconst 5, 1) := by decide +kernel
theorem dL_law_925 : decode cL_law 925 = .ok (.iadd, 1) := by decide +kernel
theorem dL_law_926 : decode cL_law 926 = .ok (.iconst (-1), 1) := by decide +kernel
theorem dL_law_927 : decode cL_law 927 = .ok (.iastore, 1) := by decide +kernel
theorem dL_law_928 : decode cL_law 928 = .ok (.aload_n 2, 1) := by decide +kernel
theorem dL_law_929 : decode cL_law 929 = .ok (.iload 16, 2) := by decide +kernel
theorem dL_law_931 : decode cL_law 931 = .ok (.dup2, 1) := by decide +kernel
theorem dL_law_932 : decode cL_law 932 = .ok (.iaload, 1) := by decide +kernel
theorem dL_law_933 : decode cL_law 933 = .ok (.iconst 2, 1) := by decide +kernel
theorem dL_law_934 : decode cL_law 934 = .ok (.iadd, 1) := by decide +kernel
theorem dL_law_935 : decode cL_law 935 = .ok (.iastore, 1) := by decide +kernel
theorem dL_law_936 : decode cL_law 936 = .ok (.aload_n 2, 1) := by decide +kernel
theorem dL_law_937 : decode cL_law 937 = .ok (.iload 16, 2) := by decide +kernel
theorem dL_law_939 : decode cL_law 939 = .ok (.iconst 2, 1) := by decide +kernel
theorem dL_law_940 : decode cL_law 940 = .ok (.iadd, 1) := by decide +kernel
theorem dL_law_941 : decode cL_law 941 = .ok (.dup2, 1) := by decide +kernel
theorem dL_law_942 : decode cL_law 942 = .ok (.iaload, 1) := by decide +kernel
theorem dL_law_943 : decode cL_law 943 = .ok (.iconst 1, 1) := by decide +kernel
theorem dL_law_944 : decode cL_law 944 = .ok (.iadd, 1) := by decide +kernel
theorem dL_law_945 : decode cL_law 945 = .ok (.iastore, 1) := by decide +kernel
theorem dL_law_946 : decode cL_law 946 = .ok (.aload_n 3, 1) := by decide +kernel
theorem dL_law_947 : decode cL_law 947 = .ok (.iload 13, 2) := by decide +kernel
theorem dL_law_949 : decode cL_law 949 = .ok (.dup2, 1) := by decide +kernel
theorem dL_law_950 : decode cL_law 950 = .ok (.iaload, 1) := by decide +kernel
theorem dL_law_951 : decode cL_law 951 = .ok (.iconst 1, 1) := by decide +kernel
theorem dL_law_952 : decode cL_law 952 = .ok (.iadd, 1) := by decide +kernel
theorem dL_law_953 : decode cL_law 953 = .ok (.iastore, 1) := by decide +kernel
theorem dL_law_954 : decode cL_law 954 = .ok (.aload 4, 2) := by decide +kernel
theorem dL_law_956 : decode cL_law 956 = .ok (.iconst 2, 1) := by decide +kernel
theorem dL_law_957 : decode cL_law 957 = .ok (.iload 13, 2) := by decide +kernel
theorem dL_law_959 : decode cL_law 959 = .ok (.imul, 1) := by decide +kernel
theorem dL_law_960 : decode cL_law 960 = .ok (.aload_n 3, 1) := by decide +kernel
theorem dL_law_961 : decode cL_law 961 = .ok (.iload 13, 2) := by decide +kernel
theorem dL_law_963 : decode cL_law 963 = .ok (.iaload, 1) := by decide +kernel
theorem dL_law_964 : decode cL_law 964 = .ok (.aload 5, 2) := by decide +kernel
theorem dL_law_966 : decode cL_law 966 = .ok (.iconst 1, 1) := by decide +kernel
theorem dL_law_967 : decode cL_law 967 = .ok (.iaload, 1) := by decide +kernel
theorem dL_law_968 : decode cL_law 968 = .ok (.if_icmp .lt 7, 3) := by decide +kernel
theorem dL_law_971 : decode cL_law 971 = .ok (.iconst 1, 1) := by decide +kernel
theorem dL_law_972 : decode cL_law 972 = .ok (.goto 10, 3) := by decide +kernel
theorem dL_law_975 : decode cL_law 975 = .ok (.aload 4, 2) := by decide +kernel
theorem dL_law_977 : decode cL_law 977 = .ok (.iconst 2, 1) := by decide +kernel
theorem dL_law_978 : decode cL_law 978 = .ok (.iload 13, 2) := by decide +kernel
theorem dL_law_980 : decode cL_law 980 = .ok (.imul, 1) := by decide +kernel
theorem dL_law_981 : decode cL_law 981 = .ok (.iaload, 1) := by decide +kernel
theorem dL_law_982 : decode cL_law 982 = .ok (.iastore, 1) := by decide +kernel
theorem dL_law_983 : decode cL_law 983 = .ok (.goto 35, 3) := by decide +kernel
theorem dL_law_986 : decode cL_law 986 = .ok (.iload 14, 2) := by decide +kernel
theorem dL_law_988 : decode cL_law 988 = .ok (.ifCond .eq 30, 3) := by decide +kernel
theorem dL_law_991 : decode cL_law 991 = .ok (.aload_n 2, 1) := by decide +kernel
theorem dL_law_992 : decode cL_law 992 = .ok (.iload 16, 2) := by decide +kernel
theorem dL_law_994 : decode cL_law 994 = .ok (.dup2, 1) := by decide +kernel
theorem dL_law_995 : decode cL_law 995 = .ok (.iaload, 1) := by decide +kernel
theorem dL_law_996 : decode cL_law 996 = .ok (.iconst 1, 1) := by decide +kernel
theorem dL_law_997 : decode cL_law 997 = .ok (.isub, 1) := by decide +kernel
theorem dL_law_998 : decode cL_law 998 = .ok (.iastore, 1) := by decide +kernel
theorem dL_law_999 : decode cL_law 999 = .ok (.aload_n 2, 1) := by decide +kernel
theorem dL_law_1000 : decode cL_law 1000 = .ok (.iload 16, 2) := by decide +kernel
theorem dL_law_1002 : decode cL_law 1002 = .ok (.iconst 3, 1) := by decide +kernel
theorem dL_law_1003 : decode cL_law 1003 = .ok (.iadd, 1) := by decide +kernel
theorem dL_law_1004 : decode cL_law 1004 = .ok (.dup2, 1) := by decide +kernel
theorem dL_law_1005 : decode cL_law 1005 = .ok (.iaload, 1) := by decide +kernel
theorem dL_law_1006 : decode cL_law 1006 = .ok (.iconst 1, 1) := by decide +kernel
theorem dL_law_1007 : decode cL_law 1007 = .ok (.iadd, 1) := by decide +kernel
theorem dL_law_1008 : decode cL_law 1008 = .ok (.iastore, 1) := by decide +kernel
theorem dL_law_1009 : decode cL_law 1009 = .ok (.aload 5, 2) := by decide +kernel
theorem dL_law_1011 : decode cL_law 1011 = .ok (.bipush 10, 2) := by decide +kernel
theorem dL_law_1013 : decode cL_law 1013 = .ok (.dup2, 1) := by decide +kernel
theorem dL_law_1014 : decode cL_law 1014 = .ok (.iaload, 1) := by decide +kernel
theorem dL_law_1015 : decode cL_law 1015 = .ok (.iconst 1, 1) := by decide +kernel
theorem dL_law_1016 : decode cL_law 1016 = .ok (.iadd, 1) := by decide +kernel
theorem dL_law_1017 : decode cL_law 1017 = .ok (.iastore, 1) := by decide +kernel
theorem dL_law_1018 : decode cL_law 1018 = .ok (.aload_n 1, 1) := by decide +kernel
theorem dL_law_1019 : decode cL_law 1019 = .ok (.iload 10, 2) := by decide +kernel
theorem dL_law_1021 : decode cL_law 1021 = .ok (.iload 13, 2) := by decide +kernel
theorem dL_law_1023 : decode cL_law 1023 = .ok (.invokevirtual 102, 3) := by decide +kernel
theorem dL_law_1026 : decode cL_law 1026 = .ok (.iload 14, 2) := by decide +kernel
theorem dL_law_1028 : decode cL_law 1028 = .ok (.ifCond .ne 8, 3) := by decide +kernel
theorem dL_law_1031 : decode cL_law 1031 = .ok (.iload 11, 2) := by decide +kernel
theorem dL_law_1033 : decode cL_law 1033 = .ok (.goto 13, 3) := by decide +kernel
theorem dL_law_1036 : decode cL_law 1036 = .ok (.iload 15, 2) := by decide +kernel
theorem dL_law_1038 : decode cL_law 1038 = .ok (.ifCond .eq 7, 3) := by decide +kernel
theorem dL_law_1041 : decode cL_law 1041 = .ok (.iconst 1, 1) := by decide +kernel
theorem dL_law_1042 : decode cL_law 1042 = .ok (.goto 4, 3) := by decide +kernel
theorem dL_law_1045 : decode cL_law 1045 = .ok (.iconst 0, 1) := by decide +kernel
theorem dL_law_1046 : decode cL_law 1046 = .ok (.if_icmp .ne 7, 3) := by decide +kernel
theorem dL_law_1049 : decode cL_law 1049 = .ok (.iconst 1, 1) := by decide +kernel
theorem dL_law_1050 : decode cL_law 1050 = .ok (.goto 4, 3) := by decide +kernel
theorem dL_law_1053 : decode cL_law 1053 = .ok (.iconst 0, 1) := by decide +kernel
theorem dL_law_1054 : decode cL_law 1054 = .ok (.istore 12, 2) := by decide +kernel
theorem dL_law_1056 : decode cL_law 1056 = .ok (.iload 14, 2) := by decide +kernel
theorem dL_law_1058 : decode cL_law 1058 = .ok (.ifCond .eq 104, 3) := by decide +kernel
theorem dL_law_1061 : decode cL_law 1061 = .ok (.iload 15, 2) := by decide +kernel
theorem dL_law_1063 : decode cL_law 1063 = .ok (.ifCond .ne 99, 3) := by decide +kernel
theorem dL_law_1066 : decode cL_law 1066 = .ok (.aload 5, 2) := by decide +kernel
theorem dL_law_1068 : decode cL_law 1068 = .ok (.bipush 10, 2) := by decide +kernel
theorem dL_law_1070 : decode cL_law 1070 = .ok (.iaload, 1) := by decide +kernel
theorem dL_law_1071 : decode cL_law 1071 = .ok (.aload 5, 2) := by decide +kernel
theorem dL_law_1073 : decode cL_law 1073 = .ok (.iconst 3, 1) := by decide +kernel
theorem dL_law_1074 : decode cL_law 1074 = .ok (.iaload, 1) := by decide +kernel
theorem dL_law_1075 : decode cL_law 1075 = .ok (.if_icmp .lt 87, 3) := by decide +kernel
theorem dL_law_1078 : decode cL_law 1078 = .ok (.iconst 0, 1) := by decide +kernel
theorem dL_law_1079 : decode cL_law 1079 = .ok (.istore 17, 2) := by decide +kernel
theorem dL_law_1081 : decode cL_law 1081 = .ok (.iload 17, 2) := by decide +kernel
theorem dL_law_1083 : decode cL_law 1083 = .ok (.bipush 8, 2) := by decide +kernel
theorem dL_law_1085 : decode cL_law 1085 = .ok (.if_icmp .ge 65, 3) := by decide +kernel
theorem dL_law_1088 : decode cL_law 1088 = .ok (.aload_n 2, 1) := by decide +kernel
theorem dL_law_1089 : decode cL_law 1089 = .ok (.bipush 6, 2) := by decide +kernel
theorem dL_law_1091 : decode cL_law 1091 = .ok (.iload 17, 2) := by decide +kernel
theorem dL_law_1093 : decode cL_law 1093 = .ok (.imul, 1) := by decide +kernel
theorem dL_law_1094 : decode cL_law 1094 = .ok (.dup2, 1) := by decide +kernel
theorem dL_law_1095 : decode cL_law 1095 = .ok (.iaload, 1) := by decide +kernel
theorem dL_law_1096 : decode cL_law 1096 = .ok (.aload_n 2, 1) := by decide +kernel
theorem dL_law_1097 : decode cL_law 1097 = .ok (.bipush 6, 2) := by decide +kernel
theorem dL_law_1099 : decode cL_law 1099 = .ok (.iload 17, 2) := by decide +kernel
theorem dL_law_1101 : decode cL_law 1101 = .ok (.imul, 1) := by decide +kernel
theorem dL_law_1102 : decode cL_law 1102 = .ok (.iconst 5, 1) := by decide +kernel
theorem dL_law_1103 : decode cL_law 1103 = .ok (.iadd, 1) := by decide +kernel
theorem dL_law_1104 : decode cL_law 1104 = .ok (.iaload, 1) := by decide +kernel
theorem dL_law_1105 : decode cL_law 1105 = .ok (.ifCond .le 7, 3) := by decide +kernel
theorem dL_law_1108 : decode cL_law 1108 = .ok (.iconst 1, 1) := by decide +kernel
theorem dL_law_1109 : decode cL_law 1109 = .ok (.goto 4, 3) := by decide +kernel
theorem dL_law_1112 : decode cL_law 1112 = .ok (.iconst 0, 1) := by decide +kernel
theorem dL_law_1113 : decode cL_law 1113 = .ok (.iadd, 1) := by decide +kernel
theorem dL_law_1114 : decode cL_law 1114 = .ok (.iastore, 1) := by decide +kernel
theorem dL_law_1115 : decode cL_law 1115 = .ok (.aload_n 2, 1) := by decide +kernel
theorem dL_law_1116 : decode cL_law 1116 = .ok (.bipush 6, 2) := by decide +kernel
theorem dL_law_1118 : decode cL_law 1118 = .ok (.iload 17, 2) := by decide +kernel
theorem dL_law_1120 : decode cL_law 1120 = .ok (.imul, 1) := by decide +kernel
theorem dL_law_1121 : decode cL_law 1121 = .ok (.iconst 4, 1) := by decide +kernel
theorem dL_law_1122 : decode cL_law 1122 = .ok (.iadd, 1) := by decide +kernel
theorem dL_law_1123 : decode cL_law 1123 = .ok (.dup2, 1) := by decide +kernel
theorem dL_law_1124 : decode cL_law 1124 = .ok (.iaload, 1) := by decide +kernel
theorem dL_law_1125 : decode cL_law 1125 = .ok (.aload_n 2, 1) := by decide +kernel
theorem dL_law_1126 : decode cL_law 1126 = .ok (.bipush 6, 2) := by decide +kernel
theorem dL_law_1128 : decode cL_law 1128 = .ok (.iload 17, 2) := by decide +kernel
theorem dL_law_1130 : decode cL_law 1130 = .ok (.imul, 1) := by decide +kernel
theorem dL_law_1131 : decode cL_law 1131 = .ok (.iconst 5, 1) := by decide +kernel
theorem dL_law_1132 : decode cL_law 1132 = .ok (.iadd, 1) := by decide +kernel
theorem dL_law_1133 : decode cL_law 1133 = .ok (.iaload, 1) := by decide +kernel
theorem dL_law_1134 : decode cL_law 1134 = .ok (.ifCond .le 7, 3) := by decide +kernel
theorem dL_law_1137 : decode cL_law 1137 = .ok (.iconst 1, 1) := by decide +kernel
theorem dL_law_1138 : decode cL_law 1138 = .ok (.goto 4, 3) := by decide +kernel
theorem dL_law_1141 : decode cL_law 1141 = .ok (.iconst 0, 1) := by decide +kernel
theorem dL_law_1142 : decode cL_law 1142 = .ok (.iadd, 1) := by decide +kernel
theorem dL_law_1143 : decode cL_law 1143 = .ok (.iastore, 1) := by decide +kernel
theorem dL_law_1144 : decode cL_law 1144 = .ok (.iinc 17 1, 3) := by decide +kernel
theorem dL_law_1147 : decode cL_law 1147 = .ok (.goto (-66), 3) := by decide +kernel
theorem dL_law_1150 : decode cL_law 1150 = .ok (.aload_n 2, 1) := by decide +kernel
theorem dL_law_1151 : decode cL_law 1151 = .ok (.aload_n 3, 1) := by decide +kernel
theorem dL_law_1152 : decode cL_law 1152 = .ok (.aload 4, 2) := by decide +kernel
theorem dL_law_1154 : decode cL_law 1154 = .ok (.aload 5, 2) := by decide +kernel
theorem dL_law_1156 : decode cL_law 1156 = .ok (.invokestatic 98, 3) := by decide +kernel
theorem dL_law_1159 : decode cL_law 1159 = .ok (.goto 24, 3) := by decide +kernel
theorem dL_law_1162 : decode cL_law 1162 = .ok (.iload 15, 2) := by decide +kernel
theorem dL_law_1164 : decode cL_law 1164 = .ok (.ifCond .eq 19, 3) := by decide +kernel
theorem dL_law_1167 : decode cL_law 1167 = .ok (.aload_n 2, 1) := by decide +kernel
theorem dL_law_1168 : decode cL_law 1168 = .ok (.invokestatic 66, 3) := by decide +kernel
theorem dL_law_1171 : decode cL_law 1171 = .ok (.ifCond .ne 12, 3) := by decide +kernel
theorem dL_law_1174 : decode cL_law 1174 = .ok (.aload_n 2, 1) := by decide +kernel
theorem dL_law_1175 : decode cL_law 1175 = .ok (.aload_n 3, 1) := by decide +kernel
theorem dL_law_1176 : decode cL_law 1176 = .ok (.aload 4, 2) := by decide +kernel
theorem dL_law_1178 : decode cL_law 1178 = .ok (.aload 5, 2) := by decide +kernel
theorem dL_law_1180 : decode cL_law 1180 = .ok (.invokestatic 98, 3) := by decide +kernel
theorem dL_law_1183 : decode cL_law 1183 = .ok (.goto 190, 3) := by decide +kernel
theorem dL_law_1186 : decode cL_law 1186 = .ok (.aload_n 2, 1) := by decide +kernel
theorem dL_law_1187 : decode cL_law 1187 = .ok (.bipush 6, 2) := by decide +kernel
theorem dL_law_1189 : decode cL_law 1189 = .ok (.iload 10, 2) := by decide +kernel
theorem dL_law_1191 : decode cL_law 1191 = .ok (.imul, 1) := by decide +kernel
theorem dL_law_1192 : decode cL_law 1192 = .ok (.iconst 5, 1) := by decide +kernel
theorem dL_law_1193 : decode cL_law 1193 = .ok (.iadd, 1) := by decide +kernel
theorem dL_law_1194 : decode cL_law 1194 = .ok (.iaload, 1) := by decide +kernel
theorem dL_law_1195 : decode cL_law 1195 = .ok (.ifCond .le 7, 3) := by decide +kernel
theorem dL_law_1198 : decode cL_law 1198 = .ok (.iconst 1, 1) := by decide +kernel
theorem dL_law_1199 : decode cL_law 1199 = .ok (.goto 4, 3) := by decide +kernel
theorem dL_law_1202 : decode cL_law 1202 = .ok (.iconst 0, 1) := by decide +kernel
theorem dL_law_1203 : decode cL_law 1203 = .ok (.istore 13, 2) := by decide +kernel
theorem dL_law_1205 : decode cL_law 1205 = .ok (.iload 13, 2) := by decide +kernel
theorem dL_law_1207 : decode cL_law 1207 = .ok (.ifCond .eq 32, 3) := by decide +kernel
theorem dL_law_1210 : decode cL_law 1210 = .ok (.iconst 0, 1) := by decide +kernel
theorem dL_law_1211 : decode cL_law 1211 = .ok (.aload_n 2, 1) := by decide +kernel
theorem dL_law_1212 : decode cL_law 1212 = .ok (.bipush 6, 2) := by decide +kernel
theorem dL_law_1214 : decode cL_law 1214 = .ok (.iload 10, 2) := by decide +kernel
theorem dL_law_1216 : decode cL_law 1216 = .ok (.imul, 1) := by decide +kernel
theorem dL_law_1217 : decode cL_law 1217 = .ok (.iconst 5, 1) := by decide +kernel
theorem dL_law_1218 : decode cL_law 1218 = .ok (.iadd, 1) := by decide +kernel
theorem dL_law_1219 : decode cL_law 1219 = .ok (.iaload, 1) := by decide +kernel
theorem dL_law_1220 : decode cL_law 1220 = .ok (.invokestatic 10, 3) := by decide +kernel
theorem dL_law_1223 : decode cL_law 1223 = .ok (.iconst 0, 1) := by decide +kernel
theorem dL_law_1224 : decode cL_law 1224 = .ok (.aload 5, 2) := by decide +kernel
theorem dL_law_1226 : decode cL_law 1226 = .ok (.bipush 9, 2) := by decide +kernel
theorem dL_law_1228 : decode cL_law 1228 = .ok (.iaload, 1) := by decide +kernel
theorem dL_law_1229 : decode cL_law 1229 = .ok (.invokestatic 10, 3) := by decide +kernel
theorem dL_law_1232 : decode cL_law 1232 = .ok (.if_icmp .ge 7, 3) := by decide +kernel
theorem dL_law_1235 : decode cL_law 1235 = .ok (.iconst 1, 1) := by decide +kernel
theorem dL_law_1236 : decode cL_law 1236 = .ok (.goto 4, 3) := by decide +kernel
theorem dL_law_1239 : decode cL_law 1239 = .ok (.iconst 0, 1) := by decide +kernel
theorem dL_law_1240 : decode cL_law 1240 = .ok (.istore 14, 2) := by decide +kernel
theorem dL_law_1242 : decode cL_law 1242 = .ok (.iload 14, 2) := by decide +kernel
theorem dL_law_1244 : decode cL_law 1244 = .ok (.ifCond .eq 11, 3) := by decide +kernel
theorem dL_law_1247 : decode cL_law 1247 = .ok (.bipush 6, 2) := by decide +kernel
theorem dL_law_1249 : decode cL_law 1249 = .ok (.iload 10, 2) := by decide +kernel
theorem dL_law_1251 : decode cL_law 1251 = .ok (.imul, 1) := by decide +kernel
theorem dL_law_1252 : decode cL_law 1252 = .ok (.goto 11, 3) := by decide +kernel
theorem dL_law_1255 : decode cL_law 1255 = .ok (.bipush 6, 2) := by decide +kernel
theorem dL_law_1257 : decode cL_law 1257 = .ok (.aload 5, 2) := by decide +kernel
theorem dL_law_1259 : decode cL_law 1259 = .ok (.bipush 7, 2) := by decide +kernel
theorem dL_law_1261 : decode cL_law 1261 = .ok (.iaload, 1) := by decide +kernel
theorem dL_law_1262 : decode cL_law 1262 = .ok (.imul, 1) := by decide +kernel
theorem dL_law_1263 : decode cL_law 1263 = .ok (.istore 15, 2) := by decide +kernel
theorem dL_law_1265 : decode cL_law 1265 = .ok (.iload 13, 2) := by decide +kernel
theorem dL_law_1267 : decode cL_law 1267 = .ok (.ifCond .eq 49, 3) := by decide +kernel
theorem dL_law_1270 : decode cL_law 1270 = .ok (.aload_n 2, 1) := by decide +kernel
theorem dL_law_1271 : decode cL_law 1271 = .ok (.bipush 6, 2) := by decide +kernel
theorem dL_law_1273 : decode cL_law 1273 = .ok (.iload 10, 2) := by decide +kernel
theorem dL_law_1275 : decode cL_law 1275 = .ok (.imul, 1) := by decide +kernel
theorem dL_law_1276 : decode cL_law 1276 = .ok (.iconst 5, 1) := by decide +kernel
theorem dL_law_1277 : decode cL_law 1277 = .ok (.iadd, 1) := by decide +kernel
theorem dL_law_1278 : decode cL_law 1278 = .ok (.iconst (-1), 1) := by decide +kernel
theorem dL_law_1279 : decode cL_law 1279 = .ok (.iastore, 1) := by decide +kernel
theorem dL_law_1280 : decode cL_law 1280 = .ok (.aload_n 2, 1) := by decide +kernel
theorem dL_law_1281 : decode cL_law 1281 = .ok (.iload 15, 2) := by decide +kernel
theorem dL_law_1283 : decode cL_law 1283 = .ok (.dup2, 1) := by decide +kernel
theorem dL_law_1284 : decode cL_law 1284 = .ok (.iaload, 1) := by decide +kernel
theorem dL_law_1285 : decode cL_law 1285 = .ok (.iload 14, 2) := by decide +kernel
theorem dL_law_1287 : decode cL_law 1287 = .ok (.ifCond .eq 7, 3) := by decide +kernel
theorem dL_law_1290 : decode cL_law 1290 = .ok (.iconst 3, 1) := by decide +kernel
theorem dL_law_1291 : decode cL_law 1291 = .ok (.goto 4, 3) := by decide +kernel
theorem dL_law_1294 : decode cL_law 1294 = .ok (.iconst 1, 1) := by decide +kernel
theorem dL_law_1295 : decode cL_law 1295 = .ok (.iadd, 1) := by decide +kernel
theorem dL_law_1296 : decode cL_law 1296 = .ok (.iastore, 1) := by decide +kernel
theorem dL_law_1297 : decode cL_law 1297 = .ok (.aload_n 2, 1) := by decide +kernel
theorem dL_law_1298 : decode cL_law 1298 = .ok (.iload 15, 2) := by decide +kernel
theorem dL_law_1300 : decode cL_law 1300 = .ok (.iload 14, 2) := by decide +kernel
theorem dL_law_1302 : decode cL_law 1302 = .ok (.ifCond .eq 7, 3) := by decide +kernel
theorem dL_law_1305 : decode cL_law 1305 = .ok (.iconst 4, 1) := by decide +kernel
theorem dL_law_1306 : decode cL_law 1306 = .ok (.goto 4, 3) := by decide +kernel
theorem dL_law_1309 : decode cL_law 1309 = .ok (.iconst 2, 1) := by decide +kernel
theorem dL_law_1310 : decode cL_law 1310 = .ok (.iadd, 1) := by decide +kernel
theorem dL_law_1311 : decode cL_law 1311 = .ok (.dup2, 1) := by decide +kernel
theorem dL_law_1312 : decode cL_law 1312 = .ok (.iaload, 1) := by decide +kernel
theorem dL_law_1313 : decode cL_law 1313 = .ok (.iconst 1, 1) := by decide +kernel
theorem dL_law_1314 : decode cL_law 1314 = .ok (.iadd, 1) := by decide +kernel
theorem dL_law_1315 : decode cL_law 1315 = .ok (.iastore, 1) := by decide +kernel
theorem dL_law_1316 : decode cL_law 1316 = .ok (.aload_n 1, 1) := by decide +kernel
theorem dL_law_1317 : decode cL_law 1317 = .ok (.iload 10, 2) := by decide +kernel
theorem dL_law_1319 : decode cL_law 1319 = .ok (.invokevirtual 105, 3) := by decide +kernel
theorem dL_law_1322 : decode cL_law 1322 = .ok (.iload 13, 2) := by decide +kernel
theorem dL_law_1324 : decode cL_law 1324 = .ok (.ifCond .ne 8, 3) := by decide +kernel
theorem dL_law_1327 : decode cL_law 1327 = .ok (.iload 11, 2) := by decide +kernel
theorem dL_law_1329 : decode cL_law 1329 = .ok (.goto 13, 3) := by decide +kernel
theorem dL_law_1332 : decode cL_law 1332 = .ok (.iload 14, 2) := by decide +kernel
theorem dL_law_1334 : decode cL_law 1334 = .ok (.ifCond .eq 7, 3) := by decide +kernel
theorem dL_law_1337 : decode cL_law 1337 = .ok (.iconst 1, 1) := by decide +kernel
theorem dL_law_1338 : decode cL_law 1338 = .ok (.goto 4, 3) := by decide +kernel
theorem dL_law_1341 : decode cL_law 1341 = .ok (.iconst 0, 1) := by decide +kernel
theorem dL_law_1342 : decode cL_law 1342 = .ok (.if_icmp .ne 7, 3) := by decide +kernel
theorem dL_law_1345 : decode cL_law 1345 = .ok (.iconst 1, 1) := by decide +kernel
theorem dL_law_1346 : decode cL_law 1346 = .ok (.goto 4, 3) := by decide +kernel
theorem dL_law_1349 : decode cL_law 1349 = .ok (.iconst 0, 1) := by decide +kernel
theorem dL_law_1350 : decode cL_law 1350 = .ok (.istore 12, 2) := by decide +kernel
theorem dL_law_1352 : decode cL_law 1352 = .ok (.iload 13, 2) := by decide +kernel
theorem dL_law_1354 : decode cL_law 1354 = .ok (.ifCond .eq 19, 3) := by decide +kernel
theorem dL_law_1357 : decode cL_law 1357 = .ok (.aload_n 2, 1) := by decide +kernel
theorem dL_law_1358 : decode cL_law 1358 = .ok (.invokestatic 66, 3) := by decide +kernel
theorem dL_law_1361 : decode cL_law 1361 = .ok (.ifCond .ne 12, 3) := by decide +kernel
theorem dL_law_1364 : decode cL_law 1364 = .ok (.aload_n 2, 1) := by decide +kernel
theorem dL_law_1365 : decode cL_law 1365 = .ok (.aload_n 3, 1) := by decide +kernel
theorem dL_law_1366 : decode cL_law 1366 = .ok (.aload 4, 2) := by decide +kernel
theorem dL_law_1368 : decode cL_law 1368 = .ok (.aload 5, 2) := by decide +kernel
theorem dL_law_1370 : decode cL_law 1370 = .ok (.invokestatic 98, 3) := by decide +kernel
theorem dL_law_1373 : decode cL_law 1373 = .ok (.iload 12, 2) := by decide +kernel
theorem dL_law_1375 : decode cL_law 1375 = .ok (.ifCond .eq 16, 3) := by decide +kernel
theorem dL_law_1378 : decode cL_law 1378 = .ok (.aload_n 1, 1) := by decide +kernel
theorem dL_law_1379 : decode cL_law 1379 = .ok (.aload_n 2, 1) := by decide +kernel
theorem dL_law_1380 : decode cL_law 1380 = .ok (.aload_n 3, 1) := by decide +kernel
theorem dL_law_1381 : decode cL_law 1381 = .ok (.aload 4, 2) := by decide +kernel
theorem dL_law_1383 : decode cL_law 1383 = .ok (.aload 5, 2) := by decide +kernel
theorem dL_law_1385 : decode cL_law 1385 = .ok (.invokestatic 108, 3) := by decide +kernel
theorem dL_law_1388 : decode cL_law 1388 = .ok (.ifCond .ne 5, 3) := by decide +kernel
theorem dL_law_1391 : decode cL_law 1391 = .ok (.iconst 0, 1) := by decide +kernel
theorem dL_law_1392 : decode cL_law 1392 = .ok (.ireturn, 1) := by decide +kernel
theorem dL_law_1393 : decode cL_law 1393 = .ok (.iinc 6 1, 3) := by decide +kernel
theorem dL_law_1396 : decode cL_law 1396 = .ok (.goto (-1317), 3) := by decide +kernel
theorem dL_law_1399 : decode cL_law 1399 = .ok (.iconst 1, 1) := by decide +kernel
theorem dL_law_1400 : decode cL_law 1400 = .ok (.ireturn, 1) := by decide +kernel
end
section
/-! the words: one list for all methods -/
def uw_ : List Cond := lw_tbl.filter goodWord
theorem uw_in {w : Cond} (i : Nat) (h : lw_tbl[i]? = some w) (hg : goodWord w = true) : w ∈ uw_ := List.mem_filter.mpr ⟨List.mem_of_getElem? h, hg⟩
theorem uw_good {w : Cond} (h : w ∈ uw_) : (w.onTables && w.keeps) = true ∨ ∃ ty, w = .arrayClass ty := good_of_word (List.mem_filter.mp h).2
theorem uw_gi {c0 c1 : Cond} (h : c1 ∈ uw_) : GoodIn (c0 :: uw_) (c1 :: uw_) := fun w hw => by
  rcases List.mem_cons.mp hw with rfl | hw
  · exact ⟨List.mem_cons_of_mem _ h, uw_good h⟩
  · exact ⟨List.mem_cons_of_mem _ hw, uw_good hw⟩
/-! the world's state as a function, and its changes -/
abbrev sg_T : Type := Nat → Nat → Int32
def sg_a (σ : sg_T) (j : Nat) (f : Nat → Int32) : sg_T := fun j' => cond (Nat.beq j' j) f (σ j')
def sg_u (f : Nat → Int32) (k : Nat) (v : Int32) : Nat → Int32 := fun k' => cond (Nat.beq k' k) v (f k')
/-! answers that may be wanting -/
def o_k {α : Type} (P : Prop) [Decidable P] (x : Option α) : Option α := if P then x else none
/-! facts of a field link, of a call -/
def fl_ (own : String) (idx : Nat) (C : String) (T : u_T) (N ci k : Nat) : Prop := (∀ w ∈ u_ws C T N, w ∈ uw_) ∧ vwCl[ci]? = some (C, T, N) ∧ k < N ∧ Cond.fieldLink own idx C (T k).2.1 (T k).2.2.1 ∈ uw_ ∧ (T k).1 = C
def fp_ (T : u_T) (N : Nat) (ty0 : Nat → FieldType) : Prop := (∀ k, k < N → parseFieldDescriptor (T k).2.2.1 = some (ty0 k)) ∧ (∀ a, a < N → ∀ b, b < N → a ≠ b → (T a).2.1 ≠ (T b).2.1)
def yd_ (y : MethodName) (k : Nat) : Prop := y.cls ≠ "java/lang/invoke/MethodHandle" ∧ y.cls ≠ "java/lang/invoke/VarHandle" ∧ (parseMethodDescriptor y.desc).map (fun d => d.parameters.length) = some k
def cs_ (own : String) (idx : Nat) (y : MethodName) (b : ByteArray) (n : Nat) (rt : Option FieldType) (k : Nat) : Prop := Cond.methodLink own idx y ∈ uw_ ∧ Cond.static y ∈ uw_ ∧ Cond.initialized y.cls ∈ uw_ ∧ Cond.code y b n rt ∈ uw_ ∧ yd_ y k
def cv_ (own : String) (idx : Nat) (y : MethodName) (b : ByteArray) (n : Nat) (rt : Option FieldType) (k : Nat) : Prop := Cond.methodLink own idx y ∈ uw_ ∧ Cond.instanceMethod y ∈ uw_ ∧ Cond.selects y.cls y y ∈ uw_ ∧ Cond.initialized y.cls ∈ uw_ ∧ Cond.code y b n rt ∈ uw_ ∧ yd_ y k
/-! the world in a walk -/
def dy_ (D : va_G) (A : Nat → Prop) (s : State) (ws : va_W) (H : Heap) (locs : List Loc) : Prop := va_P D vwCl ws H ∧ va_D A ws ∧ va_S A s.heap H locs
/-! the statics that nobody writes -/
def zs_f (b : Nat) : Nat → Int32 := fun j => if b = 0 then (match j with | 0 => 0 | 1 => 1 | 2 => 0 | _ => 1) else (match j with | 0 => 3 | _ => 9)
def zs_ (A : Nat → Prop) (U : State) : Prop := va_AO RX5 U ∧ va_Nw (.fieldLinkNest RX2 15 "SeekLeague" "LOWEST_SETTING" "[I" "SeekLeague") U ∧ va_Nw (.fieldLinkNest RX2 19 "SeekLeague" "HIGHEST_SETTING" "[I" "SeekLeague") U ∧ ∃ t0 t1 : Nat, va_Z "SeekLeague" "LOWEST_SETTING" "[I" (.ref t0) A U U.heap ∧ va_T .int t0 4 (fun j => .int (zs_f 0 j)) A U U.heap ∧ va_Z "SeekLeague" "HIGHEST_SETTING" "[I" (.ref t1) A U U.heap ∧ va_T .int t1 4 (fun j => .int (zs_f 1 j)) A U U.heap
theorem zs_mv {A B : Nat → Prop} {s U : State} {H : Heap} {locs : List Loc} (h : zs_ A s) (hW : s.WarmedH U.vm) (hU : U.heap = H) (hS : va_S A s.heap H locs) (hB : ∀ q, B q → A q) : zs_ B U := by
  obtain ⟨h0, h1, h2, t0, t1, h3, h4, h5, h6⟩ := h
  have hq : ∀ a : Nat, a < s.heap.size → ¬ A a → U.heap[a]? = s.heap[a]? := fun a h1 h2 => by rw [hU]; exact hS.2.1 a h1 h2
  exact ⟨h0.moved hW.alike, va_Nw.warmF hW h1, va_Nw.warmF hW h2, t0, t1, ((h3.kept hq).narrow hB).moved hW.alike, ((h4.kept hq).narrow hB).moved hW.alike, ((h5.kept hq).narrow hB).moved hW.alike, ((h6.kept hq).narrow hB).moved hW.alike⟩
theorem zs_bl {A : Nat → Prop} {U : State} {g : JFrame} {mk : MethodId} {a : Array Value} (h : zs_ A U) : zs_ A (U.calling g mk a) := by
  obtain ⟨h0, h1, h2, t0, t1, h3, h4, h5, h6⟩ := h
  exact ⟨va_AO.moved (u := U) (U := U.calling g mk a) (Vm.Alike.refl U.vm) h0, va_Nw.same (u := U) rfl rfl h1, va_Nw.same (u := U) rfl rfl h2, t0, t1, va_Z.moved (u := U) (U := U.calling g mk a) (Vm.Alike.refl U.vm) h3, va_T.moved (u := U) (U := U.calling g mk a) (Vm.Alike.refl U.vm) h4, va_Z.moved (u := U) (U := U.calling g mk a) (Vm.Alike.refl U.vm) h5, va_T.moved (u := U) (U := U.calling g mk a) (Vm.Alike.refl U.vm) h6⟩
/-! contracts -/
def me_P (D : va_G) (tys : List (ClassId × FieldType)) (w : va_W) (sz : Nat) (av : List Value) : Array Value → State → Prop := va_Pc av (fun U => U.heap.size = sz ∧ va_P D vwCl w U.heap ∧ va_K D vwCl tys U ∧ va_D (fun _ => True) w ∧ zs_ (va_A w sz) U)
def me_Qi (D : va_G) (tys : List (ClassId × FieldType)) (A : Nat → Prop) (r : Int32) (w' : va_W) : Array Value → State → Outcome → State → Prop := va_Qi (fun r' (_ : Unit) => r' = r) (fun _ t => va_P D vwCl w' t.heap ∧ va_K D vwCl tys t ∧ va_D A w') A
def me_Qv (D : va_G) (tys : List (ClassId × FieldType)) (A : Nat → Prop) (w' : va_W) : Array Value → State → Outcome → State → Prop := va_Qv (fun (_ : Unit) => True) (fun _ t => va_P D vwCl w' t.heap ∧ va_K D vwCl tys t ∧ va_D A w') A
def rm_ (f lo : Nat) : Room := { frames := f, cells := 0, slots := 0, locals := lo }
abbrev wu_ (y : MethodName) (b : ByteArray) (n : Nat) (rt : Option FieldType) : List Cond := .code y b n rt :: uw_
def me_I (l : Launch) (D : va_G) (tys : List (ClassId × FieldType)) (y : MethodName) (b : ByteArray) (n : Nat) (rt : FieldType) (f lo : Nat) (w : va_W) (av : List Value) (r : Int32) (w' : va_W) : Prop :=
  ∀ sz, Met l y (wu_ y b n (some rt)) (rm_ f lo) (me_P D tys w sz av) (me_Qi D tys (va_A w sz) r w') 0 0 (va_A w sz)
def me_V (l : Launch) (D : va_G) (tys : List (ClassId × FieldType)) (y : MethodName) (b : ByteArray) (n : Nat) (f lo : Nat) (w : va_W) (av : List Value) (w' : va_W) : Prop :=
  ∀ sz, Met l y (wu_ y b n none) (rm_ f lo) (me_P D tys w sz av) (me_Qv D tys (va_A w sz) w') 0 0 (va_A w sz)
theorem me_bl (D : va_G) (tys : List (ClassId × FieldType)) (w : va_W) (sz : Nat) (av : List Value) : FrameBlind (me_P D tys w sz av) := fun a U g mk q => by
  obtain ⟨q0, q1, qP, qK, qD, qZ⟩ := q
  exact ⟨q0, q1, qP, va_K.moved (u := U) (U := U.calling g mk a) (Vm.Alike.refl U.vm) qK, qD, zs_bl qZ⟩
theorem met_F {l : Launch} {y : MethodName} {ws ws' : List Cond} {rm : Room} {Pc : Array Value → State → Prop} {Qc : Array Value → State → Outcome → State → Prop} {mc ms : Nat} {free : Addr → Prop} {cc : ByteArray} {maxL : Nat} {ret : Option FieldType}
    (hy : plainFor y = true) (hw : ws = Cond.code y cc maxL ret :: ws')
    (body : ∀ p e s m args below meth c s₁, BodyLoose p l y (headSpec ws rm) cc maxL ret e s m args below meth c s₁ → c.maxLocals = maxL → Pc args s →
      W p l e (headSpec ws rm).room s m args below meth c s.heap [] 0 0 (MQ below Qc args s mc ms free) (entryFrame m args maxL)) : Met l y ws rm Pc Qc mc ms free := by
  refine MetFree.of_bodySF (code := cc) (maxLocals := maxL) (ret := ret) hy ?_ ?_
  · intro args s m h hn
    obtain ⟨meth, c, h1, h2, h3, h4, h5, h6, -, -⟩ := Cond.code_spec hn (atoms_spec (ws := ws) h _ (by rw [hw]; exact List.mem_cons_self))
    exact ⟨meth, c, h1, h2, h3, h4, h5, h6⟩
  · intro p e s m args below meth c s₁ B hml hP _
    have hh0 : s₁.heap = s.heap := by rw [B.state]; rfl
    obtain ⟨t, a1, o, b1, b2, b3⟩ := body p e s m args below meth c s₁ B hml hP s₁ hh0 (Stand.of_body B)
    exact ⟨t, o, a1, b1, b2, ⟨b3.1, b3.2⟩⟩
theorem me_of {l : Launch} {D : va_G} {tys : List (ClassId × FieldType)} {y : MethodName} {b : ByteArray} {n : Nat} {rt : Option FieldType} {f lo : Nat} {w : va_W} {av : List Value} {Qc : (Nat → Prop) → Array Value → State → Outcome → State → Prop} (hpl : plainFor y = true) (hfit : (lg_sl av).length ≤ n)
    (body : ∀ (p : Program) (e : Env) (s : State) (m : MethodId) (args : Array Value) (below : List Frame) (meth : Method) (c : Code) (A : Nat → Prop) (ls : Array Slot), CallFix p m c b n s args (wu_ y b n rt) y.cls → va_K D vwCl tys s → dy_ D A s w s.heap [] → (∀ q, s.heap.size ≤ q → A q) → lv_has ls n (lv_args 0 av) → meth.sig.returnType = rt → meth.locks = false → zs_ A s →
      W p l e (rm_ f lo) s m args below meth c s.heap [] 0 0 (MQ below (Qc A) args s 0 0 A) (F0 m 0 ls [])) : ∀ sz, Met l y (wu_ y b n rt) (rm_ f lo) (me_P D tys w sz av) (Qc (va_A w sz)) 0 0 (va_A w sz) := by
  intro sz
  refine met_F (cc := b) (maxL := n) (ret := rt) hpl rfl ?_
  intro p e s m args below meth c s₁ B hml hv
  obtain ⟨rfl, hsz, hP, hK, hD0, hZ⟩ := hv
  subst hsz
  have hD := hD0.self (sz := s.heap.size)
  rw [lg_entry_eq]
  exact body p e s m _ below meth c _ _ ⟨B.exec, B.bytes, hml, findClass_of_methodNamed B.named, atoms_spec (ws := wu_ y b n rt) B.pre⟩ hK ⟨hP, hD, va_S.rf⟩ (fun q h => Or.inr h) (lv_entry av hfit) B.returns B.notSynchronized hZ
section BASE
variable {p : Program} {l : Launch} {e : Env} {R : Room} {s : State} {m : MethodId} {args : Array Value} {below : List Frame} {meth : Method} {c : Code} {H : Heap} {locs : List Loc} {cells slots : Nat} {Q : State → Prop}
variable {cc : ByteArray} {nL pc : Nat} {ls : Array Slot} {rest : List Value} {D : va_G} {A : Nat → Prop} {tys : List (ClassId × FieldType)} {ws : va_W} {own : String} {c0 : Cond}
theorem ig (S : CallFix p m c cc nL s args (c0 :: uw_) own) (hK : va_K D vwCl tys s) (Y : dy_ D A s ws H locs) {idx : Nat} {C : String} {T : u_T} {N ci k : Nat} (F : fl_ own idx C T N ci k) (q0 : Nat) {a : Nat} {fs : List Value} (he : ws[q0]? = some (a, .inr (ci, fs))) {v : Value} (hv : fs[k]? = some v) (hdg : decode cc pc = .ok (.getfield idx, 3))
    (kk : W p l e R s m args below meth c H locs cells slots Q (F0 m (pc + 3) ls (v :: rest))) : W p l e R s m args below meth c H locs cells slots Q (F0 m pc ls (.ref a :: rest)) :=
  va_get (D := D) (T := T) (N := N) S.1 S.2.1 S.2.2.2.2 (fun w h => List.mem_cons_of_mem _ (F.1 w h)) S.2.2.2.1 hK Y.1 q0 he F.2.1 k F.2.2.1 (S.2.2.2.2 _ (List.mem_cons_of_mem _ F.2.2.2.1)) (fun x h => by rw [F.2.2.2.2] at h; exact h) hv hdg kk
theorem ip (S : CallFix p m c cc nL s args (c0 :: uw_) own) (hK : va_K D vwCl tys s) (Y : dy_ D A s ws H locs) {idx : Nat} {C : String} {T : u_T} {N ci k : Nat} (F : fl_ own idx C T N ci k) {ty0 : Nat → FieldType} (G : fp_ T N ty0) (hfin : (T k).2.2.2 = false) (q0 : Nat) {a : Nat} {fs : List Value} (he : ws[q0]? = some (a, .inr (ci, fs))) {v : Value} (hn : narrow (ty0 k) v = v) (hfit : fits (ty0 k) v = true) (hl : k < fs.length) {ws' : va_W} (hw : ws.set q0 (a, .inr (ci, fs.set k v)) = ws') (hdg : decode cc pc = .ok (.putfield idx, 3))
    (kk : ∀ (H1 : Heap) (locs1 : List Loc), dy_ D A s ws' H1 locs1 → W p l e R s m args below meth c H1 locs1 cells slots Q (F0 m (pc + 3) ls rest)) : W p l e R s m args below meth c H locs cells slots Q (F0 m pc ls (v :: .ref a :: rest)) := by
  subst hw
  exact va_put (D := D) (T := T) (N := N) S.1 S.2.1 S.2.2.2.2 (fun w h => List.mem_cons_of_mem _ (F.1 w h)) ty0 G.1 G.2 S.2.2.2.1 hK Y.1 Y.2.1 Y.2.2 q0 he F.2.1 k F.2.2.1 (S.2.2.2.2 _ (List.mem_cons_of_mem _ F.2.2.2.1)) (fun x h => by rw [F.2.2.2.2] at h; exact h) hfin (G.1 k F.2.2.1) hn hfit hl hdg (fun H1 l1 h1 h2 h3 => kk H1 l1 ⟨h1, h2, h3⟩)
theorem ia (S : CallFix p m c cc nL s args (c0 :: uw_) own) (hK : va_K D vwCl tys s) (Y : dy_ D A s ws H locs) (q0 t0 : Nat) {a : Nat} {cA : ClassId} {n : Nat} {f : Nat → Int32} (ha : ws[q0]? = some (a, .inl (cA, n, .inl f))) (ht : tys[t0]? = some (cA, .int)) {i : Int32} (hin : vp_in i n) (hdg : decode cc pc = .ok (.iaload, 1))
    (kk : W p l e R s m args below meth c H locs cells slots Q (F0 m (pc + 1) ls (.int (f i.toNatClampNeg) :: rest))) : W p l e R s m args below meth c H locs cells slots Q (F0 m pc ls (.int i :: .ref a :: rest)) :=
  va_iald S.1 S.2.1 hK Y.1 q0 t0 ha ht hin hdg kk
theorem ica (S : CallFix p m c cc nL s args (c0 :: uw_) own) (hK : va_K D vwCl tys s) (Y : dy_ D A s ws H locs) (q0 t0 : Nat) {a : Nat} {cA : ClassId} {n : Nat} {f : Nat → Int32} (ha : ws[q0]? = some (a, .inl (cA, n, .inl f))) (ht : tys[t0]? = some (cA, .char)) {i : Int32} (hin : vp_in i n) (hdg : decode cc pc = .ok (.caload, 1))
    (kk : W p l e R s m args below meth c H locs cells slots Q (F0 m (pc + 1) ls (.int (f i.toNatClampNeg) :: rest))) : W p l e R s m args below meth c H locs cells slots Q (F0 m pc ls (.int i :: .ref a :: rest)) :=
  va_cald S.1 S.2.1 hK Y.1 q0 t0 ha ht hin hdg kk
theorem iw (S : CallFix p m c cc nL s args (c0 :: uw_) own) (hK : va_K D vwCl tys s) (Y : dy_ D A s ws H locs) (q0 t0 : Nat) {a : Nat} {cA : ClassId} {n : Nat} {f : Nat → Int32} (ha : ws[q0]? = some (a, .inl (cA, n, .inl f))) (ht : tys[t0]? = some (cA, .int)) {i x : Int32} (hin : vp_in i n) {ws' : va_W} (hw : ws.set q0 (a, .inl (cA, n, .inl (upd f i.toNatClampNeg x))) = ws') (hdg : decode cc pc = .ok (.iastore, 1))
    (kk : ∀ (H1 : Heap) (locs1 : List Loc), dy_ D A s ws' H1 locs1 → W p l e R s m args below meth c H1 locs1 cells slots Q (F0 m (pc + 1) ls rest)) : W p l e R s m args below meth c H locs cells slots Q (F0 m pc ls (.int x :: .int i :: .ref a :: rest)) := by
  subst hw
  exact va_iast S.1 S.2.1 hK Y.1 Y.2.1 Y.2.2 q0 t0 ha ht hin hdg (fun H1 l1 h1 h2 h3 => kk H1 l1 ⟨h1, h2, h3⟩)
theorem icw (S : CallFix p m c cc nL s args (c0 :: uw_) own) (hK : va_K D vwCl tys s) (Y : dy_ D A s ws H locs) (q0 t0 : Nat) {a : Nat} {cA : ClassId} {n : Nat} {f : Nat → Int32} (ha : ws[q0]? = some (a, .inl (cA, n, .inl f))) (ht : tys[t0]? = some (cA, .char)) {i x : Int32} (hin : vp_in i n) {ws' : va_W} (hw : ws.set q0 (a, .inl (cA, n, .inl (upd f i.toNatClampNeg (vp_nar .char x)))) = ws') (hdg : decode cc pc = .ok (.castore, 1))
    (kk : ∀ (H1 : Heap) (locs1 : List Loc), dy_ D A s ws' H1 locs1 → W p l e R s m args below meth c H1 locs1 cells slots Q (F0 m (pc + 1) ls rest)) : W p l e R s m args below meth c H locs cells slots Q (F0 m pc ls (.int x :: .int i :: .ref a :: rest)) := by
  subst hw
  exact va_cast S.1 S.2.1 hK Y.1 Y.2.1 Y.2.2 q0 t0 ha ht hin hdg (fun H1 l1 h1 h2 h3 => kk H1 l1 ⟨h1, h2, h3⟩)
/-- the ends -/
theorem me_ri {b : ByteArray} {rt : FieldType} {v : Int32} (S : CallFix p m c b nL s args (c0 :: uw_) own) (hK : va_K D vwCl tys s) (Y : dy_ D A s ws H locs) (hr : meth.sig.returnType = some rt) (hlk : meth.locks = false) (hn : narrow rt (.int v) = .int v) (hdg : decode b pc = .ok (.ireturn, 1)) :
    W p l e R s m args below meth c H locs 0 0 (MQ below (me_Qi D tys A v ws) args s 0 0 A) (F0 m pc ls [.int v]) :=
  W.zret S.1 S.2.1 hr hn (fun t ht hW => ⟨⟨v, (), rfl, rfl, by rw [ht]; exact Y.1, va_K.moved hW.alike hK, Y.2.1⟩, Y.2.2.F ht⟩) Y.2.2.2.2 hdg hlk
theorem me_rv {b : ByteArray} (S : CallFix p m c b nL s args (c0 :: uw_) own) (hK : va_K D vwCl tys s) (Y : dy_ D A s ws H locs) (hr : meth.sig.returnType = none) (hlk : meth.locks = false) (hdg : decode b pc = .ok (.return_, 1)) :
    W p l e R s m args below meth c H locs 0 0 (MQ below (me_Qv D tys A ws) args s 0 0 A) (F0 m pc ls []) :=
  W.vret S.1 S.2.1 hr (fun t ht hW => ⟨⟨(), rfl, trivial, by rw [ht]; exact Y.1, va_K.moved hW.alike hK, Y.2.1⟩, Y.2.2.F ht⟩) Y.2.2.2.2 hdg hlk
/-- behind a callee that has no cells -/
theorem dy_0 {H1 : Heap} {locs1 : List Loc} (Y : dy_ D A s ws H locs) (hk : ∀ q : Nat, q < H.size → ¬ va_A [] H.size q → H1[q]? = H[q]?) (hS : va_S A s.heap H1 locs1) : dy_ D A s ws H1 locs1 :=
  ⟨Y.1.kept (fun k q h => hk q.1 (Y.1 k q h).lt (fun z => by
      rcases z with ⟨j, x, z⟩ | z
      · simp at z
      · have := (Y.1 k q h).lt
        omega)), Y.2.1, hS⟩
variable {y : MethodName} {b : ByteArray} {n kA : Nat} {rt : FieldType} {f lo : Nat} {w w' : va_W} {av As : List Value} {r : Int32} {idx : Nat} {tys' : List (ClassId × FieldType)} {wr : va_W}
theorem cb_ {rt : Option FieldType} (S : CallFix p m c cc nL s args (c0 :: uw_) own) (h1 : Cond.methodLink own idx y ∈ uw_) (h2 : Cond.initialized y.cls ∈ uw_) (h3 : Cond.code y b n rt ∈ uw_) (hd : yd_ y kA) (hR : f + 1 ≤ R.frames ∧ 8 + (n + 11) + lo ≤ R.locals) : CallB R s args own idx y b n rt (wu_ y b n rt) (rm_ f lo) 0 0 kA :=
  callB_of kA S.2.2.2.2 (uw_gi h3) rfl rfl rfl (S.2.2.2.2 _ (List.mem_cons_of_mem _ h2)) (S.2.2.2.2 _ (List.mem_cons_of_mem _ h1)) hd hR
theorem va_AP {A1 : Nat → Prop} {sz : Nat} (Y : dy_ D A s ws H locs) (hA : ∀ q, s.heap.size ≤ q → A q) (hw : w = ws ∨ w = []) : ∀ q, va_A w H.size q → A q := by
  intro q hq
  rcases hq with ⟨k, x, hq⟩ | hq
  · rcases hw with rfl | rfl
    · exact Y.2.1.2 k (q, x) hq
    · simp at hq
  · exact hA q (Nat.le_trans Y.2.2.1 hq)
/-- a static call without cells -/
theorem cp_s (S : CallFix p m c cc nL s args (c0 :: uw_) own) (hK : va_K D vwCl tys s) (hA : ∀ q, s.heap.size ≤ q → A q) (hZ : zs_ A s) (Y : dy_ D A s ws H locs) (hl : ls.size = nL) (hM : me_I l D [] y b n rt f lo [] As r []) (K : cs_ own idx y b n (some rt) kA) (hR : f + 1 ≤ R.frames ∧ 8 + (n + 11) + lo ≤ R.locals) {st : List Value} (hst : st = As.reverse ++ rest) (hn : As.length = kA) (hm : (rest.map fun v => v.category).sum ≤ 8) (hf : cells ≤ R.cells ∧ slots ≤ R.slots) (hdg : decode cc pc = .ok (.invokestatic idx, 3))
    (kk : ∀ (H1 : Heap) (locs1 : List Loc), dy_ D A s ws H1 locs1 → W p l e R s m args below meth c H1 locs1 cells slots Q (F0 m (pc + 3) ls (.int r :: rest))) : W p l e R s m args below meth c H locs cells slots Q (F0 m pc ls st) := by
  obtain ⟨k1, k2, k3, k4, k5⟩ := K
  refine va_calli (va_runS (rest := rest) S (hM H.size) ⟨cb_ S k1 k3 k4 k5 hR, S.2.2.2.2 _ (List.mem_cons_of_mem _ k2)⟩ ⟨me_bl D [] [] H.size As, fun U hU hW => ⟨rfl, by rw [hU], fun k q h => by simp at h, va_K.moved hW.alike (hK.sub (tys' := []) [] rfl), ⟨fun i j a b h => by simp at h, fun k q h => by simp at h⟩, zs_mv hZ hW hU Y.2.2 (va_AP (A1 := A) (sz := 0) Y hA (Or.inr rfl))⟩⟩ rfl hn hl hst (lv_room hm) hdg hf) Y.2.2 (fun q _ h => va_AP (A1 := A) (sz := 0) Y hA (Or.inr rfl) q h) (va_AP (A1 := A) (sz := 0) Y hA (Or.inr rfl)) (fun r1 u t H1 locs1 ht hvm hw hB hz hk hS => ?_)
  subst hw
  exact kk H1 locs1 (dy_0 Y hk hS)
/-- calls whose world is the caller's whole world: static, of an object -/
theorem cf_s (S : CallFix p m c cc nL s args (c0 :: uw_) own) (hK : va_K D vwCl tys s) (hA : ∀ q, s.heap.size ≤ q → A q) (hZ : zs_ A s) (Y : dy_ D A s ws H locs) (hl : ls.size = nL) (hM : me_I l D tys y b n rt f lo ws As r w') (K : cs_ own idx y b n (some rt) kA) (hR : f + 1 ≤ R.frames ∧ 8 + (n + 11) + lo ≤ R.locals) {st : List Value} (hst : st = As.reverse ++ rest) (hn : As.length = kA) (hm : (rest.map fun v => v.category).sum ≤ 8) (hf : cells ≤ R.cells ∧ slots ≤ R.slots) (hdg : decode cc pc = .ok (.invokestatic idx, 3))
    (kk : ∀ (H1 : Heap) (locs1 : List Loc), dy_ D A s w' H1 locs1 → W p l e R s m args below meth c H1 locs1 cells slots Q (F0 m (pc + 3) ls (.int r :: rest))) : W p l e R s m args below meth c H locs cells slots Q (F0 m pc ls st) := by
  obtain ⟨k1, k2, k3, k4, k5⟩ := K
  refine va_calli (va_runS (rest := rest) S (hM H.size) ⟨cb_ S k1 k3 k4 k5 hR, S.2.2.2.2 _ (List.mem_cons_of_mem _ k2)⟩ ⟨me_bl D tys ws H.size As, fun U hU hW => ⟨rfl, by rw [hU], by rw [hU]; exact Y.1, va_K.moved hW.alike hK, Y.2.1.weaken (fun _ _ _ _ => trivial), zs_mv hZ hW hU Y.2.2 (va_AP (A1 := A) (sz := 0) Y hA (Or.inl rfl))⟩⟩ rfl hn hl hst (lv_room hm) hdg hf) Y.2.2 (fun q _ h => va_AP (A1 := A) (sz := 0) Y hA (Or.inl rfl) q h) (va_AP (A1 := A) (sz := 0) Y hA (Or.inl rfl)) (fun r1 u t H1 locs1 ht hvm hw hB hz hk hS => ?_)
  subst hw
  obtain ⟨hP1, hK1, hD1⟩ := hB
  rw [ht] at hP1
  exact kk H1 locs1 ⟨hP1, hD1.weaken (fun k q _ h => va_AP (A1 := A) (sz := 0) Y hA (Or.inl rfl) q.1 h), hS⟩
theorem cf_sv (S : CallFix p m c cc nL s args (c0 :: uw_) own) (hK : va_K D vwCl tys s) (hA : ∀ q, s.heap.size ≤ q → A q) (hZ : zs_ A s) (Y : dy_ D A s ws H locs) (hl : ls.size = nL) (hM : me_V l D tys y b n f lo ws As w') (K : cs_ own idx y b n none kA) (hR : f + 1 ≤ R.frames ∧ 8 + (n + 11) + lo ≤ R.locals) {st : List Value} (hst : st = As.reverse ++ rest) (hn : As.length = kA) (hm : (rest.map fun v => v.category).sum ≤ 8) (hf : cells ≤ R.cells ∧ slots ≤ R.slots) (hdg : decode cc pc = .ok (.invokestatic idx, 3))
    (kk : ∀ (H1 : Heap) (locs1 : List Loc), dy_ D A s w' H1 locs1 → W p l e R s m args below meth c H1 locs1 cells slots Q (F0 m (pc + 3) ls rest)) : W p l e R s m args below meth c H locs cells slots Q (F0 m pc ls st) := by
  obtain ⟨k1, k2, k3, k4, k5⟩ := K
  refine va_callv (va_runS (rest := rest) S (hM H.size) ⟨cb_ S k1 k3 k4 k5 hR, S.2.2.2.2 _ (List.mem_cons_of_mem _ k2)⟩ ⟨me_bl D tys ws H.size As, fun U hU hW => ⟨rfl, by rw [hU], by rw [hU]; exact Y.1, va_K.moved hW.alike hK, Y.2.1.weaken (fun _ _ _ _ => trivial), zs_mv hZ hW hU Y.2.2 (va_AP (A1 := A) (sz := 0) Y hA (Or.inl rfl))⟩⟩ rfl hn hl hst (lv_room hm) hdg hf) Y.2.2 (fun q _ h => va_AP (A1 := A) (sz := 0) Y hA (Or.inl rfl) q h) (va_AP (A1 := A) (sz := 0) Y hA (Or.inl rfl)) (fun u t H1 locs1 ht hvm hw hB hz hk hS => ?_)
  obtain ⟨hP1, hK1, hD1⟩ := hB
  rw [ht] at hP1
  exact kk H1 locs1 ⟨hP1, hD1.weaken (fun k q _ h => va_AP (A1 := A) (sz := 0) Y hA (Or.inl rfl) q.1 h), hS⟩
theorem cf_v (S : CallFix p m c cc nL s args (c0 :: uw_) own) (hK : va_K D vwCl tys s) (hA : ∀ q, s.heap.size ≤ q → A q) (hZ : zs_ A s) (Y : dy_ D A s ws H locs) (hl : ls.size = nL) {a : Nat} (hM : me_I l D tys y b n rt f lo ws (.ref a :: As) r w') (K : cv_ own idx y b n (some rt) kA) {ci q0 : Nat} {T : u_T} {N : Nat} {fs : List Value} (hc : vwCl[ci]? = some (y.cls, T, N)) (he : ws[q0]? = some (a, .inr (ci, fs))) (hR : f + 1 ≤ R.frames ∧ 8 + (n + 11) + lo ≤ R.locals) {st : List Value} (hst : st = As.reverse ++ .ref a :: rest) (hn : As.length = kA) (hm : (rest.map fun v => v.category).sum ≤ 8) (hf : cells ≤ R.cells ∧ slots ≤ R.slots) (hdg : decode cc pc = .ok (.invokevirtual idx, 3))
    (kk : ∀ (H1 : Heap) (locs1 : List Loc), dy_ D A s w' H1 locs1 → W p l e R s m args below meth c H1 locs1 cells slots Q (F0 m (pc + 3) ls (.int r :: rest))) : W p l e R s m args below meth c H locs cells slots Q (F0 m pc ls st) := by
  obtain ⟨k1, k2, k3, k4, k5, k6⟩ := K
  refine va_calli (va_runV (C := y.cls) (rest := rest) S (hM H.size) ⟨cb_ S k1 k4 k5 k6 hR, S.2.2.2.2 _ (List.mem_cons_of_mem _ k2), S.2.2.2.2 _ (List.mem_cons_of_mem _ k3)⟩ ⟨me_bl D tys ws H.size _, va_recv hK Y.1 hc he, fun U hU hW => ⟨rfl, by rw [hU], by rw [hU]; exact Y.1, va_K.moved hW.alike hK, Y.2.1.weaken (fun _ _ _ _ => trivial), zs_mv hZ hW hU Y.2.2 (va_AP (A1 := A) (sz := 0) Y hA (Or.inl rfl))⟩⟩ rfl hn hl hst (lv_room hm) hdg hf) Y.2.2 (fun q _ h => va_AP (A1 := A) (sz := 0) Y hA (Or.inl rfl) q h) (va_AP (A1 := A) (sz := 0) Y hA (Or.inl rfl)) (fun r1 u t H1 locs1 ht hvm hw hB hz hk hS => ?_)
  subst hw
  obtain ⟨hP1, hK1, hD1⟩ := hB
  rw [ht] at hP1
  exact kk H1 locs1 ⟨hP1, hD1.weaken (fun k q _ h => va_AP (A1 := A) (sz := 0) Y hA (Or.inl rfl) q.1 h), hS⟩
theorem cf_vv (S : CallFix p m c cc nL s args (c0 :: uw_) own) (hK : va_K D vwCl tys s) (hA : ∀ q, s.heap.size ≤ q → A q) (hZ : zs_ A s) (Y : dy_ D A s ws H locs) (hl : ls.size = nL) {a : Nat} (hM : me_V l D tys y b n f lo ws (.ref a :: As) w') (K : cv_ own idx y b n none kA) {ci q0 : Nat} {T : u_T} {N : Nat} {fs : List Value} (hc : vwCl[ci]? = some (y.cls, T, N)) (he : ws[q0]? = some (a, .inr (ci, fs))) (hR : f + 1 ≤ R.frames ∧ 8 + (n + 11) + lo ≤ R.locals) {st : List Value} (hst : st = As.reverse ++ .ref a :: rest) (hn : As.length = kA) (hm : (rest.map fun v => v.category).sum ≤ 8) (hf : cells ≤ R.cells ∧ slots ≤ R.slots) (hdg : decode cc pc = .ok (.invokevirtual idx, 3))
    (kk : ∀ (H1 : Heap) (locs1 : List Loc), dy_ D A s w' H1 locs1 → W p l e R s m args below meth c H1 locs1 cells slots Q (F0 m (pc + 3) ls rest)) : W p l e R s m args below meth c H locs cells slots Q (F0 m pc ls st) := by
  obtain ⟨k1, k2, k3, k4, k5, k6⟩ := K
  refine va_callv (va_runV (C := y.cls) (rest := rest) S (hM H.size) ⟨cb_ S k1 k4 k5 k6 hR, S.2.2.2.2 _ (List.mem_cons_of_mem _ k2), S.2.2.2.2 _ (List.mem_cons_of_mem _ k3)⟩ ⟨me_bl D tys ws H.size _, va_recv hK Y.1 hc he, fun U hU hW => ⟨rfl, by rw [hU], by rw [hU]; exact Y.1, va_K.moved hW.alike hK, Y.2.1.weaken (fun _ _ _ _ => trivial), zs_mv hZ hW hU Y.2.2 (va_AP (A1 := A) (sz := 0) Y hA (Or.inl rfl))⟩⟩ rfl hn hl hst (lv_room hm) hdg hf) Y.2.2 (fun q _ h => va_AP (A1 := A) (sz := 0) Y hA (Or.inl rfl) q h) (va_AP (A1 := A) (sz := 0) Y hA (Or.inl rfl)) (fun u t H1 locs1 ht hvm hw hB hz hk hS => ?_)
  obtain ⟨hP1, hK1, hD1⟩ := hB
  rw [ht] at hP1
  exact kk H1 locs1 ⟨hP1, hD1.weaken (fun k q _ h => va_AP (A1 := A) (sz := 0) Y hA (Or.inl rfl) q.1 h), hS⟩
/-- calls whose world is a part of the caller's: places isC; the rest at isR; behind the call in the order ps -/
theorem cg_f {isC : List Nat} (hC : isC.map (fun i => ws[i]?) = w.map some) : isC.filterMap (fun i => ws[i]?) = w := by
  have h1 : isC.filterMap (fun i => ws[i]?) = (isC.map (fun i => ws[i]?)).filterMap id := by rw [List.filterMap_map]; rfl
  rw [h1, hC, List.filterMap_map]
  show w.filterMap some = w
  exact List.filterMap_some
theorem cg_j {isC isR ps : List Nat} {ws2 : va_W} {H1 : Heap} {locs1 : List Loc} (hA : ∀ q, s.heap.size ≤ q → A q) (Y : dy_ D A s ws H locs) (hC : isC.map (fun i => ws[i]?) = w.map some) (hRr : isR.map (fun i => ws[i]?) = wr.map some) (hn : va_nd isR = true) (hdis : ∀ i ∈ isR, i ∉ isC) (hps : ps.map (fun i => (wr ++ w')[i]?) = ws2.map some) (hnp : va_nd ps = true)
    (hk : ∀ q : Nat, q < H.size → ¬ va_A w H.size q → H1[q]? = H[q]?) (hP1 : va_P D vwCl w' H1) (hD1 : va_D (va_A w H.size) w') (hS : va_S A s.heap H1 locs1) : dy_ D A s ws2 H1 locs1 := by
  obtain ⟨h1, h2⟩ := va_join Y.1 Y.2.1 isC isR hC hRr hn hdis hk (va_free Y.2.1 Y.2.2 hA isC hC) hP1 hD1
  exact ⟨h1.sub ps (cg_f hps), h2.sub ps hnp hps, hS⟩
theorem cg_s {isC isR ps it : List Nat} {ws2 : va_W} (S : CallFix p m c cc nL s args (c0 :: uw_) own) (hK : va_K D vwCl tys s) (hA : ∀ q, s.heap.size ≤ q → A q) (hZ : zs_ A s) (Y : dy_ D A s ws H locs) (hl : ls.size = nL) (hM : me_I l D tys' y b n rt f lo w As r w') (hC : isC.map (fun i => ws[i]?) = w.map some) (hRr : isR.map (fun i => ws[i]?) = wr.map some) (hnC : va_nd isC = true) (hnR : va_nd isR = true) (hdis : ∀ i ∈ isR, i ∉ isC) (hps : ps.map (fun i => (wr ++ w')[i]?) = ws2.map some) (hnp : va_nd ps = true) (hty : it.filterMap (fun i => tys[i]?) = tys') (K : cs_ own idx y b n (some rt) kA) (hR : f + 1 ≤ R.frames ∧ 8 + (n + 11) + lo ≤ R.locals) {st : List Value} (hst : st = As.reverse ++ rest) (hn : As.length = kA) (hm : (rest.map fun v => v.category).sum ≤ 8) (hf : cells ≤ R.cells ∧ slots ≤ R.slots) (hdg : decode cc pc = .ok (.invokestatic idx, 3))
    (kk : ∀ (H1 : Heap) (locs1 : List Loc), dy_ D A s ws2 H1 locs1 → W p l e R s m args below meth c H1 locs1 cells slots Q (F0 m (pc + 3) ls (.int r :: rest))) : W p l e R s m args below meth c H locs cells slots Q (F0 m pc ls st) := by
  obtain ⟨k1, k2, k3, k4, k5⟩ := K
  have hfr := va_free Y.2.1 Y.2.2 hA isC hC
  refine va_calli (va_runS (rest := rest) S (hM H.size) ⟨cb_ S k1 k3 k4 k5 hR, S.2.2.2.2 _ (List.mem_cons_of_mem _ k2)⟩ ⟨me_bl D tys' w H.size As, fun U hU hW => ⟨rfl, by rw [hU], by rw [hU]; exact Y.1.sub isC (cg_f hC), va_K.moved hW.alike (hK.sub it hty), (Y.2.1.sub isC hnC hC).weaken (fun _ _ _ _ => trivial), zs_mv hZ hW hU Y.2.2 hfr⟩⟩ rfl hn hl hst (lv_room hm) hdg hf) Y.2.2 (fun q _ h => hfr q h) hfr (fun r1 u t H1 locs1 ht hvm hw hB hz hk hS => ?_)
  subst hw
  obtain ⟨hP1, hK1, hD1⟩ := hB
  rw [ht] at hP1
  exact kk H1 locs1 (cg_j hA Y hC hRr hnR hdis hps hnp hk hP1 hD1 hS)
theorem cg_v {isC isR ps it : List Nat} {ws2 : va_W} {a : Nat} (S : CallFix p m c cc nL s args (c0 :: uw_) own) (hK : va_K D vwCl tys s) (hA : ∀ q, s.heap.size ≤ q → A q) (hZ : zs_ A s) (Y : dy_ D A s ws H locs) (hl : ls.size = nL) (hM : me_I l D tys' y b n rt f lo w (.ref a :: As) r w') (hC : isC.map (fun i => ws[i]?) = w.map some) (hRr : isR.map (fun i => ws[i]?) = wr.map some) (hnC : va_nd isC = true) (hnR : va_nd isR = true) (hdis : ∀ i ∈ isR, i ∉ isC) (hps : ps.map (fun i => (wr ++ w')[i]?) = ws2.map some) (hnp : va_nd ps = true) (hty : it.filterMap (fun i => tys[i]?) = tys') (K : cv_ own idx y b n (some rt) kA) {ci q0 : Nat} {T : u_T} {N : Nat} {fs : List Value} (hc : vwCl[ci]? = some (y.cls, T, N)) (he : ws[q0]? = some (a, .inr (ci, fs))) (hR : f + 1 ≤ R.frames ∧ 8 + (n + 11) + lo ≤ R.locals) {st : List Value} (hst : st = As.reverse ++ .ref a :: rest) (hn : As.length = kA) (hm : (rest.map fun v => v.category).sum ≤ 8) (hf : cells ≤ R.cells ∧ slots ≤ R.slots) (hdg : decode cc pc = .ok (.invokevirtual idx, 3))
    (kk : ∀ (H1 : Heap) (locs1 : List Loc), dy_ D A s ws2 H1 locs1 → W p l e R s m args below meth c H1 locs1 cells slots Q (F0 m (pc + 3) ls (.int r :: rest))) : W p l e R s m args below meth c H locs cells slots Q (F0 m pc ls st) := by
  obtain ⟨k1, k2, k3, k4, k5, k6⟩ := K
  have hfr := va_free Y.2.1 Y.2.2 hA isC hC
  refine va_calli (va_runV (C := y.cls) (rest := rest) S (hM H.size) ⟨cb_ S k1 k4 k5 k6 hR, S.2.2.2.2 _ (List.mem_cons_of_mem _ k2), S.2.2.2.2 _ (List.mem_cons_of_mem _ k3)⟩ ⟨me_bl D tys' w H.size _, va_recv hK Y.1 hc he, fun U hU hW => ⟨rfl, by rw [hU], by rw [hU]; exact Y.1.sub isC (cg_f hC), va_K.moved hW.alike (hK.sub it hty), (Y.2.1.sub isC hnC hC).weaken (fun _ _ _ _ => trivial), zs_mv hZ hW hU Y.2.2 hfr⟩⟩ rfl hn hl hst (lv_room hm) hdg hf) Y.2.2 (fun q _ h => hfr q h) hfr (fun r1 u t H1 locs1 ht hvm hw hB hz hk hS => ?_)
  subst hw
  obtain ⟨hP1, hK1, hD1⟩ := hB
  rw [ht] at hP1
  exact kk H1 locs1 (cg_j hA Y hC hRr hnR hdis hps hnp hk hP1 hD1 hS)
theorem cg_vv {isC isR ps it : List Nat} {ws2 : va_W} {a : Nat} (S : CallFix p m c cc nL s args (c0 :: uw_) own) (hK : va_K D vwCl tys s) (hA : ∀ q, s.heap.size ≤ q → A q) (hZ : zs_ A s) (Y : dy_ D A s ws H locs) (hl : ls.size = nL) (hM : me_V l D tys' y b n f lo w (.ref a :: As) w') (hC : isC.map (fun i => ws[i]?) = w.map some) (hRr : isR.map (fun i => ws[i]?) = wr.map some) (hnC : va_nd isC = true) (hnR : va_nd isR = true) (hdis : ∀ i ∈ isR, i ∉ isC) (hps : ps.map (fun i => (wr ++ w')[i]?) = ws2.map some) (hnp : va_nd ps = true) (hty : it.filterMap (fun i => tys[i]?) = tys') (K : cv_ own idx y b n none kA) {ci q0 : Nat} {T : u_T} {N : Nat} {fs : List Value} (hc : vwCl[ci]? = some (y.cls, T, N)) (he : ws[q0]? = some (a, .inr (ci, fs))) (hR : f + 1 ≤ R.frames ∧ 8 + (n + 11) + lo ≤ R.locals) {st : List Value} (hst : st = As.reverse ++ .ref a :: rest) (hn : As.length = kA) (hm : (rest.map fun v => v.category).sum ≤ 8) (hf : cells ≤ R.cells ∧ slots ≤ R.slots) (hdg : decode cc pc = .ok (.invokevirtual idx, 3))
    (kk : ∀ (H1 : Heap) (locs1 : List Loc), dy_ D A s ws2 H1 locs1 → W p l e R s m args below meth c H1 locs1 cells slots Q (F0 m (pc + 3) ls rest)) : W p l e R s m args below meth c H locs cells slots Q (F0 m pc ls st) := by
  obtain ⟨k1, k2, k3, k4, k5, k6⟩ := K
  have hfr := va_free Y.2.1 Y.2.2 hA isC hC
  refine va_callv (va_runV (C := y.cls) (rest := rest) S (hM H.size) ⟨cb_ S k1 k4 k5 k6 hR, S.2.2.2.2 _ (List.mem_cons_of_mem _ k2), S.2.2.2.2 _ (List.mem_cons_of_mem _ k3)⟩ ⟨me_bl D tys' w H.size _, va_recv hK Y.1 hc he, fun U hU hW => ⟨rfl, by rw [hU], by rw [hU]; exact Y.1.sub isC (cg_f hC), va_K.moved hW.alike (hK.sub it hty), (Y.2.1.sub isC hnC hC).weaken (fun _ _ _ _ => trivial), zs_mv hZ hW hU Y.2.2 hfr⟩⟩ rfl hn hl hst (lv_room hm) hdg hf) Y.2.2 (fun q _ h => hfr q h) hfr (fun u t H1 locs1 ht hvm hw hB hz hk hS => ?_)
  obtain ⟨hP1, hK1, hD1⟩ := hB
  rw [ht] at hP1
  exact kk H1 locs1 (cg_j hA Y hC hRr hnR hdis hps hnp hk hP1 hD1 hS)
end BASE
theorem o_kh {α : Type} {P : Prop} [Decidable P] {x : Option α} {r : α} (h : o_k P x = some r) : P ∧ x = some r := by
  unfold o_k at h
  by_cases hp : P
  · rw [if_pos hp] at h; exact ⟨hp, h⟩
  · rw [if_neg hp] at h; cases h
theorem o_bh {α β : Type} {x : Option α} {f : α → Option β} {r : β} (h : x.bind f = some r) : ∃ v, x = some v ∧ f v = some r := by
  cases x with
  | none => cases h
  | some v => exact ⟨v, rfl, h⟩
theorem o_t {α : Type} {P : Prop} [Decidable P] {x y z : α} (h : (if P then x else y) = z) (hp : P) : x = z := by rw [if_pos hp] at h; exact h
theorem o_f {α : Type} {P : Prop} [Decidable P] {x y z : α} (h : (if P then x else y) = z) (hp : ¬ P) : y = z := by rw [if_neg hp] at h; exact h
end
section
theorem uw_ps {ws : List Cond} (ps : List Nat) (hp : ws.map some = ps.map (fun i => lw_tbl[i]?)) (hg : ws.all goodWord = true) : ∀ w ∈ ws, w ∈ uw_ := by
  intro w hw
  have h1 : some w ∈ ws.map some := List.mem_map.mpr ⟨w, hw, rfl⟩
  rw [hp] at h1
  obtain ⟨i, -, hi⟩ := List.mem_map.mp h1
  exact uw_in i hi (List.all_eq_true.mp hg w hw)
def o_x {α : Type} (i : Int32) (n : Nat) (x : Option α) : Option α := if (i < 0 ∨ n ≤ i.toNatClampNeg) then none else x
theorem o_xh {α : Type} {i : Int32} {n : Nat} {x : Option α} {r : α} (h : o_x i n x = some r) : vp_in i n ∧ x = some r := by
  unfold o_x at h
  by_cases hp : (i < 0 ∨ n ≤ i.toNatClampNeg)
  · rw [if_pos hp] at h; cases h
  · rw [if_neg hp] at h; exact ⟨hp, h⟩
theorem nb_ {v : Int32} (h : v = 0 ∨ v = 1) : narrow .boolean (.int v) = .int v := by
  rcases h with rfl | rfl <;> rfl
theorem me_ofI {l : Launch} {D : va_G} {tys : List (ClassId × FieldType)} {y : MethodName} {b : ByteArray} {n : Nat} {rt : FieldType} {f lo : Nat} {w w' : va_W} {av : List Value} {r : Int32} (hpl : plainFor y = true) (hfit : (lg_sl av).length ≤ n)
    (body : ∀ (p : Program) (e : Env) (s : State) (m : MethodId) (args : Array Value) (below : List Frame) (meth : Method) (c : Code) (A : Nat → Prop) (ls : Array Slot), CallFix p m c b n s args (wu_ y b n (some rt)) y.cls → va_K D vwCl tys s → dy_ D A s w s.heap [] → (∀ q, s.heap.size ≤ q → A q) → lv_has ls n (lv_args 0 av) → meth.sig.returnType = some rt → meth.locks = false → zs_ A s →
      W p l e (rm_ f lo) s m args below meth c s.heap [] 0 0 (MQ below (me_Qi D tys A r w') args s 0 0 A) (F0 m 0 ls [])) : me_I l D tys y b n rt f lo w av r w' := me_of (Qc := fun A => me_Qi D tys A r w') hpl hfit body
theorem me_ofV {l : Launch} {D : va_G} {tys : List (ClassId × FieldType)} {y : MethodName} {b : ByteArray} {n : Nat} {f lo : Nat} {w w' : va_W} {av : List Value} (hpl : plainFor y = true) (hfit : (lg_sl av).length ≤ n)
    (body : ∀ (p : Program) (e : Env) (s : State) (m : MethodId) (args : Array Value) (below : List Frame) (meth : Method) (c : Code) (A : Nat → Prop) (ls : Array Slot), CallFix p m c b n s args (wu_ y b n none) y.cls → va_K D vwCl tys s → dy_ D A s w s.heap [] → (∀ q, s.heap.size ≤ q → A q) → lv_has ls n (lv_args 0 av) → meth.sig.returnType = none → meth.locks = false → zs_ A s →
      W p l e (rm_ f lo) s m args below meth c s.heap [] 0 0 (MQ below (me_Qv D tys A w') args s 0 0 A) (F0 m 0 ls [])) : me_V l D tys y b n f lo w av w' := me_of (Qc := fun A => me_Qv D tys A w') hpl hfit body
def vS (h : Nat → Nat) (F : Nat → Int32) : List Value := [.ref (h 1), .ref (h 2), .ref (h 3), .ref (h 4), .ref (h 5), .ref (h 6), .ref (h 7), .ref (h 8), .ref (h 9), .int (F 0), .int (F 1), .int (F 2), .int (F 3), .int (F 4), .int (F 5), .int (F 6)]
def wS (cI : ClassId) (h : Nat → Nat) (σ : sg_T) : va_W := [(h 0, .inr (2, vS h (σ 0))), (h 1, .inl (cI, 4, .inl (σ 1))), (h 2, .inl (cI, 8, .inl (σ 2))), (h 3, .inl (cI, 8, .inl (σ 3))), (h 4, .inl (cI, 8, .inl (σ 4))), (h 5, .inl (cI, 8, .inl (σ 5))), (h 6, .inl (cI, 8, .inl (σ 6))), (h 7, .inl (cI, 8, .inl (σ 7))), (h 8, .inl (cI, 16, .inl (σ 8))), (h 9, .inl (cI, 16, .inl (σ 9)))]
def tS (cI : ClassId) : List (ClassId × FieldType) := [(cI, .int)]
theorem wS_f0 {cI : ClassId} (h : Nat → Nat) (σ : sg_T) (F : Nat → Int32) (x : Int32) : (wS cI h σ).set 0 (h 0, .inr (2, (vS h F).set 9 (.int x))) = wS cI h (sg_a σ 0 (sg_u F 0 x)) := rfl
theorem wS_f1 {cI : ClassId} (h : Nat → Nat) (σ : sg_T) (F : Nat → Int32) (x : Int32) : (wS cI h σ).set 0 (h 0, .inr (2, (vS h F).set 10 (.int x))) = wS cI h (sg_a σ 0 (sg_u F 1 x)) := rfl
theorem wS_f2 {cI : ClassId} (h : Nat → Nat) (σ : sg_T) (F : Nat → Int32) (x : Int32) : (wS cI h σ).set 0 (h 0, .inr (2, (vS h F).set 11 (.int x))) = wS cI h (sg_a σ 0 (sg_u F 2 x)) := rfl
theorem wS_f3 {cI : ClassId} (h : Nat → Nat) (σ : sg_T) (F : Nat → Int32) (x : Int32) : (wS cI h σ).set 0 (h 0, .inr (2, (vS h F).set 12 (.int x))) = wS cI h (sg_a σ 0 (sg_u F 3 x)) := rfl
theorem wS_f4 {cI : ClassId} (h : Nat → Nat) (σ : sg_T) (F : Nat → Int32) (x : Int32) : (wS cI h σ).set 0 (h 0, .inr (2, (vS h F).set 13 (.int x))) = wS cI h (sg_a σ 0 (sg_u F 4 x)) := rfl
theorem wS_f5 {cI : ClassId} (h : Nat → Nat) (σ : sg_T) (F : Nat → Int32) (x : Int32) : (wS cI h σ).set 0 (h 0, .inr (2, (vS h F).set 14 (.int x))) = wS cI h (sg_a σ 0 (sg_u F 5 x)) := rfl
theorem wS_f6 {cI : ClassId} (h : Nat → Nat) (σ : sg_T) (F : Nat → Int32) (x : Int32) : (wS cI h σ).set 0 (h 0, .inr (2, (vS h F).set 15 (.int x))) = wS cI h (sg_a σ 0 (sg_u F 6 x)) := rfl
theorem wS_a1 {cI : ClassId} (h : Nat → Nat) (σ : sg_T) (f : Nat → Int32) : (wS cI h σ).set 1 (h 1, .inl (cI, 4, .inl f)) = wS cI h (sg_a σ 1 f) := rfl
theorem wS_a2 {cI : ClassId} (h : Nat → Nat) (σ : sg_T) (f : Nat → Int32) : (wS cI h σ).set 2 (h 2, .inl (cI, 8, .inl f)) = wS cI h (sg_a σ 2 f) := rfl
theorem wS_a3 {cI : ClassId} (h : Nat → Nat) (σ : sg_T) (f : Nat → Int32) : (wS cI h σ).set 3 (h 3, .inl (cI, 8, .inl f)) = wS cI h (sg_a σ 3 f) := rfl
theorem wS_a4 {cI : ClassId} (h : Nat → Nat) (σ : sg_T) (f : Nat → Int32) : (wS cI h σ).set 4 (h 4, .inl (cI, 8, .inl f)) = wS cI h (sg_a σ 4 f) := rfl
theorem wS_a5 {cI : ClassId} (h : Nat → Nat) (σ : sg_T) (f : Nat → Int32) : (wS cI h σ).set 5 (h 5, .inl (cI, 8, .inl f)) = wS cI h (sg_a σ 5 f) := rfl
theorem wS_a6 {cI : ClassId} (h : Nat → Nat) (σ : sg_T) (f : Nat → Int32) : (wS cI h σ).set 6 (h 6, .inl (cI, 8, .inl f)) = wS cI h (sg_a σ 6 f) := rfl
theorem wS_a7 {cI : ClassId} (h : Nat → Nat) (σ : sg_T) (f : Nat → Int32) : (wS cI h σ).set 7 (h 7, .inl (cI, 8, .inl f)) = wS cI h (sg_a σ 7 f) := rfl
theorem wS_a8 {cI : ClassId} (h : Nat → Nat) (σ : sg_T) (f : Nat → Int32) : (wS cI h σ).set 8 (h 8, .inl (cI, 16, .inl f)) = wS cI h (sg_a σ 8 f) := rfl
theorem wS_a9 {cI : ClassId} (h : Nat → Nat) (σ : sg_T) (f : Nat → Int32) : (wS cI h σ).set 9 (h 9, .inl (cI, 16, .inl f)) = wS cI h (sg_a σ 9 f) := rfl
def vT (h : Nat → Nat) (F : Nat → Int32) : List Value := [.ref (h 1), .int (F 0)]
def wT (cI : ClassId) (h : Nat → Nat) (σ : sg_T) : va_W := [(h 0, .inr (0, vT h (σ 0))), (h 1, .inl (cI, 60, .inl (σ 1)))]
def tT (cI : ClassId) : List (ClassId × FieldType) := [(cI, .int)]
theorem wT_f0 {cI : ClassId} (h : Nat → Nat) (σ : sg_T) (F : Nat → Int32) (x : Int32) : (wT cI h σ).set 0 (h 0, .inr (0, (vT h F).set 1 (.int x))) = wT cI h (sg_a σ 0 (sg_u F 0 x)) := rfl
theorem wT_a1 {cI : ClassId} (h : Nat → Nat) (σ : sg_T) (f : Nat → Int32) : (wT cI h σ).set 1 (h 1, .inl (cI, 60, .inl f)) = wT cI h (sg_a σ 1 f) := rfl
set_option maxRecDepth 20000 in
theorem iuX5 : ∀ w ∈ u_ws RX5 TX5 16, w ∈ uw_ := uw_ps [88, 90, 92, 94, 96, 98, 100, 102, 104, 106, 108, 110, 112, 114, 116, 118] rfl rfl
theorem fpX5 : fp_ TX5 16 tyX5 := ⟨tyX5_ok, nmX5⟩
set_option maxRecDepth 20000 in
theorem iuX1 : ∀ w ∈ u_ws RX1 TX1 2, w ∈ uw_ := uw_ps [146, 148] rfl rfl
theorem fpX1 : fp_ TX1 2 tyX1 := ⟨tyX1_ok, nmX1⟩
set_option maxRecDepth 20000 in
theorem fX0_21 : fl_ RX0 21 RX5 TX5 16 2 9 := ⟨iuX5, rfl, Nat.le_of_ble_eq_true rfl, uw_in 66 rfl rfl, rfl⟩
set_option maxRecDepth 20000 in
theorem fX0_43 : fl_ RX0 43 RX5 TX5 16 2 7 := ⟨iuX5, rfl, Nat.le_of_ble_eq_true rfl, uw_in 58 rfl rfl, rfl⟩
set_option maxRecDepth 20000 in
theorem fX0_63 : fl_ RX0 63 RX5 TX5 16 2 6 := ⟨iuX5, rfl, Nat.le_of_ble_eq_true rfl, uw_in 55 rfl rfl, rfl⟩
set_option maxRecDepth 20000 in
theorem fX0_66 : fl_ RX0 66 RX5 TX5 16 2 14 := ⟨iuX5, rfl, Nat.le_of_ble_eq_true rfl, uw_in 83 rfl rfl, rfl⟩
set_option maxRecDepth 20000 in
theorem fX0_72 : fl_ RX0 72 RX5 TX5 16 2 0 := ⟨iuX5, rfl, Nat.le_of_ble_eq_true rfl, uw_in 34 rfl rfl, rfl⟩
set_option maxRecDepth 20000 in
theorem fX0_9 : fl_ RX0 9 RX5 TX5 16 2 11 := ⟨iuX5, rfl, Nat.le_of_ble_eq_true rfl, uw_in 72 rfl rfl, rfl⟩
set_option maxRecDepth 20000 in
theorem fX2_109 : fl_ RX2 109 RX5 TX5 16 2 1 := ⟨iuX5, rfl, Nat.le_of_ble_eq_true rfl, uw_in 37 rfl rfl, rfl⟩
set_option maxRecDepth 20000 in
theorem fX2_112 : fl_ RX2 112 RX5 TX5 16 2 3 := ⟨iuX5, rfl, Nat.le_of_ble_eq_true rfl, uw_in 44 rfl rfl, rfl⟩
set_option maxRecDepth 20000 in
theorem fX2_115 : fl_ RX2 115 RX5 TX5 16 2 7 := ⟨iuX5, rfl, Nat.le_of_ble_eq_true rfl, uw_in 59 rfl rfl, rfl⟩
set_option maxRecDepth 20000 in
theorem fX2_121 : fl_ RX2 121 RX5 TX5 16 2 8 := ⟨iuX5, rfl, Nat.le_of_ble_eq_true rfl, uw_in 62 rfl rfl, rfl⟩
set_option maxRecDepth 20000 in
theorem fX2_124 : fl_ RX2 124 RX5 TX5 16 2 15 := ⟨iuX5, rfl, Nat.le_of_ble_eq_true rfl, uw_in 86 rfl rfl, rfl⟩
set_option maxRecDepth 20000 in
theorem fX2_127 : fl_ RX2 127 RX5 TX5 16 2 4 := ⟨iuX5, rfl, Nat.le_of_ble_eq_true rfl, uw_in 49 rfl rfl, rfl⟩
set_option maxRecDepth 20000 in
theorem fX2_136 : fl_ RX2 136 RX5 TX5 16 2 5 := ⟨iuX5, rfl, Nat.le_of_ble_eq_true rfl, uw_in 52 rfl rfl, rfl⟩
set_option maxRecDepth 20000 in
theorem fX2_139 : fl_ RX2 139 RX5 TX5 16 2 10 := ⟨iuX5, rfl, Nat.le_of_ble_eq_true rfl, uw_in 70 rfl rfl, rfl⟩
set_option maxRecDepth 20000 in
theorem fX2_22 : fl_ RX2 22 RX5 TX5 16 2 0 := ⟨iuX5, rfl, Nat.le_of_ble_eq_true rfl, uw_in 32 rfl rfl, rfl⟩
set_option maxRecDepth 20000 in
theorem fX2_25 : fl_ RX2 25 RX5 TX5 16 2 11 := ⟨iuX5, rfl, Nat.le_of_ble_eq_true rfl, uw_in 73 rfl rfl, rfl⟩
set_option maxRecDepth 20000 in
theorem fX2_29 : fl_ RX2 29 RX5 TX5 16 2 9 := ⟨iuX5, rfl, Nat.le_of_ble_eq_true rfl, uw_in 65 rfl rfl, rfl⟩
set_option maxRecDepth 20000 in
theorem fX2_35 : fl_ RX2 35 RX5 TX5 16 2 12 := ⟨iuX5, rfl, Nat.le_of_ble_eq_true rfl, uw_in 76 rfl rfl, rfl⟩
set_option maxRecDepth 20000 in
theorem fX2_38 : fl_ RX2 38 RX5 TX5 16 2 13 := ⟨iuX5, rfl, Nat.le_of_ble_eq_true rfl, uw_in 79 rfl rfl, rfl⟩
set_option maxRecDepth 20000 in
theorem fX2_41 : fl_ RX2 41 RX5 TX5 16 2 2 := ⟨iuX5, rfl, Nat.le_of_ble_eq_true rfl, uw_in 40 rfl rfl, rfl⟩
set_option maxRecDepth 20000 in
theorem fX2_67 : fl_ RX2 67 RX5 TX5 16 2 6 := ⟨iuX5, rfl, Nat.le_of_ble_eq_true rfl, uw_in 54 rfl rfl, rfl⟩
set_option maxRecDepth 20000 in
theorem fX2_74 : fl_ RX2 74 RX5 TX5 16 2 14 := ⟨iuX5, rfl, Nat.le_of_ble_eq_true rfl, uw_in 82 rfl rfl, rfl⟩
set_option maxRecDepth 20000 in
theorem fX4_15 : fl_ RX4 15 RX5 TX5 16 2 4 := ⟨iuX5, rfl, Nat.le_of_ble_eq_true rfl, uw_in 47 rfl rfl, rfl⟩
set_option maxRecDepth 20000 in
theorem fX4_18 : fl_ RX4 18 RX5 TX5 16 2 9 := ⟨iuX5, rfl, Nat.le_of_ble_eq_true rfl, uw_in 64 rfl rfl, rfl⟩
set_option maxRecDepth 20000 in
theorem fX4_39 : fl_ RX4 39 RX5 TX5 16 2 2 := ⟨iuX5, rfl, Nat.le_of_ble_eq_true rfl, uw_in 41 rfl rfl, rfl⟩
set_option maxRecDepth 20000 in
theorem fX4_9 : fl_ RX4 9 RX5 TX5 16 2 1 := ⟨iuX5, rfl, Nat.le_of_ble_eq_true rfl, uw_in 36 rfl rfl, rfl⟩
set_option maxRecDepth 20000 in
theorem fX5_15 : fl_ RX5 15 RX5 TX5 16 2 1 := ⟨iuX5, rfl, Nat.le_of_ble_eq_true rfl, uw_in 35 rfl rfl, rfl⟩
set_option maxRecDepth 20000 in
theorem fX5_30 : fl_ RX5 30 RX5 TX5 16 2 6 := ⟨iuX5, rfl, Nat.le_of_ble_eq_true rfl, uw_in 53 rfl rfl, rfl⟩
set_option maxRecDepth 20000 in
theorem fX5_38 : fl_ RX5 38 RX5 TX5 16 2 8 := ⟨iuX5, rfl, Nat.le_of_ble_eq_true rfl, uw_in 61 rfl rfl, rfl⟩
set_option maxRecDepth 20000 in
theorem fX5_41 : fl_ RX5 41 RX5 TX5 16 2 9 := ⟨iuX5, rfl, Nat.le_of_ble_eq_true rfl, uw_in 63 rfl rfl, rfl⟩
set_option maxRecDepth 20000 in
theorem fX5_54 : fl_ RX5 54 RX5 TX5 16 2 13 := ⟨iuX5, rfl, Nat.le_of_ble_eq_true rfl, uw_in 78 rfl rfl, rfl⟩
set_option maxRecDepth 20000 in
theorem fX5_57 : fl_ RX5 57 RX5 TX5 16 2 14 := ⟨iuX5, rfl, Nat.le_of_ble_eq_true rfl, uw_in 81 rfl rfl, rfl⟩
set_option maxRecDepth 20000 in
theorem fX5_9 : fl_ RX5 9 RX5 TX5 16 2 0 := ⟨iuX5, rfl, Nat.le_of_ble_eq_true rfl, uw_in 31 rfl rfl, rfl⟩
set_option maxRecDepth 20000 in
theorem kX0_17 : cv_ RX0 17 yX5_seekerSees cX5_seekerSees 2 (some .boolean) 1 := ⟨uw_in 440 rfl rfl, uw_in 327 rfl rfl, uw_in 328 rfl rfl, uw_in 3 rfl rfl, uw_in 329 rfl rfl, ⟨by decide, by decide, by decide +kernel⟩⟩
set_option maxRecDepth 20000 in
theorem kX0_24 : cv_ RX0 24 yX5_wouldEscape cX5_wouldEscape 2 (some .boolean) 1 := ⟨uw_in 448 rfl rfl, uw_in 356 rfl rfl, uw_in 357 rfl rfl, uw_in 3 rfl rfl, uw_in 358 rfl rfl, ⟨by decide, by decide, by decide +kernel⟩⟩
set_option maxRecDepth 20000 in
theorem kX0_27 : cv_ RX0 27 yX5_hasRoomToHide cX5_hasRoomToHide 2 (some .boolean) 1 := ⟨uw_in 426 rfl rfl, uw_in 227 rfl rfl, uw_in 228 rfl rfl, uw_in 3 rfl rfl, uw_in 229 rfl rfl, ⟨by decide, by decide, by decide +kernel⟩⟩
set_option maxRecDepth 20000 in
theorem kX0_30 : cs_ RX0 30 yX6_isSpot cX6_isSpot 1 (some .boolean) 1 := ⟨uw_in 427 rfl rfl, uw_in 251 rfl rfl, uw_in 9 rfl rfl, uw_in 252 rfl rfl, ⟨by decide, by decide, by decide +kernel⟩⟩
set_option maxRecDepth 20000 in
theorem kX0_33 : cs_ RX0 33 yX0_isBetterToHide cX0_isBetterToHide 3 (some .boolean) 3 := ⟨uw_in 428 rfl rfl, uw_in 429 rfl rfl, uw_in 13 rfl rfl, uw_in 430 rfl rfl, ⟨by decide, by decide, by decide +kernel⟩⟩
set_option maxRecDepth 20000 in
theorem kX0_39 : cs_ RX0 39 yX6_fromBase cX6_fromBase 1 (some .int) 1 := ⟨uw_in 431 rfl rfl, uw_in 235 rfl rfl, uw_in 9 rfl rfl, uw_in 236 rfl rfl, ⟨by decide, by decide, by decide +kernel⟩⟩
set_option maxRecDepth 20000 in
theorem kX0_47 : cv_ RX0 47 yX5_hiderCount cX5_hiderCount 2 (some .int) 1 := ⟨uw_in 432 rfl rfl, uw_in 258 rfl rfl, uw_in 259 rfl rfl, uw_in 3 rfl rfl, uw_in 260 rfl rfl, ⟨by decide, by decide, by decide +kernel⟩⟩
set_option maxRecDepth 20000 in
theorem kX0_50 : cs_ RX0 50 yX0_stepsDownForTheRest cX0_stepsDownForTheRest 6 (some .int) 2 := ⟨uw_in 456 rfl rfl, uw_in 457 rfl rfl, uw_in 13 rfl rfl, uw_in 458 rfl rfl, ⟨by decide, by decide, by decide +kernel⟩⟩
set_option maxRecDepth 20000 in
theorem kX0_54 : cs_ RX0 54 yJ9_min_7cf53 cJ9_min_7cf53 2 (some .int) 2 := ⟨uw_in 464 rfl rfl, uw_in 244 rfl rfl, uw_in 10 rfl rfl, uw_in 245 rfl rfl, ⟨by decide, by decide, by decide +kernel⟩⟩
set_option maxRecDepth 20000 in
theorem kX0_60 : cv_ RX0 60 yX5_isHidden cX5_isHidden 2 (some .boolean) 1 := ⟨uw_in 459 rfl rfl, uw_in 280 rfl rfl, uw_in 281 rfl rfl, uw_in 3 rfl rfl, uw_in 282 rfl rfl, ⟨by decide, by decide, by decide +kernel⟩⟩
set_option maxRecDepth 20000 in
theorem kX0_69 : cs_ RX0 69 yX6_stepsUp cX6_stepsUp 2 (some .int) 2 := ⟨uw_in 460 rfl rfl, uw_in 238 rfl rfl, uw_in 9 rfl rfl, uw_in 239 rfl rfl, ⟨by decide, by decide, by decide +kernel⟩⟩
set_option maxRecDepth 20000 in
theorem kX0_75 : cs_ RX0 75 yJ9_max_7cf53 cJ9_max_7cf53 2 (some .int) 2 := ⟨uw_in 461 rfl rfl, uw_in 462 rfl rfl, uw_in 10 rfl rfl, uw_in 463 rfl rfl, ⟨by decide, by decide, by decide +kernel⟩⟩
set_option maxRecDepth 20000 in
theorem kX2_103 : cv_ RX2 103 yX5_wouldEscape cX5_wouldEscape 2 (some .boolean) 1 := ⟨uw_in 355 rfl rfl, uw_in 356 rfl rfl, uw_in 357 rfl rfl, uw_in 3 rfl rfl, uw_in 358 rfl rfl, ⟨by decide, by decide, by decide +kernel⟩⟩
set_option maxRecDepth 20000 in
theorem kX2_106 : cs_ RX2 106 yX2_escape cX2_escape 3 none 3 := ⟨uw_in 339 rfl rfl, uw_in 340 rfl rfl, uw_in 8 rfl rfl, uw_in 341 rfl rfl, ⟨by decide, by decide, by decide +kernel⟩⟩
set_option maxRecDepth 20000 in
theorem kX2_118 : cv_ RX2 118 yX5_isRetired cX5_isRetired 2 (some .boolean) 1 := ⟨uw_in 305 rfl rfl, uw_in 247 rfl rfl, uw_in 248 rfl rfl, uw_in 3 rfl rfl, uw_in 249 rfl rfl, ⟨by decide, by decide, by decide +kernel⟩⟩
set_option maxRecDepth 20000 in
theorem kX2_130 : cs_ RX2 130 yX2_letAllEscape cX2_letAllEscape 2 none 1 := ⟨uw_in 336 rfl rfl, uw_in 337 rfl rfl, uw_in 8 rfl rfl, uw_in 338 rfl rfl, ⟨by decide, by decide, by decide +kernel⟩⟩
set_option maxRecDepth 20000 in
theorem kX2_133 : cs_ RX2 133 yX2_endRound cX2_endRound 2 none 1 := ⟨uw_in 302 rfl rfl, uw_in 303 rfl rfl, uw_in 8 rfl rfl, uw_in 304 rfl rfl, ⟨by decide, by decide, by decide +kernel⟩⟩
set_option maxRecDepth 20000 in
theorem kX2_142 : cs_ RX2 142 yX2_restSpot cX2_restSpot 3 none 2 := ⟨uw_in 306 rfl rfl, uw_in 307 rfl rfl, uw_in 8 rfl rfl, uw_in 308 rfl rfl, ⟨by decide, by decide, by decide +kernel⟩⟩
set_option maxRecDepth 20000 in
theorem kX2_32 : cv_ RX2 32 yX5_isPlayer cX5_isPlayer 2 (some .boolean) 1 := ⟨uw_in 219 rfl rfl, uw_in 220 rfl rfl, uw_in 221 rfl rfl, uw_in 3 rfl rfl, uw_in 222 rfl rfl, ⟨by decide, by decide, by decide +kernel⟩⟩
set_option maxRecDepth 20000 in
theorem kX2_44 : cs_ RX2 44 yX2_countHidingSpots cX2_countHidingSpots 3 (some .int) 1 := ⟨uw_in 223 rfl rfl, uw_in 224 rfl rfl, uw_in 8 rfl rfl, uw_in 225 rfl rfl, ⟨by decide, by decide, by decide +kernel⟩⟩
set_option maxRecDepth 20000 in
theorem kX2_52 : cv_ RX2 52 yX5_hasRoomToHide cX5_hasRoomToHide 2 (some .boolean) 1 := ⟨uw_in 226 rfl rfl, uw_in 227 rfl rfl, uw_in 228 rfl rfl, uw_in 3 rfl rfl, uw_in 229 rfl rfl, ⟨by decide, by decide, by decide +kernel⟩⟩
set_option maxRecDepth 20000 in
theorem kX2_55 : cs_ RX2 55 yX6_isSpot cX6_isSpot 1 (some .boolean) 1 := ⟨uw_in 278 rfl rfl, uw_in 251 rfl rfl, uw_in 9 rfl rfl, uw_in 252 rfl rfl, ⟨by decide, by decide, by decide +kernel⟩⟩
set_option maxRecDepth 20000 in
theorem kX2_58 : cv_ RX2 58 yX5_isHidden cX5_isHidden 2 (some .boolean) 1 := ⟨uw_in 279 rfl rfl, uw_in 280 rfl rfl, uw_in 281 rfl rfl, uw_in 3 rfl rfl, uw_in 282 rfl rfl, ⟨by decide, by decide, by decide +kernel⟩⟩
set_option maxRecDepth 20000 in
theorem kX2_61 : cv_ RX2 61 yX5_isHidingPlace cX5_isHidingPlace 2 (some .boolean) 1 := ⟨uw_in 284 rfl rfl, uw_in 231 rfl rfl, uw_in 232 rfl rfl, uw_in 3 rfl rfl, uw_in 233 rfl rfl, ⟨by decide, by decide, by decide +kernel⟩⟩
set_option maxRecDepth 20000 in
theorem kX2_64 : cv_ RX2 64 yX5_isFull cX5_isFull 2 (some .boolean) 1 := ⟨uw_in 285 rfl rfl, uw_in 254 rfl rfl, uw_in 255 rfl rfl, uw_in 3 rfl rfl, uw_in 256 rfl rfl, ⟨by decide, by decide, by decide +kernel⟩⟩
set_option maxRecDepth 20000 in
theorem kX2_70 : cs_ RX2 70 yX6_fromBase cX6_fromBase 1 (some .int) 1 := ⟨uw_in 286 rfl rfl, uw_in 235 rfl rfl, uw_in 9 rfl rfl, uw_in 236 rfl rfl, ⟨by decide, by decide, by decide +kernel⟩⟩
set_option maxRecDepth 20000 in
theorem kX2_77 : cv_ RX2 77 yX5_hiddenCount cX5_hiddenCount 3 (some .int) 0 := ⟨uw_in 294 rfl rfl, uw_in 295 rfl rfl, uw_in 296 rfl rfl, uw_in 3 rfl rfl, uw_in 297 rfl rfl, ⟨by decide, by decide, by decide +kernel⟩⟩
set_option maxRecDepth 20000 in
theorem kX2_81 : cs_ RX2 81 yX2_endRoundIfNobodyIsHidden cX2_endRoundIfNobodyIsHidden 1 none 1 := ⟨uw_in 299 rfl rfl, uw_in 300 rfl rfl, uw_in 8 rfl rfl, uw_in 301 rfl rfl, ⟨by decide, by decide, by decide +kernel⟩⟩
set_option maxRecDepth 20000 in
theorem kX2_85 : cs_ RX2 85 yX6_beside cX6_beside 2 (some .int) 2 := ⟨uw_in 316 rfl rfl, uw_in 317 rfl rfl, uw_in 9 rfl rfl, uw_in 318 rfl rfl, ⟨by decide, by decide, by decide +kernel⟩⟩
set_option maxRecDepth 20000 in
theorem kX2_89 : cv_ RX2 89 yX5_seekerSees cX5_seekerSees 2 (some .boolean) 1 := ⟨uw_in 326 rfl rfl, uw_in 327 rfl rfl, uw_in 328 rfl rfl, uw_in 3 rfl rfl, uw_in 329 rfl rfl, ⟨by decide, by decide, by decide +kernel⟩⟩
set_option maxRecDepth 20000 in
theorem kX2_9 : cs_ RX2 9 yX5_isSetting cX5_isSetting 1 (some .boolean) 1 := ⟨uw_in 185 rfl rfl, uw_in 186 rfl rfl, uw_in 3 rfl rfl, uw_in 187 rfl rfl, ⟨by decide, by decide, by decide +kernel⟩⟩
set_option maxRecDepth 20000 in
theorem kX2_92 : cs_ RX2 92 yX2_countFalseCry cX2_countFalseCry 1 none 1 := ⟨uw_in 333 rfl rfl, uw_in 334 rfl rfl, uw_in 8 rfl rfl, uw_in 335 rfl rfl, ⟨by decide, by decide, by decide +kernel⟩⟩
set_option maxRecDepth 20000 in
theorem kX2_95 : cs_ RX2 95 yX2_countFindOfSpot cX2_countFindOfSpot 3 none 2 := ⟨uw_in 342 rfl rfl, uw_in 343 rfl rfl, uw_in 8 rfl rfl, uw_in 344 rfl rfl, ⟨by decide, by decide, by decide +kernel⟩⟩
set_option maxRecDepth 20000 in
theorem kX2_99 : cs_ RX2 99 yX2_findPlayer cX2_findPlayer 3 none 3 := ⟨uw_in 345 rfl rfl, uw_in 346 rfl rfl, uw_in 8 rfl rfl, uw_in 347 rfl rfl, ⟨by decide, by decide, by decide +kernel⟩⟩
set_option maxRecDepth 20000 in
theorem kX4_22 : cs_ RX4 22 yX4_isAhead cX4_isAhead 3 (some .boolean) 3 := ⟨uw_in 400 rfl rfl, uw_in 401 rfl rfl, uw_in 12 rfl rfl, uw_in 402 rfl rfl, ⟨by decide, by decide, by decide +kernel⟩⟩
set_option maxRecDepth 20000 in
theorem kX4_28 : cs_ RX4 28 yX4_placeOf cX4_placeOf 4 (some .int) 2 := ⟨uw_in 410 rfl rfl, uw_in 398 rfl rfl, uw_in 12 rfl rfl, uw_in 399 rfl rfl, ⟨by decide, by decide, by decide +kernel⟩⟩
set_option maxRecDepth 20000 in
theorem kX4_32 : cv_ RX4 32 yX5_isPlayer cX5_isPlayer 2 (some .boolean) 1 := ⟨uw_in 475 rfl rfl, uw_in 220 rfl rfl, uw_in 221 rfl rfl, uw_in 3 rfl rfl, uw_in 222 rfl rfl, ⟨by decide, by decide, by decide +kernel⟩⟩
set_option maxRecDepth 20000 in
theorem kX4_36 : cs_ RX4 36 yX4_seeksSooner cX4_seeksSooner 3 (some .boolean) 3 := ⟨uw_in 476 rfl rfl, uw_in 477 rfl rfl, uw_in 12 rfl rfl, uw_in 478 rfl rfl, ⟨by decide, by decide, by decide +kernel⟩⟩
set_option maxRecDepth 20000 in
theorem kX5_100 : cv_ RX5 100 yX5_hiderCount cX5_hiderCount 2 (some .int) 1 := ⟨uw_in 257 rfl rfl, uw_in 258 rfl rfl, uw_in 259 rfl rfl, uw_in 3 rfl rfl, uw_in 260 rfl rfl, ⟨by decide, by decide, by decide +kernel⟩⟩
set_option maxRecDepth 20000 in
theorem kX5_103 : cv_ RX5 103 yX5_isHidingPlace cX5_isHidingPlace 2 (some .boolean) 1 := ⟨uw_in 230 rfl rfl, uw_in 231 rfl rfl, uw_in 232 rfl rfl, uw_in 3 rfl rfl, uw_in 233 rfl rfl, ⟨by decide, by decide, by decide +kernel⟩⟩
set_option maxRecDepth 20000 in
theorem kX5_106 : cv_ RX5 106 yX5_isFull cX5_isFull 2 (some .boolean) 1 := ⟨uw_in 253 rfl rfl, uw_in 254 rfl rfl, uw_in 255 rfl rfl, uw_in 3 rfl rfl, uw_in 256 rfl rfl, ⟨by decide, by decide, by decide +kernel⟩⟩
set_option maxRecDepth 20000 in
theorem kX5_109 : cs_ RX5 109 yX6_distance cX6_distance 2 (some .int) 2 := ⟨uw_in 330 rfl rfl, uw_in 331 rfl rfl, uw_in 9 rfl rfl, uw_in 332 rfl rfl, ⟨by decide, by decide, by decide +kernel⟩⟩
set_option maxRecDepth 20000 in
theorem kX5_75 : cv_ RX5 75 yX5_isPlayer cX5_isPlayer 2 (some .boolean) 1 := ⟨uw_in 283 rfl rfl, uw_in 220 rfl rfl, uw_in 221 rfl rfl, uw_in 3 rfl rfl, uw_in 222 rfl rfl, ⟨by decide, by decide, by decide +kernel⟩⟩
set_option maxRecDepth 20000 in
theorem kX5_79 : cv_ RX5 79 yX5_isHidden cX5_isHidden 2 (some .boolean) 1 := ⟨uw_in 298 rfl rfl, uw_in 280 rfl rfl, uw_in 281 rfl rfl, uw_in 3 rfl rfl, uw_in 282 rfl rfl, ⟨by decide, by decide, by decide +kernel⟩⟩
set_option maxRecDepth 20000 in
theorem kX5_82 : cv_ RX5 82 yX5_hidersAt cX5_hidersAt 4 (some .int) 1 := ⟨uw_in 261 rfl rfl, uw_in 262 rfl rfl, uw_in 263 rfl rfl, uw_in 3 rfl rfl, uw_in 264 rfl rfl, ⟨by decide, by decide, by decide +kernel⟩⟩
set_option maxRecDepth 20000 in
theorem kX5_86 : cs_ RX5 86 yJ6_bitCount_0f7a4 cJ6_bitCount_0f7a4 1 (some .int) 1 := ⟨uw_in 265 rfl rfl, uw_in 266 rfl rfl, uw_in 11 rfl rfl, uw_in 267 rfl rfl, ⟨by decide, by decide, by decide +kernel⟩⟩
set_option maxRecDepth 20000 in
theorem kX5_91 : cs_ RX5 91 yX6_isSpot cX6_isSpot 1 (some .boolean) 1 := ⟨uw_in 250 rfl rfl, uw_in 251 rfl rfl, uw_in 9 rfl rfl, uw_in 252 rfl rfl, ⟨by decide, by decide, by decide +kernel⟩⟩
set_option maxRecDepth 20000 in
theorem kX5_94 : cv_ RX5 94 yX5_isRetired cX5_isRetired 2 (some .boolean) 1 := ⟨uw_in 246 rfl rfl, uw_in 247 rfl rfl, uw_in 248 rfl rfl, uw_in 3 rfl rfl, uw_in 249 rfl rfl, ⟨by decide, by decide, by decide +kernel⟩⟩
set_option maxRecDepth 20000 in
theorem kX5_97 : cs_ RX5 97 yX6_fromBase cX6_fromBase 1 (some .int) 1 := ⟨uw_in 234 rfl rfl, uw_in 235 rfl rfl, uw_in 9 rfl rfl, uw_in 236 rfl rfl, ⟨by decide, by decide, by decide +kernel⟩⟩
set_option maxRecDepth 20000 in
theorem kX6_13 : cs_ RX6 13 yJ9_min_7cf53 cJ9_min_7cf53 2 (some .int) 2 := ⟨uw_in 243 rfl rfl, uw_in 244 rfl rfl, uw_in 10 rfl rfl, uw_in 245 rfl rfl, ⟨by decide, by decide, by decide +kernel⟩⟩
set_option maxRecDepth 20000 in
theorem kX6_18 : cs_ RX6 18 yJ9_floorMod_7cf53 cJ9_floorMod_7cf53 3 (some .int) 2 := ⟨uw_in 240 rfl rfl, uw_in 241 rfl rfl, uw_in 10 rfl rfl, uw_in 242 rfl rfl, ⟨by decide, by decide, by decide +kernel⟩⟩
set_option maxRecDepth 20000 in
theorem kX6_9 : cs_ RX6 9 yX6_stepsUp cX6_stepsUp 2 (some .int) 2 := ⟨uw_in 237 rfl rfl, uw_in 238 rfl rfl, uw_in 9 rfl rfl, uw_in 239 rfl rfl, ⟨by decide, by decide, by decide +kernel⟩⟩
end
section
def fX2_addPlayer (σ : sg_T) : Option (Int32 × sg_T) := (if (σ 0 2) = 0 then (if (σ 0 0) < (8 : Int32) then (some ((σ 0 0), (sg_a σ 0 (sg_u (σ 0) 0 ((σ 0 0) + (1 : Int32)))))) else (some ((-10004 : Int32), σ))) else (some ((-10003 : Int32), σ)))
set_option maxRecDepth 100000 in
set_option maxHeartbeats 4000000 in
theorem mX2_addPlayer (l : Launch) (D : va_G) (cI : ClassId) (h : Nat → Nat) (σ : sg_T) (r : Int32) (σ' : sg_T) (hrun : fX2_addPlayer σ = some (r, σ')) : me_I l D (tS cI) yX2_addPlayer cX2_addPlayer 2 .int 0 0 (wS cI h σ) [.ref (h 0)] r (wS cI h σ') := by
  refine me_ofI (plainFor_of_name (by decide)) (Nat.le_of_ble_eq_true rfl) ?_
  intro p e s m args below meth c A ls S hK Y hA hl hr hlk hZ
  have hx := S.1
  have hb := S.2.1
  have hl : lv_has ls 2 [(0, .ref (h 0))] := hl
  unfold fX2_addPlayer at hrun
  refine lv_aload_n hx hb dX2_addPlayer_0 rfl (lv_at hl 0 rfl) ?_
  refine ig S hK Y fX2_25 0 rfl (v := .int (σ 0 2)) rfl dX2_addPlayer_1 ?_
  refine lv_if_eq (tgt := 11) hx hb dX2_addPlayer_4 (by decide) (fun c_1 => ?_) (fun c_1 => ?_)
  · have hrun := o_t hrun c_1
    refine lv_aload_n hx hb dX2_addPlayer_11 rfl (lv_at hl 0 rfl) ?_
    refine ig S hK Y fX2_29 0 rfl (v := .int (σ 0 0)) rfl dX2_addPlayer_12 ?_
    refine lv_bipush (v := (8 : Int32)) hx hb dX2_addPlayer_15 (by decide) ?_
    refine lv_icmp_lt (tgt := 24) hx hb dX2_addPlayer_17 (by decide) (fun c_2 => ?_) (fun c_2 => ?_)
    · have hrun := o_t hrun c_2
      refine lv_aload_n hx hb dX2_addPlayer_24 rfl (lv_at hl 0 rfl) ?_
      refine ig S hK Y fX2_29 0 rfl (v := .int (σ 0 0)) rfl dX2_addPlayer_25 ?_
      refine lv_istore_n (lv' := [(1, .int (σ 0 0)), (0, .ref (h 0))]) hx hb dX2_addPlayer_28 rfl hl (Nat.le_of_ble_eq_true rfl) rfl (fun ls hl => ?_)
      refine lv_aload_n hx hb dX2_addPlayer_29 rfl (lv_at hl 1 rfl) ?_
      refine lv_iload_n hx hb dX2_addPlayer_30 rfl (lv_at hl 0 rfl) ?_
      refine lv_iconst (v := (1 : Int32)) hx hb dX2_addPlayer_31 (by decide) ?_
      refine lv_iadd hx hb dX2_addPlayer_32 ?_
      refine ip S hK Y fX2_29 fpX5 rfl 0 (fs := vS h (σ 0)) rfl rfl rfl (Nat.le_of_ble_eq_true rfl) (ws' := (wS cI h (sg_a σ 0 (sg_u (σ 0) 0 ((σ 0 0) + (1 : Int32)))))) (wS_f0 _ _ _ _) dX2_addPlayer_33 (fun H locs Y => ?_)
      refine lv_iload_n hx hb dX2_addPlayer_36 rfl (lv_at hl 0 rfl) ?_
      cases hrun
      exact me_ri S hK Y hr hlk rfl dX2_addPlayer_37
    · have hrun := o_f hrun c_2
      refine lv_sipush (v := (-10004 : Int32)) hx hb dX2_addPlayer_20 (by decide) ?_
      cases hrun
      exact me_ri S hK Y hr hlk rfl dX2_addPlayer_23
  · have hrun := o_f hrun c_1
    refine lv_sipush (v := (-10003 : Int32)) hx hb dX2_addPlayer_7 (by decide) ?_
    cases hrun
    exact me_ri S hK Y hr hlk rfl dX2_addPlayer_10
def fX2_escape (p1 p2 : Int32) (σ : sg_T) : Option (sg_T) := (o_x p1 8 (some ((sg_a (sg_a (sg_a σ 7 (upd (σ 7) (p1).toNatClampNeg (-10006 : Int32))) 2 (upd (σ 2) (p1).toNatClampNeg (((σ 2) (p1).toNatClampNeg) + p2))) 6 (upd (σ 6) (p1).toNatClampNeg (((σ 6) (p1).toNatClampNeg) + (1 : Int32)))))))
set_option maxRecDepth 100000 in
set_option maxHeartbeats 4000000 in
theorem mX2_escape (l : Launch) (D : va_G) (cI : ClassId) (h : Nat → Nat) (σ : sg_T) (p1 p2 : Int32) (σ' : sg_T) (hrun : fX2_escape p1 p2 σ = some σ') : me_V l D (tS cI) yX2_escape cX2_escape 3 0 0 (wS cI h σ) [.ref (h 0), .int p1, .int p2] (wS cI h σ') := by
  refine me_ofV (plainFor_of_name (by decide)) (Nat.le_of_ble_eq_true rfl) ?_
  intro p e s m args below meth c A ls S hK Y hA hl hr hlk hZ
  have hx := S.1
  have hb := S.2.1
  have hl : lv_has ls 3 [(0, .ref (h 0)), (1, .int p1), (2, .int p2)] := hl
  unfold fX2_escape at hrun
  refine lv_aload_n hx hb dX2_escape_0 rfl (lv_at hl 0 rfl) ?_
  refine ig S hK Y fX2_67 0 rfl (v := .ref (h 7)) rfl dX2_escape_1 ?_
  refine lv_iload_n hx hb dX2_escape_4 rfl (lv_at hl 1 rfl) ?_
  refine lv_sipush (v := (-10006 : Int32)) hx hb dX2_escape_5 (by decide) ?_
  obtain ⟨b_1, hrun⟩ := o_xh hrun
  refine iw S hK Y 7 0 (f := (σ 7)) rfl rfl b_1 (ws' := (wS cI h (sg_a σ 7 (upd (σ 7) (p1).toNatClampNeg (-10006 : Int32))))) (wS_a7 _ _ _) dX2_escape_8 (fun H locs Y => ?_)
  refine lv_aload_n hx hb dX2_escape_9 rfl (lv_at hl 0 rfl) ?_
  refine ig S hK Y fX2_109 0 rfl (v := .ref (h 2)) rfl dX2_escape_10 ?_
  refine lv_iload_n hx hb dX2_escape_13 rfl (lv_at hl 1 rfl) ?_
  refine lv_dup2_11 hx hb dX2_escape_14 rfl rfl ?_
  refine ia S hK Y 2 0 (f := (σ 2)) rfl rfl b_1 dX2_escape_15 ?_
  refine lv_iload_n hx hb dX2_escape_16 rfl (lv_at hl 2 rfl) ?_
  refine lv_iadd hx hb dX2_escape_17 ?_
  refine iw S hK Y 2 0 (f := (σ 2)) rfl rfl b_1 (ws' := (wS cI h (sg_a (sg_a σ 7 (upd (σ 7) (p1).toNatClampNeg (-10006 : Int32))) 2 (upd (σ 2) (p1).toNatClampNeg (((σ 2) (p1).toNatClampNeg) + p2))))) (wS_a2 _ _ _) dX2_escape_18 (fun H locs Y => ?_)
  refine lv_aload_n hx hb dX2_escape_19 rfl (lv_at hl 0 rfl) ?_
  refine ig S hK Y fX2_136 0 rfl (v := .ref (h 6)) rfl dX2_escape_20 ?_
  refine lv_iload_n hx hb dX2_escape_23 rfl (lv_at hl 1 rfl) ?_
  refine lv_dup2_11 hx hb dX2_escape_24 rfl rfl ?_
  refine ia S hK Y 6 0 (f := (σ 6)) rfl rfl b_1 dX2_escape_25 ?_
  refine lv_iconst (v := (1 : Int32)) hx hb dX2_escape_26 (by decide) ?_
  refine lv_iadd hx hb dX2_escape_27 ?_
  refine iw S hK Y 6 0 (f := (σ 6)) rfl rfl b_1 (ws' := (wS cI h (sg_a (sg_a (sg_a σ 7 (upd (σ 7) (p1).toNatClampNeg (-10006 : Int32))) 2 (upd (σ 2) (p1).toNatClampNeg (((σ 2) (p1).toNatClampNeg) + p2))) 6 (upd (σ 6) (p1).toNatClampNeg (((σ 6) (p1).toNatClampNeg) + (1 : Int32)))))) (wS_a6 _ _ _) dX2_escape_28 (fun H locs Y => ?_)
  cases hrun
  exact me_rv S hK Y hr hlk dX2_escape_29
def fX2_restSpot (p1 : Int32) (σ : sg_T) : Option (sg_T) := (o_x p1 16 (if ((σ 1) ((2 : Int32)).toNatClampNeg) = 0 then (some ((sg_a σ 9 (upd (σ 9) (p1).toNatClampNeg (((σ 9) (p1).toNatClampNeg) + (1 : Int32)))))) else (if ((upd (σ 9) (p1).toNatClampNeg (((σ 9) (p1).toNatClampNeg) + (1 : Int32))) (p1).toNatClampNeg) < ((σ 1) ((2 : Int32)).toNatClampNeg) then (some ((sg_a σ 9 (upd (σ 9) (p1).toNatClampNeg (((σ 9) (p1).toNatClampNeg) + (1 : Int32)))))) else (some ((sg_a (sg_a (sg_a σ 9 (upd (σ 9) (p1).toNatClampNeg (((σ 9) (p1).toNatClampNeg) + (1 : Int32)))) 9 (upd (upd (σ 9) (p1).toNatClampNeg (((σ 9) (p1).toNatClampNeg) + (1 : Int32))) (p1).toNatClampNeg (-1 : Int32))) 8 (upd (σ 8) (p1).toNatClampNeg (0 : Int32))))))))
set_option maxRecDepth 100000 in
set_option maxHeartbeats 4000000 in
theorem mX2_restSpot (l : Launch) (D : va_G) (cI : ClassId) (h : Nat → Nat) (σ : sg_T) (p1 : Int32) (σ' : sg_T) (hrun : fX2_restSpot p1 σ = some σ') : me_V l D (tS cI) yX2_restSpot cX2_restSpot 3 0 0 (wS cI h σ) [.ref (h 0), .int p1] (wS cI h σ') := by
  refine me_ofV (plainFor_of_name (by decide)) (Nat.le_of_ble_eq_true rfl) ?_
  intro p e s m args below meth c A ls S hK Y hA hl hr hlk hZ
  have hx := S.1
  have hb := S.2.1
  have hl : lv_has ls 3 [(0, .ref (h 0)), (1, .int p1)] := hl
  unfold fX2_restSpot at hrun
  refine lv_aload_n hx hb dX2_restSpot_0 rfl (lv_at hl 0 rfl) ?_
  refine ig S hK Y fX2_121 0 rfl (v := .ref (h 9)) rfl dX2_restSpot_1 ?_
  refine lv_iload_n hx hb dX2_restSpot_4 rfl (lv_at hl 1 rfl) ?_
  refine lv_dup2_11 hx hb dX2_restSpot_5 rfl rfl ?_
  obtain ⟨b_1, hrun⟩ := o_xh hrun
  refine ia S hK Y 9 0 (f := (σ 9)) rfl rfl b_1 dX2_restSpot_6 ?_
  refine lv_iconst (v := (1 : Int32)) hx hb dX2_restSpot_7 (by decide) ?_
  refine lv_iadd hx hb dX2_restSpot_8 ?_
  refine iw S hK Y 9 0 (f := (σ 9)) rfl rfl b_1 (ws' := (wS cI h (sg_a σ 9 (upd (σ 9) (p1).toNatClampNeg (((σ 9) (p1).toNatClampNeg) + (1 : Int32)))))) (wS_a9 _ _ _) dX2_restSpot_9 (fun H locs Y => ?_)
  refine lv_aload_n hx hb dX2_restSpot_10 rfl (lv_at hl 0 rfl) ?_
  refine ig S hK Y fX2_22 0 rfl (v := .ref (h 1)) rfl dX2_restSpot_11 ?_
  refine lv_iconst (v := (2 : Int32)) hx hb dX2_restSpot_14 (by decide) ?_
  refine ia S hK Y 1 0 (f := (σ 1)) rfl rfl (show ¬ ((2 : Int32) < 0 ∨ 4 ≤ ((2 : Int32)).toNatClampNeg) by decide) dX2_restSpot_15 ?_
  refine lv_istore_n (lv' := [(2, .int ((σ 1) ((2 : Int32)).toNatClampNeg)), (0, .ref (h 0)), (1, .int p1)]) hx hb dX2_restSpot_16 rfl hl (Nat.le_of_ble_eq_true rfl) rfl (fun ls hl => ?_)
  refine lv_iload_n hx hb dX2_restSpot_17 rfl (lv_at hl 0 rfl) ?_
  refine lv_if_eq (tgt := 45) hx hb dX2_restSpot_18 (by decide) (fun c_2 => ?_) (fun c_2 => ?_)
  · have hrun := o_t hrun c_2
    cases hrun
    exact me_rv S hK Y hr hlk dX2_restSpot_45
  · have hrun := o_f hrun c_2
    refine lv_aload_n hx hb dX2_restSpot_21 rfl (lv_at hl 1 rfl) ?_
    refine ig S hK Y fX2_121 0 rfl (v := .ref (h 9)) rfl dX2_restSpot_22 ?_
    refine lv_iload_n hx hb dX2_restSpot_25 rfl (lv_at hl 2 rfl) ?_
    refine ia S hK Y 9 0 (f := (upd (σ 9) (p1).toNatClampNeg (((σ 9) (p1).toNatClampNeg) + (1 : Int32)))) rfl rfl b_1 dX2_restSpot_26 ?_
    refine lv_iload_n hx hb dX2_restSpot_27 rfl (lv_at hl 0 rfl) ?_
    refine lv_icmp_lt (tgt := 45) hx hb dX2_restSpot_28 (by decide) (fun c_3 => ?_) (fun c_3 => ?_)
    · have hrun := o_t hrun c_3
      cases hrun
      exact me_rv S hK Y hr hlk dX2_restSpot_45
    · have hrun := o_f hrun c_3
      refine lv_aload_n hx hb dX2_restSpot_31 rfl (lv_at hl 1 rfl) ?_
      refine ig S hK Y fX2_121 0 rfl (v := .ref (h 9)) rfl dX2_restSpot_32 ?_
      refine lv_iload_n hx hb dX2_restSpot_35 rfl (lv_at hl 2 rfl) ?_
      refine lv_iconst (v := (-1 : Int32)) hx hb dX2_restSpot_36 (by decide) ?_
      refine iw S hK Y 9 0 (f := (upd (σ 9) (p1).toNatClampNeg (((σ 9) (p1).toNatClampNeg) + (1 : Int32)))) rfl rfl b_1 (ws' := (wS cI h (sg_a (sg_a σ 9 (upd (σ 9) (p1).toNatClampNeg (((σ 9) (p1).toNatClampNeg) + (1 : Int32)))) 9 (upd (upd (σ 9) (p1).toNatClampNeg (((σ 9) (p1).toNatClampNeg) + (1 : Int32))) (p1).toNatClampNeg (-1 : Int32))))) (wS_a9 _ _ _) dX2_restSpot_37 (fun H locs Y => ?_)
      refine lv_aload_n hx hb dX2_restSpot_38 rfl (lv_at hl 1 rfl) ?_
      refine ig S hK Y fX2_115 0 rfl (v := .ref (h 8)) rfl dX2_restSpot_39 ?_
      refine lv_iload_n hx hb dX2_restSpot_42 rfl (lv_at hl 2 rfl) ?_
      refine lv_iconst (v := (0 : Int32)) hx hb dX2_restSpot_43 (by decide) ?_
      refine iw S hK Y 8 0 (f := (σ 8)) rfl rfl b_1 (ws' := (wS cI h (sg_a (sg_a (sg_a σ 9 (upd (σ 9) (p1).toNatClampNeg (((σ 9) (p1).toNatClampNeg) + (1 : Int32)))) 9 (upd (upd (σ 9) (p1).toNatClampNeg (((σ 9) (p1).toNatClampNeg) + (1 : Int32))) (p1).toNatClampNeg (-1 : Int32))) 8 (upd (σ 8) (p1).toNatClampNeg (0 : Int32))))) (wS_a8 _ _ _) dX2_restSpot_44 (fun H locs Y => ?_)
      cases hrun
      exact me_rv S hK Y hr hlk dX2_restSpot_45
def fX4_isAhead (p1 p2 : Int32) (σ : sg_T) : Option (Int32) := (o_x p1 8 (o_x p2 8 (if ((σ 2) (p1).toNatClampNeg) = ((σ 2) (p2).toNatClampNeg) then (if ((σ 5) (p1).toNatClampNeg) = ((σ 5) (p2).toNatClampNeg) then (if p2 ≤ p1 then (some (0 : Int32)) else (some (1 : Int32))) else (if ((σ 5) (p2).toNatClampNeg) ≤ ((σ 5) (p1).toNatClampNeg) then (some (0 : Int32)) else (some (1 : Int32)))) else (if ((σ 2) (p1).toNatClampNeg) ≤ ((σ 2) (p2).toNatClampNeg) then (some (0 : Int32)) else (some (1 : Int32))))))
set_option maxRecDepth 100000 in
set_option maxHeartbeats 4000000 in
theorem mX4_isAhead (l : Launch) (D : va_G) (cI : ClassId) (h : Nat → Nat) (σ : sg_T) (p1 p2 : Int32) (r : Int32) (hrun : fX4_isAhead p1 p2 σ = some r) : me_I l D (tS cI) yX4_isAhead cX4_isAhead 3 .boolean 0 0 (wS cI h σ) [.ref (h 0), .int p1, .int p2] r (wS cI h σ) := by
  refine me_ofI (plainFor_of_name (by decide)) (Nat.le_of_ble_eq_true rfl) ?_
  intro p e s m args below meth c A ls S hK Y hA hl hr hlk hZ
  have hx := S.1
  have hb := S.2.1
  have hl : lv_has ls 3 [(0, .ref (h 0)), (1, .int p1), (2, .int p2)] := hl
  unfold fX4_isAhead at hrun
  refine lv_aload_n hx hb dX4_isAhead_0 rfl (lv_at hl 0 rfl) ?_
  refine ig S hK Y fX4_9 0 rfl (v := .ref (h 2)) rfl dX4_isAhead_1 ?_
  refine lv_iload_n hx hb dX4_isAhead_4 rfl (lv_at hl 1 rfl) ?_
  obtain ⟨b_1, hrun⟩ := o_xh hrun
  refine ia S hK Y 2 0 (f := (σ 2)) rfl rfl b_1 dX4_isAhead_5 ?_
  refine lv_aload_n hx hb dX4_isAhead_6 rfl (lv_at hl 0 rfl) ?_
  refine ig S hK Y fX4_9 0 rfl (v := .ref (h 2)) rfl dX4_isAhead_7 ?_
  refine lv_iload_n hx hb dX4_isAhead_10 rfl (lv_at hl 2 rfl) ?_
  obtain ⟨b_2, hrun⟩ := o_xh hrun
  refine ia S hK Y 2 0 (f := (σ 2)) rfl rfl b_2 dX4_isAhead_11 ?_
  refine lv_icmp_eq (tgt := 36) hx hb dX4_isAhead_12 (by decide) (fun c_3 => ?_) (fun c_3 => ?_)
  · have hrun := o_t hrun c_3
    refine lv_aload_n hx hb dX4_isAhead_36 rfl (lv_at hl 0 rfl) ?_
    refine ig S hK Y fX4_15 0 rfl (v := .ref (h 5)) rfl dX4_isAhead_37 ?_
    refine lv_iload_n hx hb dX4_isAhead_40 rfl (lv_at hl 1 rfl) ?_
    refine ia S hK Y 5 0 (f := (σ 5)) rfl rfl b_1 dX4_isAhead_41 ?_
    refine lv_aload_n hx hb dX4_isAhead_42 rfl (lv_at hl 0 rfl) ?_
    refine ig S hK Y fX4_15 0 rfl (v := .ref (h 5)) rfl dX4_isAhead_43 ?_
    refine lv_iload_n hx hb dX4_isAhead_46 rfl (lv_at hl 2 rfl) ?_
    refine ia S hK Y 5 0 (f := (σ 5)) rfl rfl b_2 dX4_isAhead_47 ?_
    refine lv_icmp_eq (tgt := 72) hx hb dX4_isAhead_48 (by decide) (fun c_4 => ?_) (fun c_4 => ?_)
    · have hrun := o_t hrun c_4
      refine lv_iload_n hx hb dX4_isAhead_72 rfl (lv_at hl 1 rfl) ?_
      refine lv_iload_n hx hb dX4_isAhead_73 rfl (lv_at hl 2 rfl) ?_
      refine lv_icmp_ge (tgt := 81) hx hb dX4_isAhead_74 (by decide) (fun c_5 => ?_) (fun c_5 => ?_)
      · have hrun := o_t hrun c_5
        refine lv_iconst (v := (0 : Int32)) hx hb dX4_isAhead_81 (by decide) ?_
        cases hrun
        exact me_ri S hK Y hr hlk rfl dX4_isAhead_82
      · have hrun := o_f hrun c_5
        refine lv_iconst (v := (1 : Int32)) hx hb dX4_isAhead_77 (by decide) ?_
        refine lv_goto (tgt := 82) hx hb dX4_isAhead_78 (by decide) ?_
        cases hrun
        exact me_ri S hK Y hr hlk rfl dX4_isAhead_82
    · have hrun := o_f hrun c_4
      refine lv_aload_n hx hb dX4_isAhead_51 rfl (lv_at hl 0 rfl) ?_
      refine ig S hK Y fX4_15 0 rfl (v := .ref (h 5)) rfl dX4_isAhead_52 ?_
      refine lv_iload_n hx hb dX4_isAhead_55 rfl (lv_at hl 1 rfl) ?_
      refine ia S hK Y 5 0 (f := (σ 5)) rfl rfl b_1 dX4_isAhead_56 ?_
      refine lv_aload_n hx hb dX4_isAhead_57 rfl (lv_at hl 0 rfl) ?_
      refine ig S hK Y fX4_15 0 rfl (v := .ref (h 5)) rfl dX4_isAhead_58 ?_
      refine lv_iload_n hx hb dX4_isAhead_61 rfl (lv_at hl 2 rfl) ?_
      refine ia S hK Y 5 0 (f := (σ 5)) rfl rfl b_2 dX4_isAhead_62 ?_
      refine lv_icmp_ge (tgt := 70) hx hb dX4_isAhead_63 (by decide) (fun c_6 => ?_) (fun c_6 => ?_)
      · have hrun := o_t hrun c_6
        refine lv_iconst (v := (0 : Int32)) hx hb dX4_isAhead_70 (by decide) ?_
        cases hrun
        exact me_ri S hK Y hr hlk rfl dX4_isAhead_71
      · have hrun := o_f hrun c_6
        refine lv_iconst (v := (1 : Int32)) hx hb dX4_isAhead_66 (by decide) ?_
        refine lv_goto (tgt := 71) hx hb dX4_isAhead_67 (by decide) ?_
        cases hrun
        exact me_ri S hK Y hr hlk rfl dX4_isAhead_71
  · have hrun := o_f hrun c_3
    refine lv_aload_n hx hb dX4_isAhead_15 rfl (lv_at hl 0 rfl) ?_
    refine ig S hK Y fX4_9 0 rfl (v := .ref (h 2)) rfl dX4_isAhead_16 ?_
    refine lv_iload_n hx hb dX4_isAhead_19 rfl (lv_at hl 1 rfl) ?_
    refine ia S hK Y 2 0 (f := (σ 2)) rfl rfl b_1 dX4_isAhead_20 ?_
    refine lv_aload_n hx hb dX4_isAhead_21 rfl (lv_at hl 0 rfl) ?_
    refine ig S hK Y fX4_9 0 rfl (v := .ref (h 2)) rfl dX4_isAhead_22 ?_
    refine lv_iload_n hx hb dX4_isAhead_25 rfl (lv_at hl 2 rfl) ?_
    refine ia S hK Y 2 0 (f := (σ 2)) rfl rfl b_2 dX4_isAhead_26 ?_
    refine lv_icmp_le (tgt := 34) hx hb dX4_isAhead_27 (by decide) (fun c_7 => ?_) (fun c_7 => ?_)
    · have hrun := o_t hrun c_7
      refine lv_iconst (v := (0 : Int32)) hx hb dX4_isAhead_34 (by decide) ?_
      cases hrun
      exact me_ri S hK Y hr hlk rfl dX4_isAhead_35
    · have hrun := o_f hrun c_7
      refine lv_iconst (v := (1 : Int32)) hx hb dX4_isAhead_30 (by decide) ?_
      refine lv_goto (tgt := 35) hx hb dX4_isAhead_31 (by decide) ?_
      cases hrun
      exact me_ri S hK Y hr hlk rfl dX4_isAhead_35
def lX4_placeOf_4 : Nat → Int32 → Int32 → Int32 → (sg_T) → Option (Int32)
  | 0, _, _, _, _ => none
  | n + 1, a1, a2, a3, σ => (if (σ 0 0) ≤ a3 then (some a2) else ((fX4_isAhead a3 a1 σ).bind fun r_2 => (if r_2 = 0 then (lX4_placeOf_4 n a1 a2 (a3 + (1 : Int32)) σ) else (lX4_placeOf_4 n a1 (a2 + (1 : Int32)) (a3 + (1 : Int32)) σ))))
def fX4_placeOf (p1 : Int32) (σ : sg_T) : Option (Int32) := (lX4_placeOf_4 70 p1 (0 : Int32) (0 : Int32) σ)
set_option maxRecDepth 100000 in
set_option maxHeartbeats 4000000 in
theorem mX4_placeOf (l : Launch) (D : va_G) (cI : ClassId) (h : Nat → Nat) (σ : sg_T) (p1 : Int32) (r : Int32) (hrun : fX4_placeOf p1 σ = some r) : me_I l D (tS cI) yX4_placeOf cX4_placeOf 4 .int 1 22 (wS cI h σ) [.ref (h 0), .int p1] r (wS cI h σ) := by
  refine me_ofI (plainFor_of_name (by decide)) (Nat.le_of_ble_eq_true rfl) ?_
  intro p e s m args below meth c A ls S hK Y hA hl hr hlk hZ
  have hx := S.1
  have hb := S.2.1
  have hl : lv_has ls 4 [(0, .ref (h 0)), (1, .int p1)] := hl
  have lp4 : ∀ (n : Nat) (a1 : Int32) (a2 : Int32) (a3 : Int32), lX4_placeOf_4 n a1 a2 a3 σ = some r → ∀ (H : Heap) (locs : List Loc) (ls : Array Slot), dy_ D A s (wS cI h σ) H locs → lv_has ls 4 [(0, .ref (h 0)), (1, .int a1), (2, .int a2), (3, .int a3)] → W p l e (rm_ 1 22) s m args below meth c H locs 0 0 (MQ below (me_Qi D (tS cI) A r (wS cI h σ)) args s 0 0 A) (F0 m 4 ls []) := by
    intro n
    induction n with
    | zero => intro a1 a2 a3 hrun; cases hrun
    | succ n ih =>
      intro a1 a2 a3 hrun H locs ls Y hl
      unfold lX4_placeOf_4 at hrun
      refine lv_iload_n hx hb dX4_placeOf_4 rfl (lv_at hl 3 rfl) ?_
      refine lv_aload_n hx hb dX4_placeOf_5 rfl (lv_at hl 0 rfl) ?_
      refine ig S hK Y fX4_18 0 rfl (v := .int (σ 0 0)) rfl dX4_placeOf_6 ?_
      refine lv_icmp_ge (tgt := 30) hx hb dX4_placeOf_9 (by decide) (fun c_1 => ?_) (fun c_1 => ?_)
      · have hrun := o_t hrun c_1
        refine lv_iload_n hx hb dX4_placeOf_30 rfl (lv_at hl 2 rfl) ?_
        cases hrun
        exact me_ri S hK Y hr hlk rfl dX4_placeOf_31
      · have hrun := o_f hrun c_1
        refine lv_aload_n hx hb dX4_placeOf_12 rfl (lv_at hl 0 rfl) ?_
        refine lv_iload_n hx hb dX4_placeOf_13 rfl (lv_at hl 3 rfl) ?_
        refine lv_iload_n hx hb dX4_placeOf_14 rfl (lv_at hl 1 rfl) ?_
        obtain ⟨r_2, e_3, hrun⟩ := o_bh hrun
        refine cf_s (As := [.ref (h 0), .int a3, .int a1]) (rest := []) S hK hA hZ Y hl.1 (mX4_isAhead l D cI h σ a3 a1 r_2 e_3) kX4_22 ⟨Nat.le_of_ble_eq_true rfl, Nat.le_of_ble_eq_true rfl⟩ rfl rfl (Nat.le_of_ble_eq_true rfl) ⟨Nat.le_of_ble_eq_true rfl, Nat.le_of_ble_eq_true rfl⟩ dX4_placeOf_15 (fun H locs Y => ?_)
        refine lv_if_eq (tgt := 24) hx hb dX4_placeOf_18 (by decide) (fun c_4 => ?_) (fun c_4 => ?_)
        · have hrun := o_t hrun c_4
          refine lv_iinc (v := (a3 + (1 : Int32))) (lv' := [(3, .int (a3 + (1 : Int32))), (0, .ref (h 0)), (1, .int a1), (2, .int a2)]) hx hb dX4_placeOf_24 hl (k := 3) rfl (by rfl) (Nat.le_of_ble_eq_true rfl) rfl (fun ls hl => ?_)
          refine lv_goto (tgt := 4) hx hb dX4_placeOf_27 (by decide) ?_
          exact ih a1 a2 (a3 + (1 : Int32)) hrun _ _ _ Y (lv_sub hl [1, 2, 3, 0] rfl)
        · have hrun := o_f hrun c_4
          refine lv_iinc (v := (a2 + (1 : Int32))) (lv' := [(2, .int (a2 + (1 : Int32))), (0, .ref (h 0)), (1, .int a1), (3, .int a3)]) hx hb dX4_placeOf_21 hl (k := 2) rfl (by rfl) (Nat.le_of_ble_eq_true rfl) rfl (fun ls hl => ?_)
          refine lv_iinc (v := (a3 + (1 : Int32))) (lv' := [(3, .int (a3 + (1 : Int32))), (2, .int (a2 + (1 : Int32))), (0, .ref (h 0)), (1, .int a1)]) hx hb dX4_placeOf_24 hl (k := 3) rfl (by rfl) (Nat.le_of_ble_eq_true rfl) rfl (fun ls hl => ?_)
          refine lv_goto (tgt := 4) hx hb dX4_placeOf_27 (by decide) ?_
          exact ih a1 (a2 + (1 : Int32)) (a3 + (1 : Int32)) hrun _ _ _ Y (lv_sub hl [2, 3, 1, 0] rfl)
  unfold fX4_placeOf at hrun
  refine lv_iconst (v := (0 : Int32)) hx hb dX4_placeOf_0 (by decide) ?_
  refine lv_istore_n (lv' := [(2, .int (0 : Int32)), (0, .ref (h 0)), (1, .int p1)]) hx hb dX4_placeOf_1 rfl hl (Nat.le_of_ble_eq_true rfl) rfl (fun ls hl => ?_)
  refine lv_iconst (v := (0 : Int32)) hx hb dX4_placeOf_2 (by decide) ?_
  refine lv_istore_n (lv' := [(3, .int (0 : Int32)), (2, .int (0 : Int32)), (0, .ref (h 0)), (1, .int p1)]) hx hb dX4_placeOf_3 rfl hl (Nat.le_of_ble_eq_true rfl) rfl (fun ls hl => ?_)
  exact lp4 70 p1 (0 : Int32) (0 : Int32) hrun _ _ _ Y (lv_sub hl [2, 3, 1, 0] rfl)
def lX4_playerAt_2 : Nat → Int32 → Int32 → (sg_T) → Option (Int32)
  | 0, _, _, _ => none
  | n + 1, a1, a2, σ => (if (σ 0 0) ≤ a2 then (some (-10001 : Int32)) else ((fX4_placeOf a2 σ).bind fun r_2 => (if r_2 = a1 then (some a2) else (lX4_playerAt_2 n a1 (a2 + (1 : Int32)) σ))))
def fX4_playerAt (p1 : Int32) (σ : sg_T) : Option (Int32) := (lX4_playerAt_2 70 p1 (0 : Int32) σ)
set_option maxRecDepth 100000 in
set_option maxHeartbeats 4000000 in
theorem mX4_playerAt (l : Launch) (D : va_G) (cI : ClassId) (h : Nat → Nat) (σ : sg_T) (p1 : Int32) (r : Int32) (hrun : fX4_playerAt p1 σ = some r) : me_I l D (tS cI) yX4_playerAt cX4_playerAt 3 .int 2 45 (wS cI h σ) [.ref (h 0), .int p1] r (wS cI h σ) := by
  refine me_ofI (plainFor_of_name (by decide)) (Nat.le_of_ble_eq_true rfl) ?_
  intro p e s m args below meth c A ls S hK Y hA hl hr hlk hZ
  have hx := S.1
  have hb := S.2.1
  have hl : lv_has ls 3 [(0, .ref (h 0)), (1, .int p1)] := hl
  have lp2 : ∀ (n : Nat) (a1 : Int32) (a2 : Int32), lX4_playerAt_2 n a1 a2 σ = some r → ∀ (H : Heap) (locs : List Loc) (ls : Array Slot), dy_ D A s (wS cI h σ) H locs → lv_has ls 3 [(0, .ref (h 0)), (1, .int a1), (2, .int a2)] → W p l e (rm_ 2 45) s m args below meth c H locs 0 0 (MQ below (me_Qi D (tS cI) A r (wS cI h σ)) args s 0 0 A) (F0 m 2 ls []) := by
    intro n
    induction n with
    | zero => intro a1 a2 hrun; cases hrun
    | succ n ih =>
      intro a1 a2 hrun H locs ls Y hl
      unfold lX4_playerAt_2 at hrun
      refine lv_iload_n hx hb dX4_playerAt_2 rfl (lv_at hl 2 rfl) ?_
      refine lv_aload_n hx hb dX4_playerAt_3 rfl (lv_at hl 0 rfl) ?_
      refine ig S hK Y fX4_18 0 rfl (v := .int (σ 0 0)) rfl dX4_playerAt_4 ?_
      refine lv_icmp_ge (tgt := 27) hx hb dX4_playerAt_7 (by decide) (fun c_1 => ?_) (fun c_1 => ?_)
      · have hrun := o_t hrun c_1
        refine lv_sipush (v := (-10001 : Int32)) hx hb dX4_playerAt_27 (by decide) ?_
        cases hrun
        exact me_ri S hK Y hr hlk rfl dX4_playerAt_30
      · have hrun := o_f hrun c_1
        refine lv_aload_n hx hb dX4_playerAt_10 rfl (lv_at hl 0 rfl) ?_
        refine lv_iload_n hx hb dX4_playerAt_11 rfl (lv_at hl 2 rfl) ?_
        obtain ⟨r_2, e_3, hrun⟩ := o_bh hrun
        refine cf_s (As := [.ref (h 0), .int a2]) (rest := []) S hK hA hZ Y hl.1 (mX4_placeOf l D cI h σ a2 r_2 e_3) kX4_28 ⟨Nat.le_of_ble_eq_true rfl, Nat.le_of_ble_eq_true rfl⟩ rfl rfl (Nat.le_of_ble_eq_true rfl) ⟨Nat.le_of_ble_eq_true rfl, Nat.le_of_ble_eq_true rfl⟩ dX4_playerAt_12 (fun H locs Y => ?_)
        refine lv_iload_n hx hb dX4_playerAt_15 rfl (lv_at hl 1 rfl) ?_
        refine lv_icmp_ne (tgt := 21) hx hb dX4_playerAt_16 (by decide) (fun c_4 => ?_) (fun c_4 => ?_)
        · have hrun := o_f hrun c_4
          refine lv_iinc (v := (a2 + (1 : Int32))) (lv' := [(2, .int (a2 + (1 : Int32))), (0, .ref (h 0)), (1, .int a1)]) hx hb dX4_playerAt_21 hl (k := 2) rfl (by rfl) (Nat.le_of_ble_eq_true rfl) rfl (fun ls hl => ?_)
          refine lv_goto (tgt := 2) hx hb dX4_playerAt_24 (by decide) ?_
          exact ih a1 (a2 + (1 : Int32)) hrun _ _ _ Y (lv_sub hl [1, 2, 0] rfl)
        · have hrun := o_t hrun c_4
          refine lv_iload_n hx hb dX4_playerAt_19 rfl (lv_at hl 2 rfl) ?_
          cases hrun
          exact me_ri S hK Y hr hlk rfl dX4_playerAt_20
  unfold fX4_playerAt at hrun
  refine lv_iconst (v := (0 : Int32)) hx hb dX4_playerAt_0 (by decide) ?_
  refine lv_istore_n (lv' := [(2, .int (0 : Int32)), (0, .ref (h 0)), (1, .int p1)]) hx hb dX4_playerAt_1 rfl hl (Nat.le_of_ble_eq_true rfl) rfl (fun ls hl => ?_)
  exact lp2 70 p1 (0 : Int32) hrun _ _ _ Y (lv_sub hl [1, 2, 0] rfl)
def fX4_seeksSooner (p1 p2 : Int32) (σ : sg_T) : Option (Int32) := (o_x p1 8 (o_x p2 8 (if ((σ 3) (p1).toNatClampNeg) = ((σ 3) (p2).toNatClampNeg) then ((fX4_isAhead p2 p1 σ).bind fun r_4 => (o_k (r_4 = 0 ∨ r_4 = 1) (some r_4))) else (if ((σ 3) (p2).toNatClampNeg) ≤ ((σ 3) (p1).toNatClampNeg) then (some (0 : Int32)) else (some (1 : Int32))))))
set_option maxRecDepth 100000 in
set_option maxHeartbeats 4000000 in
theorem mX4_seeksSooner (l : Launch) (D : va_G) (cI : ClassId) (h : Nat → Nat) (σ : sg_T) (p1 p2 : Int32) (r : Int32) (hrun : fX4_seeksSooner p1 p2 σ = some r) : me_I l D (tS cI) yX4_seeksSooner cX4_seeksSooner 3 .boolean 1 22 (wS cI h σ) [.ref (h 0), .int p1, .int p2] r (wS cI h σ) := by
  refine me_ofI (plainFor_of_name (by decide)) (Nat.le_of_ble_eq_true rfl) ?_
  intro p e s m args below meth c A ls S hK Y hA hl hr hlk hZ
  have hx := S.1
  have hb := S.2.1
  have hl : lv_has ls 3 [(0, .ref (h 0)), (1, .int p1), (2, .int p2)] := hl
  unfold fX4_seeksSooner at hrun
  refine lv_aload_n hx hb dX4_seeksSooner_0 rfl (lv_at hl 0 rfl) ?_
  refine ig S hK Y fX4_39 0 rfl (v := .ref (h 3)) rfl dX4_seeksSooner_1 ?_
  refine lv_iload_n hx hb dX4_seeksSooner_4 rfl (lv_at hl 1 rfl) ?_
  obtain ⟨b_1, hrun⟩ := o_xh hrun
  refine ia S hK Y 3 0 (f := (σ 3)) rfl rfl b_1 dX4_seeksSooner_5 ?_
  refine lv_aload_n hx hb dX4_seeksSooner_6 rfl (lv_at hl 0 rfl) ?_
  refine ig S hK Y fX4_39 0 rfl (v := .ref (h 3)) rfl dX4_seeksSooner_7 ?_
  refine lv_iload_n hx hb dX4_seeksSooner_10 rfl (lv_at hl 2 rfl) ?_
  obtain ⟨b_2, hrun⟩ := o_xh hrun
  refine ia S hK Y 3 0 (f := (σ 3)) rfl rfl b_2 dX4_seeksSooner_11 ?_
  refine lv_icmp_eq (tgt := 36) hx hb dX4_seeksSooner_12 (by decide) (fun c_3 => ?_) (fun c_3 => ?_)
  · have hrun := o_t hrun c_3
    refine lv_aload_n hx hb dX4_seeksSooner_36 rfl (lv_at hl 0 rfl) ?_
    refine lv_iload_n hx hb dX4_seeksSooner_37 rfl (lv_at hl 2 rfl) ?_
    refine lv_iload_n hx hb dX4_seeksSooner_38 rfl (lv_at hl 1 rfl) ?_
    obtain ⟨r_4, e_5, hrun⟩ := o_bh hrun
    refine cf_s (As := [.ref (h 0), .int p2, .int p1]) (rest := []) S hK hA hZ Y hl.1 (mX4_isAhead l D cI h σ p2 p1 r_4 e_5) kX4_22 ⟨Nat.le_of_ble_eq_true rfl, Nat.le_of_ble_eq_true rfl⟩ rfl rfl (Nat.le_of_ble_eq_true rfl) ⟨Nat.le_of_ble_eq_true rfl, Nat.le_of_ble_eq_true rfl⟩ dX4_seeksSooner_39 (fun H locs Y => ?_)
    obtain ⟨c_6, hrun⟩ := o_kh hrun
    cases hrun
    exact me_ri S hK Y hr hlk (nb_ c_6) dX4_seeksSooner_42
  · have hrun := o_f hrun c_3
    refine lv_aload_n hx hb dX4_seeksSooner_15 rfl (lv_at hl 0 rfl) ?_
    refine ig S hK Y fX4_39 0 rfl (v := .ref (h 3)) rfl dX4_seeksSooner_16 ?_
    refine lv_iload_n hx hb dX4_seeksSooner_19 rfl (lv_at hl 1 rfl) ?_
    refine ia S hK Y 3 0 (f := (σ 3)) rfl rfl b_1 dX4_seeksSooner_20 ?_
    refine lv_aload_n hx hb dX4_seeksSooner_21 rfl (lv_at hl 0 rfl) ?_
    refine ig S hK Y fX4_39 0 rfl (v := .ref (h 3)) rfl dX4_seeksSooner_22 ?_
    refine lv_iload_n hx hb dX4_seeksSooner_25 rfl (lv_at hl 2 rfl) ?_
    refine ia S hK Y 3 0 (f := (σ 3)) rfl rfl b_2 dX4_seeksSooner_26 ?_
    refine lv_icmp_ge (tgt := 34) hx hb dX4_seeksSooner_27 (by decide) (fun c_7 => ?_) (fun c_7 => ?_)
    · have hrun := o_t hrun c_7
      refine lv_iconst (v := (0 : Int32)) hx hb dX4_seeksSooner_34 (by decide) ?_
      cases hrun
      exact me_ri S hK Y hr hlk rfl dX4_seeksSooner_35
    · have hrun := o_f hrun c_7
      refine lv_iconst (v := (1 : Int32)) hx hb dX4_seeksSooner_30 (by decide) ?_
      refine lv_goto (tgt := 35) hx hb dX4_seeksSooner_31 (by decide) ?_
      cases hrun
      exact me_ri S hK Y hr hlk rfl dX4_seeksSooner_35
def fX5_isSetting (p0 : Int32) : Option Int32 := (if p0 < 0 then (some (0 : Int32)) else (if (3 : Int32) < p0 then (some (0 : Int32)) else (some (1 : Int32))))
set_option maxRecDepth 100000 in
set_option maxHeartbeats 4000000 in
theorem mX5_isSetting (l : Launch) (D : va_G) (p0 : Int32) (r : Int32) (hrun : fX5_isSetting p0 = some r) : me_I l D [] yX5_isSetting cX5_isSetting 1 .boolean 0 0 [] [.int p0] r [] := by
  refine me_ofI (plainFor_of_name (by decide)) (Nat.le_of_ble_eq_true rfl) ?_
  intro p e s m args below meth c A ls S hK Y hA hl hr hlk hZ
  have hx := S.1
  have hb := S.2.1
  have hl : lv_has ls 1 [(0, .int p0)] := hl
  unfold fX5_isSetting at hrun
  refine lv_iload_n hx hb dX5_isSetting_0 rfl (lv_at hl 0 rfl) ?_
  refine lv_if_lt (tgt := 13) hx hb dX5_isSetting_1 (by decide) (fun c_1 => ?_) (fun c_1 => ?_)
  · have hrun := o_t hrun c_1
    refine lv_iconst (v := (0 : Int32)) hx hb dX5_isSetting_13 (by decide) ?_
    cases hrun
    exact me_ri S hK Y hr hlk rfl dX5_isSetting_14
  · have hrun := o_f hrun c_1
    refine lv_iload_n hx hb dX5_isSetting_4 rfl (lv_at hl 0 rfl) ?_
    refine lv_iconst (v := (3 : Int32)) hx hb dX5_isSetting_5 (by decide) ?_
    refine lv_icmp_gt (tgt := 13) hx hb dX5_isSetting_6 (by decide) (fun c_2 => ?_) (fun c_2 => ?_)
    · have hrun := o_t hrun c_2
      refine lv_iconst (v := (0 : Int32)) hx hb dX5_isSetting_13 (by decide) ?_
      cases hrun
      exact me_ri S hK Y hr hlk rfl dX5_isSetting_14
    · have hrun := o_f hrun c_2
      refine lv_iconst (v := (1 : Int32)) hx hb dX5_isSetting_9 (by decide) ?_
      refine lv_goto (tgt := 14) hx hb dX5_isSetting_10 (by decide) ?_
      cases hrun
      exact me_ri S hK Y hr hlk rfl dX5_isSetting_14
def fX5_isPlayer (p1 : Int32) (σ : sg_T) : Option (Int32) := (if p1 < 0 then (some (0 : Int32)) else (if (σ 0 0) ≤ p1 then (some (0 : Int32)) else (some (1 : Int32))))
set_option maxRecDepth 100000 in
set_option maxHeartbeats 4000000 in
theorem mX5_isPlayer (l : Launch) (D : va_G) (cI : ClassId) (h : Nat → Nat) (σ : sg_T) (p1 : Int32) (r : Int32) (hrun : fX5_isPlayer p1 σ = some r) : me_I l D (tS cI) yX5_isPlayer cX5_isPlayer 2 .boolean 0 0 (wS cI h σ) [.ref (h 0), .int p1] r (wS cI h σ) := by
  refine me_ofI (plainFor_of_name (by decide)) (Nat.le_of_ble_eq_true rfl) ?_
  intro p e s m args below meth c A ls S hK Y hA hl hr hlk hZ
  have hx := S.1
  have hb := S.2.1
  have hl : lv_has ls 2 [(0, .ref (h 0)), (1, .int p1)] := hl
  unfold fX5_isPlayer at hrun
  refine lv_iload_n hx hb dX5_isPlayer_0 rfl (lv_at hl 1 rfl) ?_
  refine lv_if_lt (tgt := 16) hx hb dX5_isPlayer_1 (by decide) (fun c_1 => ?_) (fun c_1 => ?_)
  · have hrun := o_t hrun c_1
    refine lv_iconst (v := (0 : Int32)) hx hb dX5_isPlayer_16 (by decide) ?_
    cases hrun
    exact me_ri S hK Y hr hlk rfl dX5_isPlayer_17
  · have hrun := o_f hrun c_1
    refine lv_iload_n hx hb dX5_isPlayer_4 rfl (lv_at hl 1 rfl) ?_
    refine lv_aload_n hx hb dX5_isPlayer_5 rfl (lv_at hl 0 rfl) ?_
    refine ig S hK Y fX5_41 0 rfl (v := .int (σ 0 0)) rfl dX5_isPlayer_6 ?_
    refine lv_icmp_ge (tgt := 16) hx hb dX5_isPlayer_9 (by decide) (fun c_2 => ?_) (fun c_2 => ?_)
    · have hrun := o_t hrun c_2
      refine lv_iconst (v := (0 : Int32)) hx hb dX5_isPlayer_16 (by decide) ?_
      cases hrun
      exact me_ri S hK Y hr hlk rfl dX5_isPlayer_17
    · have hrun := o_f hrun c_2
      refine lv_iconst (v := (1 : Int32)) hx hb dX5_isPlayer_12 (by decide) ?_
      refine lv_goto (tgt := 17) hx hb dX5_isPlayer_13 (by decide) ?_
      cases hrun
      exact me_ri S hK Y hr hlk rfl dX5_isPlayer_17
def fX5_isHidden (p1 : Int32) (σ : sg_T) : Option (Int32) := ((fX5_isPlayer p1 σ).bind fun r_1 => (if r_1 = 0 then (some (0 : Int32)) else (o_x p1 8 (if ((σ 7) (p1).toNatClampNeg) = (-10006 : Int32) then (some (0 : Int32)) else (some (1 : Int32))))))
set_option maxRecDepth 100000 in
set_option maxHeartbeats 4000000 in
theorem mX5_isHidden (l : Launch) (D : va_G) (cI : ClassId) (h : Nat → Nat) (σ : sg_T) (p1 : Int32) (r : Int32) (hrun : fX5_isHidden p1 σ = some r) : me_I l D (tS cI) yX5_isHidden cX5_isHidden 2 .boolean 1 21 (wS cI h σ) [.ref (h 0), .int p1] r (wS cI h σ) := by
  refine me_ofI (plainFor_of_name (by decide)) (Nat.le_of_ble_eq_true rfl) ?_
  intro p e s m args below meth c A ls S hK Y hA hl hr hlk hZ
  have hx := S.1
  have hb := S.2.1
  have hl : lv_has ls 2 [(0, .ref (h 0)), (1, .int p1)] := hl
  unfold fX5_isHidden at hrun
  refine lv_aload_n hx hb dX5_isHidden_0 rfl (lv_at hl 0 rfl) ?_
  refine lv_iload_n hx hb dX5_isHidden_1 rfl (lv_at hl 1 rfl) ?_
  obtain ⟨r_1, e_2, hrun⟩ := o_bh hrun
  refine cf_v (As := [.int p1]) (rest := []) S hK hA hZ Y hl.1 (mX5_isPlayer l D cI h σ p1 r_1 e_2) kX5_75 (T := TX5) (N := 16) rfl (q0 := 0) rfl ⟨Nat.le_of_ble_eq_true rfl, Nat.le_of_ble_eq_true rfl⟩ rfl rfl (Nat.le_of_ble_eq_true rfl) ⟨Nat.le_of_ble_eq_true rfl, Nat.le_of_ble_eq_true rfl⟩ dX5_isHidden_2 (fun H locs Y => ?_)
  refine lv_if_eq (tgt := 24) hx hb dX5_isHidden_5 (by decide) (fun c_3 => ?_) (fun c_3 => ?_)
  · have hrun := o_t hrun c_3
    refine lv_iconst (v := (0 : Int32)) hx hb dX5_isHidden_24 (by decide) ?_
    cases hrun
    exact me_ri S hK Y hr hlk rfl dX5_isHidden_25
  · have hrun := o_f hrun c_3
    refine lv_aload_n hx hb dX5_isHidden_8 rfl (lv_at hl 0 rfl) ?_
    refine ig S hK Y fX5_30 0 rfl (v := .ref (h 7)) rfl dX5_isHidden_9 ?_
    refine lv_iload_n hx hb dX5_isHidden_12 rfl (lv_at hl 1 rfl) ?_
    obtain ⟨b_4, hrun⟩ := o_xh hrun
    refine ia S hK Y 7 0 (f := (σ 7)) rfl rfl b_4 dX5_isHidden_13 ?_
    refine lv_sipush (v := (-10006 : Int32)) hx hb dX5_isHidden_14 (by decide) ?_
    refine lv_icmp_eq (tgt := 24) hx hb dX5_isHidden_17 (by decide) (fun c_5 => ?_) (fun c_5 => ?_)
    · have hrun := o_t hrun c_5
      refine lv_iconst (v := (0 : Int32)) hx hb dX5_isHidden_24 (by decide) ?_
      cases hrun
      exact me_ri S hK Y hr hlk rfl dX5_isHidden_25
    · have hrun := o_f hrun c_5
      refine lv_iconst (v := (1 : Int32)) hx hb dX5_isHidden_20 (by decide) ?_
      refine lv_goto (tgt := 25) hx hb dX5_isHidden_21 (by decide) ?_
      cases hrun
      exact me_ri S hK Y hr hlk rfl dX5_isHidden_25
def lX5_hiddenCount_4 : Nat → Int32 → Int32 → (sg_T) → Option (Int32)
  | 0, _, _, _ => none
  | n + 1, a1, a2, σ => (if (σ 0 0) ≤ a2 then (some a1) else ((fX5_isHidden a2 σ).bind fun r_2 => (if r_2 = 0 then (lX5_hiddenCount_4 n a1 (a2 + (1 : Int32)) σ) else (lX5_hiddenCount_4 n (a1 + (1 : Int32)) (a2 + (1 : Int32)) σ))))
def fX5_hiddenCount (σ : sg_T) : Option (Int32) := (lX5_hiddenCount_4 70 (0 : Int32) (0 : Int32) σ)
set_option maxRecDepth 100000 in
set_option maxHeartbeats 4000000 in
theorem mX5_hiddenCount (l : Launch) (D : va_G) (cI : ClassId) (h : Nat → Nat) (σ : sg_T) (r : Int32) (hrun : fX5_hiddenCount σ = some r) : me_I l D (tS cI) yX5_hiddenCount cX5_hiddenCount 3 .int 2 42 (wS cI h σ) [.ref (h 0)] r (wS cI h σ) := by
  refine me_ofI (plainFor_of_name (by decide)) (Nat.le_of_ble_eq_true rfl) ?_
  intro p e s m args below meth c A ls S hK Y hA hl hr hlk hZ
  have hx := S.1
  have hb := S.2.1
  have hl : lv_has ls 3 [(0, .ref (h 0))] := hl
  have lp4 : ∀ (n : Nat) (a1 : Int32) (a2 : Int32), lX5_hiddenCount_4 n a1 a2 σ = some r → ∀ (H : Heap) (locs : List Loc) (ls : Array Slot), dy_ D A s (wS cI h σ) H locs → lv_has ls 3 [(0, .ref (h 0)), (1, .int a1), (2, .int a2)] → W p l e (rm_ 2 42) s m args below meth c H locs 0 0 (MQ below (me_Qi D (tS cI) A r (wS cI h σ)) args s 0 0 A) (F0 m 4 ls []) := by
    intro n
    induction n with
    | zero => intro a1 a2 hrun; cases hrun
    | succ n ih =>
      intro a1 a2 hrun H locs ls Y hl
      unfold lX5_hiddenCount_4 at hrun
      refine lv_iload_n hx hb dX5_hiddenCount_4 rfl (lv_at hl 2 rfl) ?_
      refine lv_aload_n hx hb dX5_hiddenCount_5 rfl (lv_at hl 0 rfl) ?_
      refine ig S hK Y fX5_41 0 rfl (v := .int (σ 0 0)) rfl dX5_hiddenCount_6 ?_
      refine lv_icmp_ge (tgt := 29) hx hb dX5_hiddenCount_9 (by decide) (fun c_1 => ?_) (fun c_1 => ?_)
      · have hrun := o_t hrun c_1
        refine lv_iload_n hx hb dX5_hiddenCount_29 rfl (lv_at hl 1 rfl) ?_
        cases hrun
        exact me_ri S hK Y hr hlk rfl dX5_hiddenCount_30
      · have hrun := o_f hrun c_1
        refine lv_aload_n hx hb dX5_hiddenCount_12 rfl (lv_at hl 0 rfl) ?_
        refine lv_iload_n hx hb dX5_hiddenCount_13 rfl (lv_at hl 2 rfl) ?_
        obtain ⟨r_2, e_3, hrun⟩ := o_bh hrun
        refine cf_v (As := [.int a2]) (rest := []) S hK hA hZ Y hl.1 (mX5_isHidden l D cI h σ a2 r_2 e_3) kX5_79 (T := TX5) (N := 16) rfl (q0 := 0) rfl ⟨Nat.le_of_ble_eq_true rfl, Nat.le_of_ble_eq_true rfl⟩ rfl rfl (Nat.le_of_ble_eq_true rfl) ⟨Nat.le_of_ble_eq_true rfl, Nat.le_of_ble_eq_true rfl⟩ dX5_hiddenCount_14 (fun H locs Y => ?_)
        refine lv_if_eq (tgt := 23) hx hb dX5_hiddenCount_17 (by decide) (fun c_4 => ?_) (fun c_4 => ?_)
        · have hrun := o_t hrun c_4
          refine lv_iinc (v := (a2 + (1 : Int32))) (lv' := [(2, .int (a2 + (1 : Int32))), (0, .ref (h 0)), (1, .int a1)]) hx hb dX5_hiddenCount_23 hl (k := 2) rfl (by rfl) (Nat.le_of_ble_eq_true rfl) rfl (fun ls hl => ?_)
          refine lv_goto (tgt := 4) hx hb dX5_hiddenCount_26 (by decide) ?_
          exact ih a1 (a2 + (1 : Int32)) hrun _ _ _ Y (lv_sub hl [1, 2, 0] rfl)
        · have hrun := o_f hrun c_4
          refine lv_iinc (v := (a1 + (1 : Int32))) (lv' := [(1, .int (a1 + (1 : Int32))), (0, .ref (h 0)), (2, .int a2)]) hx hb dX5_hiddenCount_20 hl (k := 1) rfl (by rfl) (Nat.le_of_ble_eq_true rfl) rfl (fun ls hl => ?_)
          refine lv_iinc (v := (a2 + (1 : Int32))) (lv' := [(2, .int (a2 + (1 : Int32))), (1, .int (a1 + (1 : Int32))), (0, .ref (h 0))]) hx hb dX5_hiddenCount_23 hl (k := 2) rfl (by rfl) (Nat.le_of_ble_eq_true rfl) rfl (fun ls hl => ?_)
          refine lv_goto (tgt := 4) hx hb dX5_hiddenCount_26 (by decide) ?_
          exact ih (a1 + (1 : Int32)) (a2 + (1 : Int32)) hrun _ _ _ Y (lv_sub hl [2, 1, 0] rfl)
  unfold fX5_hiddenCount at hrun
  refine lv_iconst (v := (0 : Int32)) hx hb dX5_hiddenCount_0 (by decide) ?_
  refine lv_istore_n (lv' := [(1, .int (0 : Int32)), (0, .ref (h 0))]) hx hb dX5_hiddenCount_1 rfl hl (Nat.le_of_ble_eq_true rfl) rfl (fun ls hl => ?_)
  refine lv_iconst (v := (0 : Int32)) hx hb dX5_hiddenCount_2 (by decide) ?_
  refine lv_istore_n (lv' := [(2, .int (0 : Int32)), (1, .int (0 : Int32)), (0, .ref (h 0))]) hx hb dX5_hiddenCount_3 rfl hl (Nat.le_of_ble_eq_true rfl) rfl (fun ls hl => ?_)
  exact lp4 70 (0 : Int32) (0 : Int32) hrun _ _ _ Y (lv_sub hl [2, 1, 0] rfl)
def lX5_hidersAt_4 : Nat → Int32 → Int32 → Int32 → (sg_T) → Option (Int32)
  | 0, _, _, _, _ => none
  | n + 1, a1, a2, a3, σ => (if (σ 0 0) ≤ a3 then (some a2) else (o_x a3 8 (if ((σ 7) (a3).toNatClampNeg) = a1 then (lX5_hidersAt_4 n a1 (a2 ||| ((1 : Int32) <<< (a3 &&& 31))) (a3 + (1 : Int32)) σ) else (lX5_hidersAt_4 n a1 a2 (a3 + (1 : Int32)) σ))))
def fX5_hidersAt (p1 : Int32) (σ : sg_T) : Option (Int32) := (lX5_hidersAt_4 70 p1 (0 : Int32) (0 : Int32) σ)
set_option maxRecDepth 100000 in
set_option maxHeartbeats 4000000 in
theorem mX5_hidersAt (l : Launch) (D : va_G) (cI : ClassId) (h : Nat → Nat) (σ : sg_T) (p1 : Int32) (r : Int32) (hrun : fX5_hidersAt p1 σ = some r) : me_I l D (tS cI) yX5_hidersAt cX5_hidersAt 4 .int 0 0 (wS cI h σ) [.ref (h 0), .int p1] r (wS cI h σ) := by
  refine me_ofI (plainFor_of_name (by decide)) (Nat.le_of_ble_eq_true rfl) ?_
  intro p e s m args below meth c A ls S hK Y hA hl hr hlk hZ
  have hx := S.1
  have hb := S.2.1
  have hl : lv_has ls 4 [(0, .ref (h 0)), (1, .int p1)] := hl
  have lp4 : ∀ (n : Nat) (a1 : Int32) (a2 : Int32) (a3 : Int32), lX5_hidersAt_4 n a1 a2 a3 σ = some r → ∀ (H : Heap) (locs : List Loc) (ls : Array Slot), dy_ D A s (wS cI h σ) H locs → lv_has ls 4 [(0, .ref (h 0)), (1, .int a1), (2, .int a2), (3, .int a3)] → W p l e (rm_ 0 0) s m args below meth c H locs 0 0 (MQ below (me_Qi D (tS cI) A r (wS cI h σ)) args s 0 0 A) (F0 m 4 ls []) := by
    intro n
    induction n with
    | zero => intro a1 a2 a3 hrun; cases hrun
    | succ n ih =>
      intro a1 a2 a3 hrun H locs ls Y hl
      unfold lX5_hidersAt_4 at hrun
      refine lv_iload_n hx hb dX5_hidersAt_4 rfl (lv_at hl 3 rfl) ?_
      refine lv_aload_n hx hb dX5_hidersAt_5 rfl (lv_at hl 0 rfl) ?_
      refine ig S hK Y fX5_41 0 rfl (v := .int (σ 0 0)) rfl dX5_hidersAt_6 ?_
      refine lv_icmp_ge (tgt := 34) hx hb dX5_hidersAt_9 (by decide) (fun c_1 => ?_) (fun c_1 => ?_)
      · have hrun := o_t hrun c_1
        refine lv_iload_n hx hb dX5_hidersAt_34 rfl (lv_at hl 2 rfl) ?_
        cases hrun
        exact me_ri S hK Y hr hlk rfl dX5_hidersAt_35
      · have hrun := o_f hrun c_1
        refine lv_aload_n hx hb dX5_hidersAt_12 rfl (lv_at hl 0 rfl) ?_
        refine ig S hK Y fX5_30 0 rfl (v := .ref (h 7)) rfl dX5_hidersAt_13 ?_
        refine lv_iload_n hx hb dX5_hidersAt_16 rfl (lv_at hl 3 rfl) ?_
        obtain ⟨b_2, hrun⟩ := o_xh hrun
        refine ia S hK Y 7 0 (f := (σ 7)) rfl rfl b_2 dX5_hidersAt_17 ?_
        refine lv_iload_n hx hb dX5_hidersAt_18 rfl (lv_at hl 1 rfl) ?_
        refine lv_icmp_ne (tgt := 28) hx hb dX5_hidersAt_19 (by decide) (fun c_3 => ?_) (fun c_3 => ?_)
        · have hrun := o_f hrun c_3
          refine lv_iinc (v := (a3 + (1 : Int32))) (lv' := [(3, .int (a3 + (1 : Int32))), (0, .ref (h 0)), (1, .int a1), (2, .int a2)]) hx hb dX5_hidersAt_28 hl (k := 3) rfl (by rfl) (Nat.le_of_ble_eq_true rfl) rfl (fun ls hl => ?_)
          refine lv_goto (tgt := 4) hx hb dX5_hidersAt_31 (by decide) ?_
          exact ih a1 a2 (a3 + (1 : Int32)) hrun _ _ _ Y (lv_sub hl [1, 2, 3, 0] rfl)
        · have hrun := o_t hrun c_3
          refine lv_iload_n hx hb dX5_hidersAt_22 rfl (lv_at hl 2 rfl) ?_
          refine lv_iconst (v := (1 : Int32)) hx hb dX5_hidersAt_23 (by decide) ?_
          refine lv_iload_n hx hb dX5_hidersAt_24 rfl (lv_at hl 3 rfl) ?_
          refine lv_ishl hx hb dX5_hidersAt_25 ?_
          refine lv_ior hx hb dX5_hidersAt_26 ?_
          refine lv_istore_n (lv' := [(2, .int (a2 ||| ((1 : Int32) <<< (a3 &&& 31)))), (0, .ref (h 0)), (1, .int a1), (3, .int a3)]) hx hb dX5_hidersAt_27 rfl hl (Nat.le_of_ble_eq_true rfl) rfl (fun ls hl => ?_)
          refine lv_iinc (v := (a3 + (1 : Int32))) (lv' := [(3, .int (a3 + (1 : Int32))), (2, .int (a2 ||| ((1 : Int32) <<< (a3 &&& 31)))), (0, .ref (h 0)), (1, .int a1)]) hx hb dX5_hidersAt_28 hl (k := 3) rfl (by rfl) (Nat.le_of_ble_eq_true rfl) rfl (fun ls hl => ?_)
          refine lv_goto (tgt := 4) hx hb dX5_hidersAt_31 (by decide) ?_
          exact ih a1 (a2 ||| ((1 : Int32) <<< (a3 &&& 31))) (a3 + (1 : Int32)) hrun _ _ _ Y (lv_sub hl [2, 3, 1, 0] rfl)
  unfold fX5_hidersAt at hrun
  refine lv_iconst (v := (0 : Int32)) hx hb dX5_hidersAt_0 (by decide) ?_
  refine lv_istore_n (lv' := [(2, .int (0 : Int32)), (0, .ref (h 0)), (1, .int p1)]) hx hb dX5_hidersAt_1 rfl hl (Nat.le_of_ble_eq_true rfl) rfl (fun ls hl => ?_)
  refine lv_iconst (v := (0 : Int32)) hx hb dX5_hidersAt_2 (by decide) ?_
  refine lv_istore_n (lv' := [(3, .int (0 : Int32)), (2, .int (0 : Int32)), (0, .ref (h 0)), (1, .int p1)]) hx hb dX5_hidersAt_3 rfl hl (Nat.le_of_ble_eq_true rfl) rfl (fun ls hl => ?_)
  exact lp4 70 p1 (0 : Int32) (0 : Int32) hrun _ _ _ Y (lv_sub hl [2, 3, 1, 0] rfl)
def lX5_sumOfPoints_4 : Nat → Int32 → Int32 → (sg_T) → Option (Int32)
  | 0, _, _, _ => none
  | n + 1, a1, a2, σ => (if (σ 0 0) ≤ a2 then (some a1) else (o_x a2 8 (lX5_sumOfPoints_4 n (a1 + ((σ 2) (a2).toNatClampNeg)) (a2 + (1 : Int32)) σ)))
def fX5_sumOfPoints (σ : sg_T) : Option (Int32) := (lX5_sumOfPoints_4 70 (0 : Int32) (0 : Int32) σ)
set_option maxRecDepth 100000 in
set_option maxHeartbeats 4000000 in
theorem mX5_sumOfPoints (l : Launch) (D : va_G) (cI : ClassId) (h : Nat → Nat) (σ : sg_T) (r : Int32) (hrun : fX5_sumOfPoints σ = some r) : me_I l D (tS cI) yX5_sumOfPoints cX5_sumOfPoints 3 .int 0 0 (wS cI h σ) [.ref (h 0)] r (wS cI h σ) := by
  refine me_ofI (plainFor_of_name (by decide)) (Nat.le_of_ble_eq_true rfl) ?_
  intro p e s m args below meth c A ls S hK Y hA hl hr hlk hZ
  have hx := S.1
  have hb := S.2.1
  have hl : lv_has ls 3 [(0, .ref (h 0))] := hl
  have lp4 : ∀ (n : Nat) (a1 : Int32) (a2 : Int32), lX5_sumOfPoints_4 n a1 a2 σ = some r → ∀ (H : Heap) (locs : List Loc) (ls : Array Slot), dy_ D A s (wS cI h σ) H locs → lv_has ls 3 [(0, .ref (h 0)), (1, .int a1), (2, .int a2)] → W p l e (rm_ 0 0) s m args below meth c H locs 0 0 (MQ below (me_Qi D (tS cI) A r (wS cI h σ)) args s 0 0 A) (F0 m 4 ls []) := by
    intro n
    induction n with
    | zero => intro a1 a2 hrun; cases hrun
    | succ n ih =>
      intro a1 a2 hrun H locs ls Y hl
      unfold lX5_sumOfPoints_4 at hrun
      refine lv_iload_n hx hb dX5_sumOfPoints_4 rfl (lv_at hl 2 rfl) ?_
      refine lv_aload_n hx hb dX5_sumOfPoints_5 rfl (lv_at hl 0 rfl) ?_
      refine ig S hK Y fX5_41 0 rfl (v := .int (σ 0 0)) rfl dX5_sumOfPoints_6 ?_
      refine lv_icmp_ge (tgt := 27) hx hb dX5_sumOfPoints_9 (by decide) (fun c_1 => ?_) (fun c_1 => ?_)
      · have hrun := o_t hrun c_1
        refine lv_iload_n hx hb dX5_sumOfPoints_27 rfl (lv_at hl 1 rfl) ?_
        cases hrun
        exact me_ri S hK Y hr hlk rfl dX5_sumOfPoints_28
      · have hrun := o_f hrun c_1
        refine lv_iload_n hx hb dX5_sumOfPoints_12 rfl (lv_at hl 1 rfl) ?_
        refine lv_aload_n hx hb dX5_sumOfPoints_13 rfl (lv_at hl 0 rfl) ?_
        refine ig S hK Y fX5_15 0 rfl (v := .ref (h 2)) rfl dX5_sumOfPoints_14 ?_
        refine lv_iload_n hx hb dX5_sumOfPoints_17 rfl (lv_at hl 2 rfl) ?_
        obtain ⟨b_2, hrun⟩ := o_xh hrun
        refine ia S hK Y 2 0 (f := (σ 2)) rfl rfl b_2 dX5_sumOfPoints_18 ?_
        refine lv_iadd hx hb dX5_sumOfPoints_19 ?_
        refine lv_istore_n (lv' := [(1, .int (a1 + ((σ 2) (a2).toNatClampNeg))), (0, .ref (h 0)), (2, .int a2)]) hx hb dX5_sumOfPoints_20 rfl hl (Nat.le_of_ble_eq_true rfl) rfl (fun ls hl => ?_)
        refine lv_iinc (v := (a2 + (1 : Int32))) (lv' := [(2, .int (a2 + (1 : Int32))), (1, .int (a1 + ((σ 2) (a2).toNatClampNeg))), (0, .ref (h 0))]) hx hb dX5_sumOfPoints_21 hl (k := 2) rfl (by rfl) (Nat.le_of_ble_eq_true rfl) rfl (fun ls hl => ?_)
        refine lv_goto (tgt := 4) hx hb dX5_sumOfPoints_24 (by decide) ?_
        exact ih (a1 + ((σ 2) (a2).toNatClampNeg)) (a2 + (1 : Int32)) hrun _ _ _ Y (lv_sub hl [2, 1, 0] rfl)
  unfold fX5_sumOfPoints at hrun
  refine lv_iconst (v := (0 : Int32)) hx hb dX5_sumOfPoints_0 (by decide) ?_
  refine lv_istore_n (lv' := [(1, .int (0 : Int32)), (0, .ref (h 0))]) hx hb dX5_sumOfPoints_1 rfl hl (Nat.le_of_ble_eq_true rfl) rfl (fun ls hl => ?_)
  refine lv_iconst (v := (0 : Int32)) hx hb dX5_sumOfPoints_2 (by decide) ?_
  refine lv_istore_n (lv' := [(2, .int (0 : Int32)), (1, .int (0 : Int32)), (0, .ref (h 0))]) hx hb dX5_sumOfPoints_3 rfl hl (Nat.le_of_ble_eq_true rfl) rfl (fun ls hl => ?_)
  exact lp4 70 (0 : Int32) (0 : Int32) hrun _ _ _ Y (lv_sub hl [2, 1, 0] rfl)
def fX6_isSpot (p0 : Int32) : Option Int32 := (if p0 < 0 then (some (0 : Int32)) else (if (16 : Int32) ≤ p0 then (some (0 : Int32)) else (some (1 : Int32))))
set_option maxRecDepth 100000 in
set_option maxHeartbeats 4000000 in
theorem mX6_isSpot (l : Launch) (D : va_G) (p0 : Int32) (r : Int32) (hrun : fX6_isSpot p0 = some r) : me_I l D [] yX6_isSpot cX6_isSpot 1 .boolean 0 0 [] [.int p0] r [] := by
  refine me_ofI (plainFor_of_name (by decide)) (Nat.le_of_ble_eq_true rfl) ?_
  intro p e s m args below meth c A ls S hK Y hA hl hr hlk hZ
  have hx := S.1
  have hb := S.2.1
  have hl : lv_has ls 1 [(0, .int p0)] := hl
  unfold fX6_isSpot at hrun
  refine lv_iload_n hx hb dX6_isSpot_0 rfl (lv_at hl 0 rfl) ?_
  refine lv_if_lt (tgt := 14) hx hb dX6_isSpot_1 (by decide) (fun c_1 => ?_) (fun c_1 => ?_)
  · have hrun := o_t hrun c_1
    refine lv_iconst (v := (0 : Int32)) hx hb dX6_isSpot_14 (by decide) ?_
    cases hrun
    exact me_ri S hK Y hr hlk rfl dX6_isSpot_15
  · have hrun := o_f hrun c_1
    refine lv_iload_n hx hb dX6_isSpot_4 rfl (lv_at hl 0 rfl) ?_
    refine lv_bipush (v := (16 : Int32)) hx hb dX6_isSpot_5 (by decide) ?_
    refine lv_icmp_ge (tgt := 14) hx hb dX6_isSpot_7 (by decide) (fun c_2 => ?_) (fun c_2 => ?_)
    · have hrun := o_t hrun c_2
      refine lv_iconst (v := (0 : Int32)) hx hb dX6_isSpot_14 (by decide) ?_
      cases hrun
      exact me_ri S hK Y hr hlk rfl dX6_isSpot_15
    · have hrun := o_f hrun c_2
      refine lv_iconst (v := (1 : Int32)) hx hb dX6_isSpot_10 (by decide) ?_
      refine lv_goto (tgt := 15) hx hb dX6_isSpot_11 (by decide) ?_
      cases hrun
      exact me_ri S hK Y hr hlk rfl dX6_isSpot_15
def fJ6_bitCount_0f7a4 (p0 : Int32) : Option Int32 := (some ((((((((p0 - ((p0.toUInt32 >>> ((1 : Int32).toUInt32 &&& Int32.toUInt32 31)).toInt32 &&& (1431655765 : Int32))) &&& (858993459 : Int32)) + (((p0 - ((p0.toUInt32 >>> ((1 : Int32).toUInt32 &&& Int32.toUInt32 31)).toInt32 &&& (1431655765 : Int32))).toUInt32 >>> ((2 : Int32).toUInt32 &&& Int32.toUInt32 31)).toInt32 &&& (858993459 : Int32))) + ((((p0 - ((p0.toUInt32 >>> ((1 : Int32).toUInt32 &&& Int32.toUInt32 31)).toInt32 &&& (1431655765 : Int32))) &&& (858993459 : Int32)) + (((p0 - ((p0.toUInt32 >>> ((1 : Int32).toUInt32 &&& Int32.toUInt32 31)).toInt32 &&& (1431655765 : Int32))).toUInt32 >>> ((2 : Int32).toUInt32 &&& Int32.toUInt32 31)).toInt32 &&& (858993459 : Int32))).toUInt32 >>> ((4 : Int32).toUInt32 &&& Int32.toUInt32 31)).toInt32) &&& (252645135 : Int32)) + ((((((p0 - ((p0.toUInt32 >>> ((1 : Int32).toUInt32 &&& Int32.toUInt32 31)).toInt32 &&& (1431655765 : Int32))) &&& (858993459 : Int32)) + (((p0 - ((p0.toUInt32 >>> ((1 : Int32).toUInt32 &&& Int32.toUInt32 31)).toInt32 &&& (1431655765 : Int32))).toUInt32 >>> ((2 : Int32).toUInt32 &&& Int32.toUInt32 31)).toInt32 &&& (858993459 : Int32))) + ((((p0 - ((p0.toUInt32 >>> ((1 : Int32).toUInt32 &&& Int32.toUInt32 31)).toInt32 &&& (1431655765 : Int32))) &&& (858993459 : Int32)) + (((p0 - ((p0.toUInt32 >>> ((1 : Int32).toUInt32 &&& Int32.toUInt32 31)).toInt32 &&& (1431655765 : Int32))).toUInt32 >>> ((2 : Int32).toUInt32 &&& Int32.toUInt32 31)).toInt32 &&& (858993459 : Int32))).toUInt32 >>> ((4 : Int32).toUInt32 &&& Int32.toUInt32 31)).toInt32) &&& (252645135 : Int32)).toUInt32 >>> ((8 : Int32).toUInt32 &&& Int32.toUInt32 31)).toInt32) + (((((((p0 - ((p0.toUInt32 >>> ((1 : Int32).toUInt32 &&& Int32.toUInt32 31)).toInt32 &&& (1431655765 : Int32))) &&& (858993459 : Int32)) + (((p0 - ((p0.toUInt32 >>> ((1 : Int32).toUInt32 &&& Int32.toUInt32 31)).toInt32 &&& (1431655765 : Int32))).toUInt32 >>> ((2 : Int32).toUInt32 &&& Int32.toUInt32 31)).toInt32 &&& (858993459 : Int32))) + ((((p0 - ((p0.toUInt32 >>> ((1 : Int32).toUInt32 &&& Int32.toUInt32 31)).toInt32 &&& (1431655765 : Int32))) &&& (858993459 : Int32)) + (((p0 - ((p0.toUInt32 >>> ((1 : Int32).toUInt32 &&& Int32.toUInt32 31)).toInt32 &&& (1431655765 : Int32))).toUInt32 >>> ((2 : Int32).toUInt32 &&& Int32.toUInt32 31)).toInt32 &&& (858993459 : Int32))).toUInt32 >>> ((4 : Int32).toUInt32 &&& Int32.toUInt32 31)).toInt32) &&& (252645135 : Int32)) + ((((((p0 - ((p0.toUInt32 >>> ((1 : Int32).toUInt32 &&& Int32.toUInt32 31)).toInt32 &&& (1431655765 : Int32))) &&& (858993459 : Int32)) + (((p0 - ((p0.toUInt32 >>> ((1 : Int32).toUInt32 &&& Int32.toUInt32 31)).toInt32 &&& (1431655765 : Int32))).toUInt32 >>> ((2 : Int32).toUInt32 &&& Int32.toUInt32 31)).toInt32 &&& (858993459 : Int32))) + ((((p0 - ((p0.toUInt32 >>> ((1 : Int32).toUInt32 &&& Int32.toUInt32 31)).toInt32 &&& (1431655765 : Int32))) &&& (858993459 : Int32)) + (((p0 - ((p0.toUInt32 >>> ((1 : Int32).toUInt32 &&& Int32.toUInt32 31)).toInt32 &&& (1431655765 : Int32))).toUInt32 >>> ((2 : Int32).toUInt32 &&& Int32.toUInt32 31)).toInt32 &&& (858993459 : Int32))).toUInt32 >>> ((4 : Int32).toUInt32 &&& Int32.toUInt32 31)).toInt32) &&& (252645135 : Int32)).toUInt32 >>> ((8 : Int32).toUInt32 &&& Int32.toUInt32 31)).toInt32).toUInt32 >>> ((16 : Int32).toUInt32 &&& Int32.toUInt32 31)).toInt32) &&& (63 : Int32)))
set_option maxRecDepth 100000 in
set_option maxHeartbeats 4000000 in
theorem mJ6_bitCount_0f7a4 (l : Launch) (D : va_G) (p0 : Int32) (r : Int32) (hrun : fJ6_bitCount_0f7a4 p0 = some r) : me_I l D [] yJ6_bitCount_0f7a4 cJ6_bitCount_0f7a4 1 .int 0 0 [] [.int p0] r [] := by
  refine me_ofI (plainFor_of_name (by decide)) (Nat.le_of_ble_eq_true rfl) ?_
  intro p e s m args below meth c A ls S hK Y hA hl hr hlk hZ
  have hx := S.1
  have hb := S.2.1
  have hl : lv_has ls 1 [(0, .int p0)] := hl
  unfold fJ6_bitCount_0f7a4 at hrun
  refine lv_iload_n hx hb dJ6_bitCount_0f7a4_0 rfl (lv_at hl 0 rfl) ?_
  refine lv_iload_n hx hb dJ6_bitCount_0f7a4_1 rfl (lv_at hl 0 rfl) ?_
  refine lv_iconst (v := (1 : Int32)) hx hb dJ6_bitCount_0f7a4_2 (by decide) ?_
  refine lv_iushr (v := (p0.toUInt32 >>> ((1 : Int32).toUInt32 &&& Int32.toUInt32 31)).toInt32) hx hb dJ6_bitCount_0f7a4_3 rfl ?_
  refine lv_ldcw (v := (1431655765 : Int32)) hx hb S.2.2.2.1 (S.2.2.2.2 _ (List.mem_cons_of_mem _ (uw_in 268 rfl rfl))) dJ6_bitCount_0f7a4_4 ?_
  refine lv_iand hx hb dJ6_bitCount_0f7a4_7 ?_
  refine lv_isub hx hb dJ6_bitCount_0f7a4_8 ?_
  refine lv_istore_n (lv' := [(0, .int (p0 - ((p0.toUInt32 >>> ((1 : Int32).toUInt32 &&& Int32.toUInt32 31)).toInt32 &&& (1431655765 : Int32))))]) hx hb dJ6_bitCount_0f7a4_9 rfl hl (Nat.le_of_ble_eq_true rfl) rfl (fun ls hl => ?_)
  refine lv_iload_n hx hb dJ6_bitCount_0f7a4_10 rfl (lv_at hl 0 rfl) ?_
  refine lv_ldcw (v := (858993459 : Int32)) hx hb S.2.2.2.1 (S.2.2.2.2 _ (List.mem_cons_of_mem _ (uw_in 269 rfl rfl))) dJ6_bitCount_0f7a4_11 ?_
  refine lv_iand hx hb dJ6_bitCount_0f7a4_14 ?_
  refine lv_iload_n hx hb dJ6_bitCount_0f7a4_15 rfl (lv_at hl 0 rfl) ?_
  refine lv_iconst (v := (2 : Int32)) hx hb dJ6_bitCount_0f7a4_16 (by decide) ?_
  refine lv_iushr (v := ((p0 - ((p0.toUInt32 >>> ((1 : Int32).toUInt32 &&& Int32.toUInt32 31)).toInt32 &&& (1431655765 : Int32))).toUInt32 >>> ((2 : Int32).toUInt32 &&& Int32.toUInt32 31)).toInt32) hx hb dJ6_bitCount_0f7a4_17 rfl ?_
  refine lv_ldcw (v := (858993459 : Int32)) hx hb S.2.2.2.1 (S.2.2.2.2 _ (List.mem_cons_of_mem _ (uw_in 269 rfl rfl))) dJ6_bitCount_0f7a4_18 ?_
  refine lv_iand hx hb dJ6_bitCount_0f7a4_21 ?_
  refine lv_iadd hx hb dJ6_bitCount_0f7a4_22 ?_
  refine lv_istore_n (lv' := [(0, .int (((p0 - ((p0.toUInt32 >>> ((1 : Int32).toUInt32 &&& Int32.toUInt32 31)).toInt32 &&& (1431655765 : Int32))) &&& (858993459 : Int32)) + (((p0 - ((p0.toUInt32 >>> ((1 : Int32).toUInt32 &&& Int32.toUInt32 31)).toInt32 &&& (1431655765 : Int32))).toUInt32 >>> ((2 : Int32).toUInt32 &&& Int32.toUInt32 31)).toInt32 &&& (858993459 : Int32))))]) hx hb dJ6_bitCount_0f7a4_23 rfl hl (Nat.le_of_ble_eq_true rfl) rfl (fun ls hl => ?_)
  refine lv_iload_n hx hb dJ6_bitCount_0f7a4_24 rfl (lv_at hl 0 rfl) ?_
  refine lv_iload_n hx hb dJ6_bitCount_0f7a4_25 rfl (lv_at hl 0 rfl) ?_
  refine lv_iconst (v := (4 : Int32)) hx hb dJ6_bitCount_0f7a4_26 (by decide) ?_
  refine lv_iushr (v := ((((p0 - ((p0.toUInt32 >>> ((1 : Int32).toUInt32 &&& Int32.toUInt32 31)).toInt32 &&& (1431655765 : Int32))) &&& (858993459 : Int32)) + (((p0 - ((p0.toUInt32 >>> ((1 : Int32).toUInt32 &&& Int32.toUInt32 31)).toInt32 &&& (1431655765 : Int32))).toUInt32 >>> ((2 : Int32).toUInt32 &&& Int32.toUInt32 31)).toInt32 &&& (858993459 : Int32))).toUInt32 >>> ((4 : Int32).toUInt32 &&& Int32.toUInt32 31)).toInt32) hx hb dJ6_bitCount_0f7a4_27 rfl ?_
  refine lv_iadd hx hb dJ6_bitCount_0f7a4_28 ?_
  refine lv_ldcw (v := (252645135 : Int32)) hx hb S.2.2.2.1 (S.2.2.2.2 _ (List.mem_cons_of_mem _ (uw_in 270 rfl rfl))) dJ6_bitCount_0f7a4_29 ?_
  refine lv_iand hx hb dJ6_bitCount_0f7a4_32 ?_
  refine lv_istore_n (lv' := [(0, .int (((((p0 - ((p0.toUInt32 >>> ((1 : Int32).toUInt32 &&& Int32.toUInt32 31)).toInt32 &&& (1431655765 : Int32))) &&& (858993459 : Int32)) + (((p0 - ((p0.toUInt32 >>> ((1 : Int32).toUInt32 &&& Int32.toUInt32 31)).toInt32 &&& (1431655765 : Int32))).toUInt32 >>> ((2 : Int32).toUInt32 &&& Int32.toUInt32 31)).toInt32 &&& (858993459 : Int32))) + ((((p0 - ((p0.toUInt32 >>> ((1 : Int32).toUInt32 &&& Int32.toUInt32 31)).toInt32 &&& (1431655765 : Int32))) &&& (858993459 : Int32)) + (((p0 - ((p0.toUInt32 >>> ((1 : Int32).toUInt32 &&& Int32.toUInt32 31)).toInt32 &&& (1431655765 : Int32))).toUInt32 >>> ((2 : Int32).toUInt32 &&& Int32.toUInt32 31)).toInt32 &&& (858993459 : Int32))).toUInt32 >>> ((4 : Int32).toUInt32 &&& Int32.toUInt32 31)).toInt32) &&& (252645135 : Int32)))]) hx hb dJ6_bitCount_0f7a4_33 rfl hl (Nat.le_of_ble_eq_true rfl) rfl (fun ls hl => ?_)
  refine lv_iload_n hx hb dJ6_bitCount_0f7a4_34 rfl (lv_at hl 0 rfl) ?_
  refine lv_iload_n hx hb dJ6_bitCount_0f7a4_35 rfl (lv_at hl 0 rfl) ?_
  refine lv_bipush (v := (8 : Int32)) hx hb dJ6_bitCount_0f7a4_36 (by decide) ?_
  refine lv_iushr (v := ((((((p0 - ((p0.toUInt32 >>> ((1 : Int32).toUInt32 &&& Int32.toUInt32 31)).toInt32 &&& (1431655765 : Int32))) &&& (858993459 : Int32)) + (((p0 - ((p0.toUInt32 >>> ((1 : Int32).toUInt32 &&& Int32.toUInt32 31)).toInt32 &&& (1431655765 : Int32))).toUInt32 >>> ((2 : Int32).toUInt32 &&& Int32.toUInt32 31)).toInt32 &&& (858993459 : Int32))) + ((((p0 - ((p0.toUInt32 >>> ((1 : Int32).toUInt32 &&& Int32.toUInt32 31)).toInt32 &&& (1431655765 : Int32))) &&& (858993459 : Int32)) + (((p0 - ((p0.toUInt32 >>> ((1 : Int32).toUInt32 &&& Int32.toUInt32 31)).toInt32 &&& (1431655765 : Int32))).toUInt32 >>> ((2 : Int32).toUInt32 &&& Int32.toUInt32 31)).toInt32 &&& (858993459 : Int32))).toUInt32 >>> ((4 : Int32).toUInt32 &&& Int32.toUInt32 31)).toInt32) &&& (252645135 : Int32)).toUInt32 >>> ((8 : Int32).toUInt32 &&& Int32.toUInt32 31)).toInt32) hx hb dJ6_bitCount_0f7a4_38 rfl ?_
  refine lv_iadd hx hb dJ6_bitCount_0f7a4_39 ?_
  refine lv_istore_n (lv' := [(0, .int ((((((p0 - ((p0.toUInt32 >>> ((1 : Int32).toUInt32 &&& Int32.toUInt32 31)).toInt32 &&& (1431655765 : Int32))) &&& (858993459 : Int32)) + (((p0 - ((p0.toUInt32 >>> ((1 : Int32).toUInt32 &&& Int32.toUInt32 31)).toInt32 &&& (1431655765 : Int32))).toUInt32 >>> ((2 : Int32).toUInt32 &&& Int32.toUInt32 31)).toInt32 &&& (858993459 : Int32))) + ((((p0 - ((p0.toUInt32 >>> ((1 : Int32).toUInt32 &&& Int32.toUInt32 31)).toInt32 &&& (1431655765 : Int32))) &&& (858993459 : Int32)) + (((p0 - ((p0.toUInt32 >>> ((1 : Int32).toUInt32 &&& Int32.toUInt32 31)).toInt32 &&& (1431655765 : Int32))).toUInt32 >>> ((2 : Int32).toUInt32 &&& Int32.toUInt32 31)).toInt32 &&& (858993459 : Int32))).toUInt32 >>> ((4 : Int32).toUInt32 &&& Int32.toUInt32 31)).toInt32) &&& (252645135 : Int32)) + ((((((p0 - ((p0.toUInt32 >>> ((1 : Int32).toUInt32 &&& Int32.toUInt32 31)).toInt32 &&& (1431655765 : Int32))) &&& (858993459 : Int32)) + (((p0 - ((p0.toUInt32 >>> ((1 : Int32).toUInt32 &&& Int32.toUInt32 31)).toInt32 &&& (1431655765 : Int32))).toUInt32 >>> ((2 : Int32).toUInt32 &&& Int32.toUInt32 31)).toInt32 &&& (858993459 : Int32))) + ((((p0 - ((p0.toUInt32 >>> ((1 : Int32).toUInt32 &&& Int32.toUInt32 31)).toInt32 &&& (1431655765 : Int32))) &&& (858993459 : Int32)) + (((p0 - ((p0.toUInt32 >>> ((1 : Int32).toUInt32 &&& Int32.toUInt32 31)).toInt32 &&& (1431655765 : Int32))).toUInt32 >>> ((2 : Int32).toUInt32 &&& Int32.toUInt32 31)).toInt32 &&& (858993459 : Int32))).toUInt32 >>> ((4 : Int32).toUInt32 &&& Int32.toUInt32 31)).toInt32) &&& (252645135 : Int32)).toUInt32 >>> ((8 : Int32).toUInt32 &&& Int32.toUInt32 31)).toInt32))]) hx hb dJ6_bitCount_0f7a4_40 rfl hl (Nat.le_of_ble_eq_true rfl) rfl (fun ls hl => ?_)
  refine lv_iload_n hx hb dJ6_bitCount_0f7a4_41 rfl (lv_at hl 0 rfl) ?_
  refine lv_iload_n hx hb dJ6_bitCount_0f7a4_42 rfl (lv_at hl 0 rfl) ?_
  refine lv_bipush (v := (16 : Int32)) hx hb dJ6_bitCount_0f7a4_43 (by decide) ?_
  refine lv_iushr (v := (((((((p0 - ((p0.toUInt32 >>> ((1 : Int32).toUInt32 &&& Int32.toUInt32 31)).toInt32 &&& (1431655765 : Int32))) &&& (858993459 : Int32)) + (((p0 - ((p0.toUInt32 >>> ((1 : Int32).toUInt32 &&& Int32.toUInt32 31)).toInt32 &&& (1431655765 : Int32))).toUInt32 >>> ((2 : Int32).toUInt32 &&& Int32.toUInt32 31)).toInt32 &&& (858993459 : Int32))) + ((((p0 - ((p0.toUInt32 >>> ((1 : Int32).toUInt32 &&& Int32.toUInt32 31)).toInt32 &&& (1431655765 : Int32))) &&& (858993459 : Int32)) + (((p0 - ((p0.toUInt32 >>> ((1 : Int32).toUInt32 &&& Int32.toUInt32 31)).toInt32 &&& (1431655765 : Int32))).toUInt32 >>> ((2 : Int32).toUInt32 &&& Int32.toUInt32 31)).toInt32 &&& (858993459 : Int32))).toUInt32 >>> ((4 : Int32).toUInt32 &&& Int32.toUInt32 31)).toInt32) &&& (252645135 : Int32)) + ((((((p0 - ((p0.toUInt32 >>> ((1 : Int32).toUInt32 &&& Int32.toUInt32 31)).toInt32 &&& (1431655765 : Int32))) &&& (858993459 : Int32)) + (((p0 - ((p0.toUInt32 >>> ((1 : Int32).toUInt32 &&& Int32.toUInt32 31)).toInt32 &&& (1431655765 : Int32))).toUInt32 >>> ((2 : Int32).toUInt32 &&& Int32.toUInt32 31)).toInt32 &&& (858993459 : Int32))) + ((((p0 - ((p0.toUInt32 >>> ((1 : Int32).toUInt32 &&& Int32.toUInt32 31)).toInt32 &&& (1431655765 : Int32))) &&& (858993459 : Int32)) + (((p0 - ((p0.toUInt32 >>> ((1 : Int32).toUInt32 &&& Int32.toUInt32 31)).toInt32 &&& (1431655765 : Int32))).toUInt32 >>> ((2 : Int32).toUInt32 &&& Int32.toUInt32 31)).toInt32 &&& (858993459 : Int32))).toUInt32 >>> ((4 : Int32).toUInt32 &&& Int32.toUInt32 31)).toInt32) &&& (252645135 : Int32)).toUInt32 >>> ((8 : Int32).toUInt32 &&& Int32.toUInt32 31)).toInt32).toUInt32 >>> ((16 : Int32).toUInt32 &&& Int32.toUInt32 31)).toInt32) hx hb dJ6_bitCount_0f7a4_45 rfl ?_
  refine lv_iadd hx hb dJ6_bitCount_0f7a4_46 ?_
  refine lv_istore_n (lv' := [(0, .int (((((((p0 - ((p0.toUInt32 >>> ((1 : Int32).toUInt32 &&& Int32.toUInt32 31)).toInt32 &&& (1431655765 : Int32))) &&& (858993459 : Int32)) + (((p0 - ((p0.toUInt32 >>> ((1 : Int32).toUInt32 &&& Int32.toUInt32 31)).toInt32 &&& (1431655765 : Int32))).toUInt32 >>> ((2 : Int32).toUInt32 &&& Int32.toUInt32 31)).toInt32 &&& (858993459 : Int32))) + ((((p0 - ((p0.toUInt32 >>> ((1 : Int32).toUInt32 &&& Int32.toUInt32 31)).toInt32 &&& (1431655765 : Int32))) &&& (858993459 : Int32)) + (((p0 - ((p0.toUInt32 >>> ((1 : Int32).toUInt32 &&& Int32.toUInt32 31)).toInt32 &&& (1431655765 : Int32))).toUInt32 >>> ((2 : Int32).toUInt32 &&& Int32.toUInt32 31)).toInt32 &&& (858993459 : Int32))).toUInt32 >>> ((4 : Int32).toUInt32 &&& Int32.toUInt32 31)).toInt32) &&& (252645135 : Int32)) + ((((((p0 - ((p0.toUInt32 >>> ((1 : Int32).toUInt32 &&& Int32.toUInt32 31)).toInt32 &&& (1431655765 : Int32))) &&& (858993459 : Int32)) + (((p0 - ((p0.toUInt32 >>> ((1 : Int32).toUInt32 &&& Int32.toUInt32 31)).toInt32 &&& (1431655765 : Int32))).toUInt32 >>> ((2 : Int32).toUInt32 &&& Int32.toUInt32 31)).toInt32 &&& (858993459 : Int32))) + ((((p0 - ((p0.toUInt32 >>> ((1 : Int32).toUInt32 &&& Int32.toUInt32 31)).toInt32 &&& (1431655765 : Int32))) &&& (858993459 : Int32)) + (((p0 - ((p0.toUInt32 >>> ((1 : Int32).toUInt32 &&& Int32.toUInt32 31)).toInt32 &&& (1431655765 : Int32))).toUInt32 >>> ((2 : Int32).toUInt32 &&& Int32.toUInt32 31)).toInt32 &&& (858993459 : Int32))).toUInt32 >>> ((4 : Int32).toUInt32 &&& Int32.toUInt32 31)).toInt32) &&& (252645135 : Int32)).toUInt32 >>> ((8 : Int32).toUInt32 &&& Int32.toUInt32 31)).toInt32) + (((((((p0 - ((p0.toUInt32 >>> ((1 : Int32).toUInt32 &&& Int32.toUInt32 31)).toInt32 &&& (1431655765 : Int32))) &&& (858993459 : Int32)) + (((p0 - ((p0.toUInt32 >>> ((1 : Int32).toUInt32 &&& Int32.toUInt32 31)).toInt32 &&& (1431655765 : Int32))).toUInt32 >>> ((2 : Int32).toUInt32 &&& Int32.toUInt32 31)).toInt32 &&& (858993459 : Int32))) + ((((p0 - ((p0.toUInt32 >>> ((1 : Int32).toUInt32 &&& Int32.toUInt32 31)).toInt32 &&& (1431655765 : Int32))) &&& (858993459 : Int32)) + (((p0 - ((p0.toUInt32 >>> ((1 : Int32).toUInt32 &&& Int32.toUInt32 31)).toInt32 &&& (1431655765 : Int32))).toUInt32 >>> ((2 : Int32).toUInt32 &&& Int32.toUInt32 31)).toInt32 &&& (858993459 : Int32))).toUInt32 >>> ((4 : Int32).toUInt32 &&& Int32.toUInt32 31)).toInt32) &&& (252645135 : Int32)) + ((((((p0 - ((p0.toUInt32 >>> ((1 : Int32).toUInt32 &&& Int32.toUInt32 31)).toInt32 &&& (1431655765 : Int32))) &&& (858993459 : Int32)) + (((p0 - ((p0.toUInt32 >>> ((1 : Int32).toUInt32 &&& Int32.toUInt32 31)).toInt32 &&& (1431655765 : Int32))).toUInt32 >>> ((2 : Int32).toUInt32 &&& Int32.toUInt32 31)).toInt32 &&& (858993459 : Int32))) + ((((p0 - ((p0.toUInt32 >>> ((1 : Int32).toUInt32 &&& Int32.toUInt32 31)).toInt32 &&& (1431655765 : Int32))) &&& (858993459 : Int32)) + (((p0 - ((p0.toUInt32 >>> ((1 : Int32).toUInt32 &&& Int32.toUInt32 31)).toInt32 &&& (1431655765 : Int32))).toUInt32 >>> ((2 : Int32).toUInt32 &&& Int32.toUInt32 31)).toInt32 &&& (858993459 : Int32))).toUInt32 >>> ((4 : Int32).toUInt32 &&& Int32.toUInt32 31)).toInt32) &&& (252645135 : Int32)).toUInt32 >>> ((8 : Int32).toUInt32 &&& Int32.toUInt32 31)).toInt32).toUInt32 >>> ((16 : Int32).toUInt32 &&& Int32.toUInt32 31)).toInt32))]) hx hb dJ6_bitCount_0f7a4_47 rfl hl (Nat.le_of_ble_eq_true rfl) rfl (fun ls hl => ?_)
  refine lv_iload_n hx hb dJ6_bitCount_0f7a4_48 rfl (lv_at hl 0 rfl) ?_
  refine lv_bipush (v := (63 : Int32)) hx hb dJ6_bitCount_0f7a4_49 (by decide) ?_
  refine lv_iand hx hb dJ6_bitCount_0f7a4_51 ?_
  cases hrun
  exact me_ri S hK Y hr hlk rfl dJ6_bitCount_0f7a4_52
def fJ9_floorMod_7cf53 (p0 p1 : Int32) : Option Int32 := (o_k (¬ p1 = 0) (if 0 ≤ (p0 ^^^ p1) then (some (p0 - p0 / p1 * p1)) else (if (p0 - p0 / p1 * p1) = 0 then (some (p0 - p0 / p1 * p1)) else (some ((p0 - p0 / p1 * p1) + p1)))))
set_option maxRecDepth 100000 in
set_option maxHeartbeats 4000000 in
theorem mJ9_floorMod_7cf53 (l : Launch) (D : va_G) (p0 p1 : Int32) (r : Int32) (hrun : fJ9_floorMod_7cf53 p0 p1 = some r) : me_I l D [] yJ9_floorMod_7cf53 cJ9_floorMod_7cf53 3 .int 0 0 [] [.int p0, .int p1] r [] := by
  refine me_ofI (by decide +kernel) (Nat.le_of_ble_eq_true rfl) ?_
  intro p e s m args below meth c A ls S hK Y hA hl hr hlk hZ
  have hx := S.1
  have hb := S.2.1
  have hl : lv_has ls 3 [(0, .int p0), (1, .int p1)] := hl
  unfold fJ9_floorMod_7cf53 at hrun
  refine lv_iload_n hx hb dJ9_floorMod_7cf53_0 rfl (lv_at hl 0 rfl) ?_
  refine lv_iload_n hx hb dJ9_floorMod_7cf53_1 rfl (lv_at hl 1 rfl) ?_
  obtain ⟨c_1, hrun⟩ := o_kh hrun
  refine lv_irem hx hb dJ9_floorMod_7cf53_2 c_1 ?_
  refine lv_istore_n (lv' := [(2, .int (p0 - p0 / p1 * p1)), (0, .int p0), (1, .int p1)]) hx hb dJ9_floorMod_7cf53_3 rfl hl (Nat.le_of_ble_eq_true rfl) rfl (fun ls hl => ?_)
  refine lv_iload_n hx hb dJ9_floorMod_7cf53_4 rfl (lv_at hl 1 rfl) ?_
  refine lv_iload_n hx hb dJ9_floorMod_7cf53_5 rfl (lv_at hl 2 rfl) ?_
  refine lv_ixor hx hb dJ9_floorMod_7cf53_6 ?_
  refine lv_if_ge (tgt := 18) hx hb dJ9_floorMod_7cf53_7 (by decide) (fun c_2 => ?_) (fun c_2 => ?_)
  · have hrun := o_t hrun c_2
    refine lv_iload_n hx hb dJ9_floorMod_7cf53_18 rfl (lv_at hl 0 rfl) ?_
    cases hrun
    exact me_ri S hK Y hr hlk rfl dJ9_floorMod_7cf53_19
  · have hrun := o_f hrun c_2
    refine lv_iload_n hx hb dJ9_floorMod_7cf53_10 rfl (lv_at hl 0 rfl) ?_
    refine lv_if_eq (tgt := 18) hx hb dJ9_floorMod_7cf53_11 (by decide) (fun c_3 => ?_) (fun c_3 => ?_)
    · have hrun := o_t hrun c_3
      refine lv_iload_n hx hb dJ9_floorMod_7cf53_18 rfl (lv_at hl 0 rfl) ?_
      cases hrun
      exact me_ri S hK Y hr hlk rfl dJ9_floorMod_7cf53_19
    · have hrun := o_f hrun c_3
      refine lv_iload_n hx hb dJ9_floorMod_7cf53_14 rfl (lv_at hl 0 rfl) ?_
      refine lv_iload_n hx hb dJ9_floorMod_7cf53_15 rfl (lv_at hl 2 rfl) ?_
      refine lv_iadd hx hb dJ9_floorMod_7cf53_16 ?_
      cases hrun
      exact me_ri S hK Y hr hlk rfl dJ9_floorMod_7cf53_17
def fJ9_max_7cf53 (p0 p1 : Int32) : Option Int32 := (if p0 < p1 then (some p1) else (some p0))
set_option maxRecDepth 100000 in
set_option maxHeartbeats 4000000 in
theorem mJ9_max_7cf53 (l : Launch) (D : va_G) (p0 p1 : Int32) (r : Int32) (hrun : fJ9_max_7cf53 p0 p1 = some r) : me_I l D [] yJ9_max_7cf53 cJ9_max_7cf53 2 .int 0 0 [] [.int p0, .int p1] r [] := by
  refine me_ofI (by decide +kernel) (Nat.le_of_ble_eq_true rfl) ?_
  intro p e s m args below meth c A ls S hK Y hA hl hr hlk hZ
  have hx := S.1
  have hb := S.2.1
  have hl : lv_has ls 2 [(0, .int p0), (1, .int p1)] := hl
  unfold fJ9_max_7cf53 at hrun
  refine lv_iload_n hx hb dJ9_max_7cf53_0 rfl (lv_at hl 0 rfl) ?_
  refine lv_iload_n hx hb dJ9_max_7cf53_1 rfl (lv_at hl 1 rfl) ?_
  refine lv_icmp_lt (tgt := 9) hx hb dJ9_max_7cf53_2 (by decide) (fun c_1 => ?_) (fun c_1 => ?_)
  · have hrun := o_t hrun c_1
    refine lv_iload_n hx hb dJ9_max_7cf53_9 rfl (lv_at hl 1 rfl) ?_
    cases hrun
    exact me_ri S hK Y hr hlk rfl dJ9_max_7cf53_10
  · have hrun := o_f hrun c_1
    refine lv_iload_n hx hb dJ9_max_7cf53_5 rfl (lv_at hl 0 rfl) ?_
    refine lv_goto (tgt := 10) hx hb dJ9_max_7cf53_6 (by decide) ?_
    cases hrun
    exact me_ri S hK Y hr hlk rfl dJ9_max_7cf53_10
def fJ9_min_7cf53 (p0 p1 : Int32) : Option Int32 := (if p1 < p0 then (some p1) else (some p0))
set_option maxRecDepth 100000 in
set_option maxHeartbeats 4000000 in
theorem mJ9_min_7cf53 (l : Launch) (D : va_G) (p0 p1 : Int32) (r : Int32) (hrun : fJ9_min_7cf53 p0 p1 = some r) : me_I l D [] yJ9_min_7cf53 cJ9_min_7cf53 2 .int 0 0 [] [.int p0, .int p1] r [] := by
  refine me_ofI (by decide +kernel) (Nat.le_of_ble_eq_true rfl) ?_
  intro p e s m args below meth c A ls S hK Y hA hl hr hlk hZ
  have hx := S.1
  have hb := S.2.1
  have hl : lv_has ls 2 [(0, .int p0), (1, .int p1)] := hl
  unfold fJ9_min_7cf53 at hrun
  refine lv_iload_n hx hb dJ9_min_7cf53_0 rfl (lv_at hl 0 rfl) ?_
  refine lv_iload_n hx hb dJ9_min_7cf53_1 rfl (lv_at hl 1 rfl) ?_
  refine lv_icmp_gt (tgt := 9) hx hb dJ9_min_7cf53_2 (by decide) (fun c_1 => ?_) (fun c_1 => ?_)
  · have hrun := o_t hrun c_1
    refine lv_iload_n hx hb dJ9_min_7cf53_9 rfl (lv_at hl 1 rfl) ?_
    cases hrun
    exact me_ri S hK Y hr hlk rfl dJ9_min_7cf53_10
  · have hrun := o_f hrun c_1
    refine lv_iload_n hx hb dJ9_min_7cf53_5 rfl (lv_at hl 0 rfl) ?_
    refine lv_goto (tgt := 10) hx hb dJ9_min_7cf53_6 (by decide) ?_
    cases hrun
    exact me_ri S hK Y hr hlk rfl dJ9_min_7cf53_10
def fX2_changeSetting (p1 p2 : Int32) (σ : sg_T) : Option (Int32 × sg_T) := ((fX5_isSetting p1).bind fun r_1 => (if r_1 = 0 then (some ((-10002 : Int32), σ)) else (o_x p1 4 (if p2 < (zs_f 0 (p1).toNatClampNeg) then (some ((-10002 : Int32), σ)) else (if p2 ≤ (zs_f 1 (p1).toNatClampNeg) then (some (((σ 1) (p1).toNatClampNeg), (sg_a σ 1 (upd (σ 1) (p1).toNatClampNeg p2)))) else (some ((-10002 : Int32), σ)))))))
set_option maxRecDepth 100000 in
set_option maxHeartbeats 4000000 in
theorem mX2_changeSetting (l : Launch) (D : va_G) (cI : ClassId) (h : Nat → Nat) (σ : sg_T) (p1 p2 : Int32) (r : Int32) (σ' : sg_T) (hrun : fX2_changeSetting p1 p2 σ = some (r, σ')) : me_I l D (tS cI) yX2_changeSetting cX2_changeSetting 4 .int 1 20 (wS cI h σ) [.ref (h 0), .int p1, .int p2] r (wS cI h σ') := by
  refine me_ofI (plainFor_of_name (by decide)) (Nat.le_of_ble_eq_true rfl) ?_
  intro p e s m args below meth c A ls S hK Y hA hl hr hlk hZ
  have hx := S.1
  have hb := S.2.1
  obtain ⟨-, hN0, hN1, t0, t1, hZ0, hT0, hZ1, hT1⟩ := id hZ
  have hl : lv_has ls 4 [(0, .ref (h 0)), (1, .int p1), (2, .int p2)] := hl
  unfold fX2_changeSetting at hrun
  refine lv_iload_n hx hb dX2_changeSetting_0 rfl (lv_at hl 1 rfl) ?_
  obtain ⟨r_1, e_2, hrun⟩ := o_bh hrun
  refine cp_s (As := [.int p1]) (rest := []) S hK hA hZ Y hl.1 (mX5_isSetting l D p1 r_1 e_2) kX2_9 ⟨Nat.le_of_ble_eq_true rfl, Nat.le_of_ble_eq_true rfl⟩ rfl rfl (Nat.le_of_ble_eq_true rfl) ⟨Nat.le_of_ble_eq_true rfl, Nat.le_of_ble_eq_true rfl⟩ dX2_changeSetting_1 (fun H locs Y => ?_)
  refine lv_if_ne (tgt := 11) hx hb dX2_changeSetting_4 (by decide) (fun c_3 => ?_) (fun c_3 => ?_)
  · have hrun := o_f hrun c_3
    refine lv_iload_n hx hb dX2_changeSetting_11 rfl (lv_at hl 2 rfl) ?_
    refine va_getsN hx hb hZ0 Y.2.2 S.2.2.2.1 (va_Nw.use rfl hN0) (fun _ h9 => h9) dX2_changeSetting_12 ?_
    refine lv_iload_n hx hb dX2_changeSetting_15 rfl (lv_at hl 1 rfl) ?_
    obtain ⟨b_4, hrun⟩ := o_xh hrun
    refine va_ti (v := .int (zs_f 0 (p1).toNatClampNeg)) hx hb hT0 Y.2.2 b_4 rfl dX2_changeSetting_16 ?_
    refine lv_icmp_lt (tgt := 29) hx hb dX2_changeSetting_17 (by decide) (fun c_5 => ?_) (fun c_5 => ?_)
    · have hrun := o_t hrun c_5
      refine lv_sipush (v := (-10002 : Int32)) hx hb dX2_changeSetting_29 (by decide) ?_
      cases hrun
      exact me_ri S hK Y hr hlk rfl dX2_changeSetting_32
    · have hrun := o_f hrun c_5
      refine lv_iload_n hx hb dX2_changeSetting_20 rfl (lv_at hl 2 rfl) ?_
      refine va_getsN hx hb hZ1 Y.2.2 S.2.2.2.1 (va_Nw.use rfl hN1) (fun _ h9 => h9) dX2_changeSetting_21 ?_
      refine lv_iload_n hx hb dX2_changeSetting_24 rfl (lv_at hl 1 rfl) ?_
      refine va_ti (v := .int (zs_f 1 (p1).toNatClampNeg)) hx hb hT1 Y.2.2 b_4 rfl dX2_changeSetting_25 ?_
      refine lv_icmp_le (tgt := 33) hx hb dX2_changeSetting_26 (by decide) (fun c_6 => ?_) (fun c_6 => ?_)
      · have hrun := o_t hrun c_6
        refine lv_aload_n hx hb dX2_changeSetting_33 rfl (lv_at hl 0 rfl) ?_
        refine ig S hK Y fX2_22 0 rfl (v := .ref (h 1)) rfl dX2_changeSetting_34 ?_
        refine lv_iload_n hx hb dX2_changeSetting_37 rfl (lv_at hl 1 rfl) ?_
        refine ia S hK Y 1 0 (f := (σ 1)) rfl rfl b_4 dX2_changeSetting_38 ?_
        refine lv_istore_n (lv' := [(3, .int ((σ 1) (p1).toNatClampNeg)), (0, .ref (h 0)), (1, .int p1), (2, .int p2)]) hx hb dX2_changeSetting_39 rfl hl (Nat.le_of_ble_eq_true rfl) rfl (fun ls hl => ?_)
        refine lv_aload_n hx hb dX2_changeSetting_40 rfl (lv_at hl 1 rfl) ?_
        refine ig S hK Y fX2_22 0 rfl (v := .ref (h 1)) rfl dX2_changeSetting_41 ?_
        refine lv_iload_n hx hb dX2_changeSetting_44 rfl (lv_at hl 2 rfl) ?_
        refine lv_iload_n hx hb dX2_changeSetting_45 rfl (lv_at hl 3 rfl) ?_
        refine iw S hK Y 1 0 (f := (σ 1)) rfl rfl b_4 (ws' := (wS cI h (sg_a σ 1 (upd (σ 1) (p1).toNatClampNeg p2)))) (wS_a1 _ _ _) dX2_changeSetting_46 (fun H locs Y => ?_)
        refine lv_iload_n hx hb dX2_changeSetting_47 rfl (lv_at hl 0 rfl) ?_
        cases hrun
        exact me_ri S hK Y hr hlk rfl dX2_changeSetting_48
      · have hrun := o_f hrun c_6
        refine lv_sipush (v := (-10002 : Int32)) hx hb dX2_changeSetting_29 (by decide) ?_
        cases hrun
        exact me_ri S hK Y hr hlk rfl dX2_changeSetting_32
  · have hrun := o_t hrun c_3
    refine lv_sipush (v := (-10002 : Int32)) hx hb dX2_changeSetting_7 (by decide) ?_
    cases hrun
    exact me_ri S hK Y hr hlk rfl dX2_changeSetting_10
def lX2_letAllEscape_2 : Nat → Int32 → (sg_T) → Option (sg_T)
  | 0, _, _ => none
  | n + 1, a1, σ => (if (σ 0 0) ≤ a1 then (some (σ)) else ((fX5_isHidden a1 σ).bind fun r_2 => (if r_2 = 0 then (lX2_letAllEscape_2 n (a1 + (1 : Int32)) σ) else ((fX2_escape a1 (1 : Int32) σ).bind fun σ5 => (lX2_letAllEscape_2 n (a1 + (1 : Int32)) σ5)))))
def fX2_letAllEscape (σ : sg_T) : Option (sg_T) := (lX2_letAllEscape_2 70 (0 : Int32) σ)
set_option maxRecDepth 100000 in
set_option maxHeartbeats 4000000 in
theorem mX2_letAllEscape (l : Launch) (D : va_G) (cI : ClassId) (h : Nat → Nat) (σ : sg_T) (σ' : sg_T) (hrun : fX2_letAllEscape σ = some σ') : me_V l D (tS cI) yX2_letAllEscape cX2_letAllEscape 2 2 42 (wS cI h σ) [.ref (h 0)] (wS cI h σ') := by
  refine me_ofV (plainFor_of_name (by decide)) (Nat.le_of_ble_eq_true rfl) ?_
  intro p e s m args below meth c A ls S hK Y hA hl hr hlk hZ
  have hx := S.1
  have hb := S.2.1
  have hl : lv_has ls 2 [(0, .ref (h 0))] := hl
  have lp2 : ∀ (n : Nat) (a1 : Int32) (σ : sg_T), lX2_letAllEscape_2 n a1 σ = some σ' → ∀ (H : Heap) (locs : List Loc) (ls : Array Slot), dy_ D A s (wS cI h σ) H locs → lv_has ls 2 [(0, .ref (h 0)), (1, .int a1)] → W p l e (rm_ 2 42) s m args below meth c H locs 0 0 (MQ below (me_Qv D (tS cI) A (wS cI h σ')) args s 0 0 A) (F0 m 2 ls []) := by
    intro n
    induction n with
    | zero => intro a1 σ hrun; cases hrun
    | succ n ih =>
      intro a1 σ hrun H locs ls Y hl
      unfold lX2_letAllEscape_2 at hrun
      refine lv_iload_n hx hb dX2_letAllEscape_2 rfl (lv_at hl 1 rfl) ?_
      refine lv_aload_n hx hb dX2_letAllEscape_3 rfl (lv_at hl 0 rfl) ?_
      refine ig S hK Y fX2_29 0 rfl (v := .int (σ 0 0)) rfl dX2_letAllEscape_4 ?_
      refine lv_icmp_ge (tgt := 30) hx hb dX2_letAllEscape_7 (by decide) (fun c_1 => ?_) (fun c_1 => ?_)
      · have hrun := o_t hrun c_1
        cases hrun
        exact me_rv S hK Y hr hlk dX2_letAllEscape_30
      · have hrun := o_f hrun c_1
        refine lv_aload_n hx hb dX2_letAllEscape_10 rfl (lv_at hl 0 rfl) ?_
        refine lv_iload_n hx hb dX2_letAllEscape_11 rfl (lv_at hl 1 rfl) ?_
        obtain ⟨r_2, e_3, hrun⟩ := o_bh hrun
        refine cf_v (As := [.int a1]) (rest := []) S hK hA hZ Y hl.1 (mX5_isHidden l D cI h σ a1 r_2 e_3) kX2_58 (T := TX5) (N := 16) rfl (q0 := 0) rfl ⟨Nat.le_of_ble_eq_true rfl, Nat.le_of_ble_eq_true rfl⟩ rfl rfl (Nat.le_of_ble_eq_true rfl) ⟨Nat.le_of_ble_eq_true rfl, Nat.le_of_ble_eq_true rfl⟩ dX2_letAllEscape_12 (fun H locs Y => ?_)
        refine lv_if_eq (tgt := 24) hx hb dX2_letAllEscape_15 (by decide) (fun c_4 => ?_) (fun c_4 => ?_)
        · have hrun := o_t hrun c_4
          refine lv_iinc (v := (a1 + (1 : Int32))) (lv' := [(1, .int (a1 + (1 : Int32))), (0, .ref (h 0))]) hx hb dX2_letAllEscape_24 hl (k := 1) rfl (by rfl) (Nat.le_of_ble_eq_true rfl) rfl (fun ls hl => ?_)
          refine lv_goto (tgt := 2) hx hb dX2_letAllEscape_27 (by decide) ?_
          exact ih (a1 + (1 : Int32)) σ hrun _ _ _ Y (lv_sub hl [1, 0] rfl)
        · have hrun := o_f hrun c_4
          refine lv_aload_n hx hb dX2_letAllEscape_18 rfl (lv_at hl 0 rfl) ?_
          refine lv_iload_n hx hb dX2_letAllEscape_19 rfl (lv_at hl 1 rfl) ?_
          refine lv_iconst (v := (1 : Int32)) hx hb dX2_letAllEscape_20 (by decide) ?_
          obtain ⟨σ5, e_6, hrun⟩ := o_bh hrun
          refine cf_sv (As := [.ref (h 0), .int a1, .int (1 : Int32)]) (rest := []) S hK hA hZ Y hl.1 (mX2_escape l D cI h σ a1 (1 : Int32) σ5 e_6) kX2_106 ⟨Nat.le_of_ble_eq_true rfl, Nat.le_of_ble_eq_true rfl⟩ rfl rfl (Nat.le_of_ble_eq_true rfl) ⟨Nat.le_of_ble_eq_true rfl, Nat.le_of_ble_eq_true rfl⟩ dX2_letAllEscape_21 (fun H locs Y => ?_)
          refine lv_iinc (v := (a1 + (1 : Int32))) (lv' := [(1, .int (a1 + (1 : Int32))), (0, .ref (h 0))]) hx hb dX2_letAllEscape_24 hl (k := 1) rfl (by rfl) (Nat.le_of_ble_eq_true rfl) rfl (fun ls hl => ?_)
          refine lv_goto (tgt := 2) hx hb dX2_letAllEscape_27 (by decide) ?_
          exact ih (a1 + (1 : Int32)) σ5 hrun _ _ _ Y (lv_sub hl [1, 0] rfl)
  unfold fX2_letAllEscape at hrun
  refine lv_iconst (v := (0 : Int32)) hx hb dX2_letAllEscape_0 (by decide) ?_
  refine lv_istore_n (lv' := [(1, .int (0 : Int32)), (0, .ref (h 0))]) hx hb dX2_letAllEscape_1 rfl hl (Nat.le_of_ble_eq_true rfl) rfl (fun ls hl => ?_)
  exact lp2 70 (0 : Int32) σ hrun _ _ _ Y (lv_sub hl [1, 0] rfl)
def lX4_seekerOfNextRound_6 : Nat → Int32 → Int32 → (sg_T) → Option (Int32)
  | 0, _, _, _ => none
  | n + 1, a1, a2, σ => (if (σ 0 0) ≤ a2 then (some a1) else ((fX5_isPlayer a1 σ).bind fun r_2 => (if r_2 = 0 then (lX4_seekerOfNextRound_6 n a2 (a2 + (1 : Int32)) σ) else ((fX4_seeksSooner a2 a1 σ).bind fun r_5 => (if r_5 = 0 then (lX4_seekerOfNextRound_6 n a1 (a2 + (1 : Int32)) σ) else (lX4_seekerOfNextRound_6 n a2 (a2 + (1 : Int32)) σ))))))
def fX4_seekerOfNextRound (σ : sg_T) : Option (Int32) := (lX4_seekerOfNextRound_6 70 (-10006 : Int32) (0 : Int32) σ)
set_option maxRecDepth 100000 in
set_option maxHeartbeats 4000000 in
theorem mX4_seekerOfNextRound (l : Launch) (D : va_G) (cI : ClassId) (h : Nat → Nat) (σ : sg_T) (r : Int32) (hrun : fX4_seekerOfNextRound σ = some r) : me_I l D (tS cI) yX4_seekerOfNextRound cX4_seekerOfNextRound 3 .int 2 44 (wS cI h σ) [.ref (h 0)] r (wS cI h σ) := by
  refine me_ofI (plainFor_of_name (by decide)) (Nat.le_of_ble_eq_true rfl) ?_
  intro p e s m args below meth c A ls S hK Y hA hl hr hlk hZ
  have hx := S.1
  have hb := S.2.1
  have hl : lv_has ls 3 [(0, .ref (h 0))] := hl
  have lp6 : ∀ (n : Nat) (a1 : Int32) (a2 : Int32), lX4_seekerOfNextRound_6 n a1 a2 σ = some r → ∀ (H : Heap) (locs : List Loc) (ls : Array Slot), dy_ D A s (wS cI h σ) H locs → lv_has ls 3 [(0, .ref (h 0)), (1, .int a1), (2, .int a2)] → W p l e (rm_ 2 44) s m args below meth c H locs 0 0 (MQ below (me_Qi D (tS cI) A r (wS cI h σ)) args s 0 0 A) (F0 m 6 ls []) := by
    intro n
    induction n with
    | zero => intro a1 a2 hrun; cases hrun
    | succ n ih =>
      intro a1 a2 hrun H locs ls Y hl
      unfold lX4_seekerOfNextRound_6 at hrun
      refine lv_iload_n hx hb dX4_seekerOfNextRound_6 rfl (lv_at hl 2 rfl) ?_
      refine lv_aload_n hx hb dX4_seekerOfNextRound_7 rfl (lv_at hl 0 rfl) ?_
      refine ig S hK Y fX4_18 0 rfl (v := .int (σ 0 0)) rfl dX4_seekerOfNextRound_8 ?_
      refine lv_icmp_ge (tgt := 39) hx hb dX4_seekerOfNextRound_11 (by decide) (fun c_1 => ?_) (fun c_1 => ?_)
      · have hrun := o_t hrun c_1
        refine lv_iload_n hx hb dX4_seekerOfNextRound_39 rfl (lv_at hl 1 rfl) ?_
        cases hrun
        exact me_ri S hK Y hr hlk rfl dX4_seekerOfNextRound_40
      · have hrun := o_f hrun c_1
        refine lv_aload_n hx hb dX4_seekerOfNextRound_14 rfl (lv_at hl 0 rfl) ?_
        refine lv_iload_n hx hb dX4_seekerOfNextRound_15 rfl (lv_at hl 1 rfl) ?_
        obtain ⟨r_2, e_3, hrun⟩ := o_bh hrun
        refine cf_v (As := [.int a1]) (rest := []) S hK hA hZ Y hl.1 (mX5_isPlayer l D cI h σ a1 r_2 e_3) kX4_32 (T := TX5) (N := 16) rfl (q0 := 0) rfl ⟨Nat.le_of_ble_eq_true rfl, Nat.le_of_ble_eq_true rfl⟩ rfl rfl (Nat.le_of_ble_eq_true rfl) ⟨Nat.le_of_ble_eq_true rfl, Nat.le_of_ble_eq_true rfl⟩ dX4_seekerOfNextRound_16 (fun H locs Y => ?_)
        refine lv_if_eq (tgt := 31) hx hb dX4_seekerOfNextRound_19 (by decide) (fun c_4 => ?_) (fun c_4 => ?_)
        · have hrun := o_t hrun c_4
          refine lv_iload_n hx hb dX4_seekerOfNextRound_31 rfl (lv_at hl 2 rfl) ?_
          refine lv_istore_n (lv' := [(1, .int a2), (0, .ref (h 0)), (2, .int a2)]) hx hb dX4_seekerOfNextRound_32 rfl hl (Nat.le_of_ble_eq_true rfl) rfl (fun ls hl => ?_)
          refine lv_iinc (v := (a2 + (1 : Int32))) (lv' := [(2, .int (a2 + (1 : Int32))), (1, .int a2), (0, .ref (h 0))]) hx hb dX4_seekerOfNextRound_33 hl (k := 2) rfl (by rfl) (Nat.le_of_ble_eq_true rfl) rfl (fun ls hl => ?_)
          refine lv_goto (tgt := 6) hx hb dX4_seekerOfNextRound_36 (by decide) ?_
          exact ih a2 (a2 + (1 : Int32)) hrun _ _ _ Y (lv_sub hl [2, 1, 0] rfl)
        · have hrun := o_f hrun c_4
          refine lv_aload_n hx hb dX4_seekerOfNextRound_22 rfl (lv_at hl 0 rfl) ?_
          refine lv_iload_n hx hb dX4_seekerOfNextRound_23 rfl (lv_at hl 2 rfl) ?_
          refine lv_iload_n hx hb dX4_seekerOfNextRound_24 rfl (lv_at hl 1 rfl) ?_
          obtain ⟨r_5, e_6, hrun⟩ := o_bh hrun
          refine cf_s (As := [.ref (h 0), .int a2, .int a1]) (rest := []) S hK hA hZ Y hl.1 (mX4_seeksSooner l D cI h σ a2 a1 r_5 e_6) kX4_36 ⟨Nat.le_of_ble_eq_true rfl, Nat.le_of_ble_eq_true rfl⟩ rfl rfl (Nat.le_of_ble_eq_true rfl) ⟨Nat.le_of_ble_eq_true rfl, Nat.le_of_ble_eq_true rfl⟩ dX4_seekerOfNextRound_25 (fun H locs Y => ?_)
          refine lv_if_eq (tgt := 33) hx hb dX4_seekerOfNextRound_28 (by decide) (fun c_7 => ?_) (fun c_7 => ?_)
          · have hrun := o_t hrun c_7
            refine lv_iinc (v := (a2 + (1 : Int32))) (lv' := [(2, .int (a2 + (1 : Int32))), (0, .ref (h 0)), (1, .int a1)]) hx hb dX4_seekerOfNextRound_33 hl (k := 2) rfl (by rfl) (Nat.le_of_ble_eq_true rfl) rfl (fun ls hl => ?_)
            refine lv_goto (tgt := 6) hx hb dX4_seekerOfNextRound_36 (by decide) ?_
            exact ih a1 (a2 + (1 : Int32)) hrun _ _ _ Y (lv_sub hl [1, 2, 0] rfl)
          · have hrun := o_f hrun c_7
            refine lv_iload_n hx hb dX4_seekerOfNextRound_31 rfl (lv_at hl 2 rfl) ?_
            refine lv_istore_n (lv' := [(1, .int a2), (0, .ref (h 0)), (2, .int a2)]) hx hb dX4_seekerOfNextRound_32 rfl hl (Nat.le_of_ble_eq_true rfl) rfl (fun ls hl => ?_)
            refine lv_iinc (v := (a2 + (1 : Int32))) (lv' := [(2, .int (a2 + (1 : Int32))), (1, .int a2), (0, .ref (h 0))]) hx hb dX4_seekerOfNextRound_33 hl (k := 2) rfl (by rfl) (Nat.le_of_ble_eq_true rfl) rfl (fun ls hl => ?_)
            refine lv_goto (tgt := 6) hx hb dX4_seekerOfNextRound_36 (by decide) ?_
            exact ih a2 (a2 + (1 : Int32)) hrun _ _ _ Y (lv_sub hl [2, 1, 0] rfl)
  unfold fX4_seekerOfNextRound at hrun
  refine lv_sipush (v := (-10006 : Int32)) hx hb dX4_seekerOfNextRound_0 (by decide) ?_
  refine lv_istore_n (lv' := [(1, .int (-10006 : Int32)), (0, .ref (h 0))]) hx hb dX4_seekerOfNextRound_3 rfl hl (Nat.le_of_ble_eq_true rfl) rfl (fun ls hl => ?_)
  refine lv_iconst (v := (0 : Int32)) hx hb dX4_seekerOfNextRound_4 (by decide) ?_
  refine lv_istore_n (lv' := [(2, .int (0 : Int32)), (1, .int (-10006 : Int32)), (0, .ref (h 0))]) hx hb dX4_seekerOfNextRound_5 rfl hl (Nat.le_of_ble_eq_true rfl) rfl (fun ls hl => ?_)
  exact lp6 70 (-10006 : Int32) (0 : Int32) hrun _ _ _ Y (lv_sub hl [2, 1, 0] rfl)
def fX5_hiderCount (p1 : Int32) (σ : sg_T) : Option (Int32) := ((fX5_hidersAt p1 σ).bind fun r_1 => ((fJ6_bitCount_0f7a4 r_1).bind fun r_3 => (some r_3)))
set_option maxRecDepth 100000 in
set_option maxHeartbeats 4000000 in
theorem mX5_hiderCount (l : Launch) (D : va_G) (cI : ClassId) (h : Nat → Nat) (σ : sg_T) (p1 : Int32) (r : Int32) (hrun : fX5_hiderCount p1 σ = some r) : me_I l D (tS cI) yX5_hiderCount cX5_hiderCount 2 .int 1 23 (wS cI h σ) [.ref (h 0), .int p1] r (wS cI h σ) := by
  refine me_ofI (plainFor_of_name (by decide)) (Nat.le_of_ble_eq_true rfl) ?_
  intro p e s m args below meth c A ls S hK Y hA hl hr hlk hZ
  have hx := S.1
  have hb := S.2.1
  have hl : lv_has ls 2 [(0, .ref (h 0)), (1, .int p1)] := hl
  unfold fX5_hiderCount at hrun
  refine lv_aload_n hx hb dX5_hiderCount_0 rfl (lv_at hl 0 rfl) ?_
  refine lv_iload_n hx hb dX5_hiderCount_1 rfl (lv_at hl 1 rfl) ?_
  obtain ⟨r_1, e_2, hrun⟩ := o_bh hrun
  refine cf_v (As := [.int p1]) (rest := []) S hK hA hZ Y hl.1 (mX5_hidersAt l D cI h σ p1 r_1 e_2) kX5_82 (T := TX5) (N := 16) rfl (q0 := 0) rfl ⟨Nat.le_of_ble_eq_true rfl, Nat.le_of_ble_eq_true rfl⟩ rfl rfl (Nat.le_of_ble_eq_true rfl) ⟨Nat.le_of_ble_eq_true rfl, Nat.le_of_ble_eq_true rfl⟩ dX5_hiderCount_2 (fun H locs Y => ?_)
  obtain ⟨r_3, e_4, hrun⟩ := o_bh hrun
  refine cp_s (As := [.int r_1]) (rest := []) S hK hA hZ Y hl.1 (mJ6_bitCount_0f7a4 l D r_1 r_3 e_4) kX5_86 ⟨Nat.le_of_ble_eq_true rfl, Nat.le_of_ble_eq_true rfl⟩ rfl rfl (Nat.le_of_ble_eq_true rfl) ⟨Nat.le_of_ble_eq_true rfl, Nat.le_of_ble_eq_true rfl⟩ dX5_hiderCount_5 (fun H locs Y => ?_)
  cases hrun
  exact me_ri S hK Y hr hlk rfl dX5_hiderCount_8
def fX5_isRetired (p1 : Int32) (σ : sg_T) : Option (Int32) := ((fX6_isSpot p1).bind fun r_1 => (if r_1 = 0 then (some (0 : Int32)) else (o_x p1 16 (if ((σ 9) (p1).toNatClampNeg) = (-1 : Int32) then (some (0 : Int32)) else (some (1 : Int32))))))
set_option maxRecDepth 100000 in
set_option maxHeartbeats 4000000 in
theorem mX5_isRetired (l : Launch) (D : va_G) (cI : ClassId) (h : Nat → Nat) (σ : sg_T) (p1 : Int32) (r : Int32) (hrun : fX5_isRetired p1 σ = some r) : me_I l D (tS cI) yX5_isRetired cX5_isRetired 2 .boolean 1 20 (wS cI h σ) [.ref (h 0), .int p1] r (wS cI h σ) := by
  refine me_ofI (plainFor_of_name (by decide)) (Nat.le_of_ble_eq_true rfl) ?_
  intro p e s m args below meth c A ls S hK Y hA hl hr hlk hZ
  have hx := S.1
  have hb := S.2.1
  have hl : lv_has ls 2 [(0, .ref (h 0)), (1, .int p1)] := hl
  unfold fX5_isRetired at hrun
  refine lv_iload_n hx hb dX5_isRetired_0 rfl (lv_at hl 1 rfl) ?_
  obtain ⟨r_1, e_2, hrun⟩ := o_bh hrun
  refine cp_s (As := [.int p1]) (rest := []) S hK hA hZ Y hl.1 (mX6_isSpot l D p1 r_1 e_2) kX5_91 ⟨Nat.le_of_ble_eq_true rfl, Nat.le_of_ble_eq_true rfl⟩ rfl rfl (Nat.le_of_ble_eq_true rfl) ⟨Nat.le_of_ble_eq_true rfl, Nat.le_of_ble_eq_true rfl⟩ dX5_isRetired_1 (fun H locs Y => ?_)
  refine lv_if_eq (tgt := 21) hx hb dX5_isRetired_4 (by decide) (fun c_3 => ?_) (fun c_3 => ?_)
  · have hrun := o_t hrun c_3
    refine lv_iconst (v := (0 : Int32)) hx hb dX5_isRetired_21 (by decide) ?_
    cases hrun
    exact me_ri S hK Y hr hlk rfl dX5_isRetired_22
  · have hrun := o_f hrun c_3
    refine lv_aload_n hx hb dX5_isRetired_7 rfl (lv_at hl 0 rfl) ?_
    refine ig S hK Y fX5_38 0 rfl (v := .ref (h 9)) rfl dX5_isRetired_8 ?_
    refine lv_iload_n hx hb dX5_isRetired_11 rfl (lv_at hl 1 rfl) ?_
    obtain ⟨b_4, hrun⟩ := o_xh hrun
    refine ia S hK Y 9 0 (f := (σ 9)) rfl rfl b_4 dX5_isRetired_12 ?_
    refine lv_iconst (v := (-1 : Int32)) hx hb dX5_isRetired_13 (by decide) ?_
    refine lv_icmp_eq (tgt := 21) hx hb dX5_isRetired_14 (by decide) (fun c_5 => ?_) (fun c_5 => ?_)
    · have hrun := o_t hrun c_5
      refine lv_iconst (v := (0 : Int32)) hx hb dX5_isRetired_21 (by decide) ?_
      cases hrun
      exact me_ri S hK Y hr hlk rfl dX5_isRetired_22
    · have hrun := o_f hrun c_5
      refine lv_iconst (v := (1 : Int32)) hx hb dX5_isRetired_17 (by decide) ?_
      refine lv_goto (tgt := 22) hx hb dX5_isRetired_18 (by decide) ?_
      cases hrun
      exact me_ri S hK Y hr hlk rfl dX5_isRetired_22
def lX5_retiredCount_4 : Nat → Int32 → Int32 → (sg_T) → Option (Int32)
  | 0, _, _, _ => none
  | n + 1, a1, a2, σ => (if (16 : Int32) ≤ a2 then (some a1) else ((fX5_isRetired a2 σ).bind fun r_2 => (if r_2 = 0 then (lX5_retiredCount_4 n a1 (a2 + (1 : Int32)) σ) else (lX5_retiredCount_4 n (a1 + (1 : Int32)) (a2 + (1 : Int32)) σ))))
def fX5_retiredCount (σ : sg_T) : Option (Int32) := (lX5_retiredCount_4 70 (0 : Int32) (0 : Int32) σ)
set_option maxRecDepth 100000 in
set_option maxHeartbeats 4000000 in
theorem mX5_retiredCount (l : Launch) (D : va_G) (cI : ClassId) (h : Nat → Nat) (σ : sg_T) (r : Int32) (hrun : fX5_retiredCount σ = some r) : me_I l D (tS cI) yX5_retiredCount cX5_retiredCount 3 .int 2 41 (wS cI h σ) [.ref (h 0)] r (wS cI h σ) := by
  refine me_ofI (plainFor_of_name (by decide)) (Nat.le_of_ble_eq_true rfl) ?_
  intro p e s m args below meth c A ls S hK Y hA hl hr hlk hZ
  have hx := S.1
  have hb := S.2.1
  have hl : lv_has ls 3 [(0, .ref (h 0))] := hl
  have lp4 : ∀ (n : Nat) (a1 : Int32) (a2 : Int32), lX5_retiredCount_4 n a1 a2 σ = some r → ∀ (H : Heap) (locs : List Loc) (ls : Array Slot), dy_ D A s (wS cI h σ) H locs → lv_has ls 3 [(0, .ref (h 0)), (1, .int a1), (2, .int a2)] → W p l e (rm_ 2 41) s m args below meth c H locs 0 0 (MQ below (me_Qi D (tS cI) A r (wS cI h σ)) args s 0 0 A) (F0 m 4 ls []) := by
    intro n
    induction n with
    | zero => intro a1 a2 hrun; cases hrun
    | succ n ih =>
      intro a1 a2 hrun H locs ls Y hl
      unfold lX5_retiredCount_4 at hrun
      refine lv_iload_n hx hb dX5_retiredCount_4 rfl (lv_at hl 2 rfl) ?_
      refine lv_bipush (v := (16 : Int32)) hx hb dX5_retiredCount_5 (by decide) ?_
      refine lv_icmp_ge (tgt := 27) hx hb dX5_retiredCount_7 (by decide) (fun c_1 => ?_) (fun c_1 => ?_)
      · have hrun := o_t hrun c_1
        refine lv_iload_n hx hb dX5_retiredCount_27 rfl (lv_at hl 1 rfl) ?_
        cases hrun
        exact me_ri S hK Y hr hlk rfl dX5_retiredCount_28
      · have hrun := o_f hrun c_1
        refine lv_aload_n hx hb dX5_retiredCount_10 rfl (lv_at hl 0 rfl) ?_
        refine lv_iload_n hx hb dX5_retiredCount_11 rfl (lv_at hl 2 rfl) ?_
        obtain ⟨r_2, e_3, hrun⟩ := o_bh hrun
        refine cf_v (As := [.int a2]) (rest := []) S hK hA hZ Y hl.1 (mX5_isRetired l D cI h σ a2 r_2 e_3) kX5_94 (T := TX5) (N := 16) rfl (q0 := 0) rfl ⟨Nat.le_of_ble_eq_true rfl, Nat.le_of_ble_eq_true rfl⟩ rfl rfl (Nat.le_of_ble_eq_true rfl) ⟨Nat.le_of_ble_eq_true rfl, Nat.le_of_ble_eq_true rfl⟩ dX5_retiredCount_12 (fun H locs Y => ?_)
        refine lv_if_eq (tgt := 21) hx hb dX5_retiredCount_15 (by decide) (fun c_4 => ?_) (fun c_4 => ?_)
        · have hrun := o_t hrun c_4
          refine lv_iinc (v := (a2 + (1 : Int32))) (lv' := [(2, .int (a2 + (1 : Int32))), (0, .ref (h 0)), (1, .int a1)]) hx hb dX5_retiredCount_21 hl (k := 2) rfl (by rfl) (Nat.le_of_ble_eq_true rfl) rfl (fun ls hl => ?_)
          refine lv_goto (tgt := 4) hx hb dX5_retiredCount_24 (by decide) ?_
          exact ih a1 (a2 + (1 : Int32)) hrun _ _ _ Y (lv_sub hl [1, 2, 0] rfl)
        · have hrun := o_f hrun c_4
          refine lv_iinc (v := (a1 + (1 : Int32))) (lv' := [(1, .int (a1 + (1 : Int32))), (0, .ref (h 0)), (2, .int a2)]) hx hb dX5_retiredCount_18 hl (k := 1) rfl (by rfl) (Nat.le_of_ble_eq_true rfl) rfl (fun ls hl => ?_)
          refine lv_iinc (v := (a2 + (1 : Int32))) (lv' := [(2, .int (a2 + (1 : Int32))), (1, .int (a1 + (1 : Int32))), (0, .ref (h 0))]) hx hb dX5_retiredCount_21 hl (k := 2) rfl (by rfl) (Nat.le_of_ble_eq_true rfl) rfl (fun ls hl => ?_)
          refine lv_goto (tgt := 4) hx hb dX5_retiredCount_24 (by decide) ?_
          exact ih (a1 + (1 : Int32)) (a2 + (1 : Int32)) hrun _ _ _ Y (lv_sub hl [2, 1, 0] rfl)
  unfold fX5_retiredCount at hrun
  refine lv_iconst (v := (0 : Int32)) hx hb dX5_retiredCount_0 (by decide) ?_
  refine lv_istore_n (lv' := [(1, .int (0 : Int32)), (0, .ref (h 0))]) hx hb dX5_retiredCount_1 rfl hl (Nat.le_of_ble_eq_true rfl) rfl (fun ls hl => ?_)
  refine lv_iconst (v := (0 : Int32)) hx hb dX5_retiredCount_2 (by decide) ?_
  refine lv_istore_n (lv' := [(2, .int (0 : Int32)), (1, .int (0 : Int32)), (0, .ref (h 0))]) hx hb dX5_retiredCount_3 rfl hl (Nat.le_of_ble_eq_true rfl) rfl (fun ls hl => ?_)
  exact lp4 70 (0 : Int32) (0 : Int32) hrun _ _ _ Y (lv_sub hl [2, 1, 0] rfl)
def fX5_isFull (p1 : Int32) (σ : sg_T) : Option (Int32) := ((fX5_hiderCount p1 σ).bind fun r_1 => (if r_1 < (2 : Int32) then (some (0 : Int32)) else (some (1 : Int32))))
set_option maxRecDepth 100000 in
set_option maxHeartbeats 4000000 in
theorem mX5_isFull (l : Launch) (D : va_G) (cI : ClassId) (h : Nat → Nat) (σ : sg_T) (p1 : Int32) (r : Int32) (hrun : fX5_isFull p1 σ = some r) : me_I l D (tS cI) yX5_isFull cX5_isFull 2 .boolean 2 44 (wS cI h σ) [.ref (h 0), .int p1] r (wS cI h σ) := by
  refine me_ofI (plainFor_of_name (by decide)) (Nat.le_of_ble_eq_true rfl) ?_
  intro p e s m args below meth c A ls S hK Y hA hl hr hlk hZ
  have hx := S.1
  have hb := S.2.1
  have hl : lv_has ls 2 [(0, .ref (h 0)), (1, .int p1)] := hl
  unfold fX5_isFull at hrun
  refine lv_aload_n hx hb dX5_isFull_0 rfl (lv_at hl 0 rfl) ?_
  refine lv_iload_n hx hb dX5_isFull_1 rfl (lv_at hl 1 rfl) ?_
  obtain ⟨r_1, e_2, hrun⟩ := o_bh hrun
  refine cf_v (As := [.int p1]) (rest := []) S hK hA hZ Y hl.1 (mX5_hiderCount l D cI h σ p1 r_1 e_2) kX5_100 (T := TX5) (N := 16) rfl (q0 := 0) rfl ⟨Nat.le_of_ble_eq_true rfl, Nat.le_of_ble_eq_true rfl⟩ rfl rfl (Nat.le_of_ble_eq_true rfl) ⟨Nat.le_of_ble_eq_true rfl, Nat.le_of_ble_eq_true rfl⟩ dX5_isFull_2 (fun H locs Y => ?_)
  refine lv_iconst (v := (2 : Int32)) hx hb dX5_isFull_5 (by decide) ?_
  refine lv_icmp_lt (tgt := 13) hx hb dX5_isFull_6 (by decide) (fun c_3 => ?_) (fun c_3 => ?_)
  · have hrun := o_t hrun c_3
    refine lv_iconst (v := (0 : Int32)) hx hb dX5_isFull_13 (by decide) ?_
    cases hrun
    exact me_ri S hK Y hr hlk rfl dX5_isFull_14
  · have hrun := o_f hrun c_3
    refine lv_iconst (v := (1 : Int32)) hx hb dX5_isFull_9 (by decide) ?_
    refine lv_goto (tgt := 14) hx hb dX5_isFull_10 (by decide) ?_
    cases hrun
    exact me_ri S hK Y hr hlk rfl dX5_isFull_14
def fX6_stepsUp (p0 p1 : Int32) : Option Int32 := ((fJ9_floorMod_7cf53 (p1 - p0) (16 : Int32)).bind fun r_1 => (some r_1))
set_option maxRecDepth 100000 in
set_option maxHeartbeats 4000000 in
theorem mX6_stepsUp (l : Launch) (D : va_G) (p0 p1 : Int32) (r : Int32) (hrun : fX6_stepsUp p0 p1 = some r) : me_I l D [] yX6_stepsUp cX6_stepsUp 2 .int 1 22 [] [.int p0, .int p1] r [] := by
  refine me_ofI (plainFor_of_name (by decide)) (Nat.le_of_ble_eq_true rfl) ?_
  intro p e s m args below meth c A ls S hK Y hA hl hr hlk hZ
  have hx := S.1
  have hb := S.2.1
  have hl : lv_has ls 2 [(0, .int p0), (1, .int p1)] := hl
  unfold fX6_stepsUp at hrun
  refine lv_iload_n hx hb dX6_stepsUp_0 rfl (lv_at hl 1 rfl) ?_
  refine lv_iload_n hx hb dX6_stepsUp_1 rfl (lv_at hl 0 rfl) ?_
  refine lv_isub hx hb dX6_stepsUp_2 ?_
  refine lv_bipush (v := (16 : Int32)) hx hb dX6_stepsUp_3 (by decide) ?_
  obtain ⟨r_1, e_2, hrun⟩ := o_bh hrun
  refine cp_s (As := [.int (p1 - p0), .int (16 : Int32)]) (rest := []) S hK hA hZ Y hl.1 (mJ9_floorMod_7cf53 l D (p1 - p0) (16 : Int32) r_1 e_2) kX6_18 ⟨Nat.le_of_ble_eq_true rfl, Nat.le_of_ble_eq_true rfl⟩ rfl rfl (Nat.le_of_ble_eq_true rfl) ⟨Nat.le_of_ble_eq_true rfl, Nat.le_of_ble_eq_true rfl⟩ dX6_stepsUp_5 (fun H locs Y => ?_)
  cases hrun
  exact me_ri S hK Y hr hlk rfl dX6_stepsUp_8
def fX6_beside (p0 p1 : Int32) : Option Int32 := ((fJ9_floorMod_7cf53 (p0 + p1) (16 : Int32)).bind fun r_1 => (some r_1))
set_option maxRecDepth 100000 in
set_option maxHeartbeats 4000000 in
theorem mX6_beside (l : Launch) (D : va_G) (p0 p1 : Int32) (r : Int32) (hrun : fX6_beside p0 p1 = some r) : me_I l D [] yX6_beside cX6_beside 2 .int 1 22 [] [.int p0, .int p1] r [] := by
  refine me_ofI (plainFor_of_name (by decide)) (Nat.le_of_ble_eq_true rfl) ?_
  intro p e s m args below meth c A ls S hK Y hA hl hr hlk hZ
  have hx := S.1
  have hb := S.2.1
  have hl : lv_has ls 2 [(0, .int p0), (1, .int p1)] := hl
  unfold fX6_beside at hrun
  refine lv_iload_n hx hb dX6_beside_0 rfl (lv_at hl 0 rfl) ?_
  refine lv_iload_n hx hb dX6_beside_1 rfl (lv_at hl 1 rfl) ?_
  refine lv_iadd hx hb dX6_beside_2 ?_
  refine lv_bipush (v := (16 : Int32)) hx hb dX6_beside_3 (by decide) ?_
  obtain ⟨r_1, e_2, hrun⟩ := o_bh hrun
  refine cp_s (As := [.int (p0 + p1), .int (16 : Int32)]) (rest := []) S hK hA hZ Y hl.1 (mJ9_floorMod_7cf53 l D (p0 + p1) (16 : Int32) r_1 e_2) kX6_18 ⟨Nat.le_of_ble_eq_true rfl, Nat.le_of_ble_eq_true rfl⟩ rfl rfl (Nat.le_of_ble_eq_true rfl) ⟨Nat.le_of_ble_eq_true rfl, Nat.le_of_ble_eq_true rfl⟩ dX6_beside_5 (fun H locs Y => ?_)
  cases hrun
  exact me_ri S hK Y hr hlk rfl dX6_beside_8
def fX2_moveSeeker (p1 : Int32) (σ : sg_T) : Option (Int32 × sg_T) := (if p1 < (-1 : Int32) then (some ((-10002 : Int32), σ)) else (if p1 ≤ (1 : Int32) then (if (σ 0 2) = (2 : Int32) then ((fX6_beside (σ 0 5) p1).bind fun r_4 => (some (r_4, (sg_a σ 0 (sg_u (σ 0) 5 r_4))))) else (some ((-10003 : Int32), σ))) else (some ((-10002 : Int32), σ))))
set_option maxRecDepth 100000 in
set_option maxHeartbeats 4000000 in
theorem mX2_moveSeeker (l : Launch) (D : va_G) (cI : ClassId) (h : Nat → Nat) (σ : sg_T) (p1 : Int32) (r : Int32) (σ' : sg_T) (hrun : fX2_moveSeeker p1 σ = some (r, σ')) : me_I l D (tS cI) yX2_moveSeeker cX2_moveSeeker 2 .int 2 43 (wS cI h σ) [.ref (h 0), .int p1] r (wS cI h σ') := by
  refine me_ofI (plainFor_of_name (by decide)) (Nat.le_of_ble_eq_true rfl) ?_
  intro p e s m args below meth c A ls S hK Y hA hl hr hlk hZ
  have hx := S.1
  have hb := S.2.1
  have hl : lv_has ls 2 [(0, .ref (h 0)), (1, .int p1)] := hl
  unfold fX2_moveSeeker at hrun
  refine lv_iload_n hx hb dX2_moveSeeker_0 rfl (lv_at hl 1 rfl) ?_
  refine lv_iconst (v := (-1 : Int32)) hx hb dX2_moveSeeker_1 (by decide) ?_
  refine lv_icmp_lt (tgt := 10) hx hb dX2_moveSeeker_2 (by decide) (fun c_1 => ?_) (fun c_1 => ?_)
  · have hrun := o_t hrun c_1
    refine lv_sipush (v := (-10002 : Int32)) hx hb dX2_moveSeeker_10 (by decide) ?_
    cases hrun
    exact me_ri S hK Y hr hlk rfl dX2_moveSeeker_13
  · have hrun := o_f hrun c_1
    refine lv_iload_n hx hb dX2_moveSeeker_5 rfl (lv_at hl 1 rfl) ?_
    refine lv_iconst (v := (1 : Int32)) hx hb dX2_moveSeeker_6 (by decide) ?_
    refine lv_icmp_le (tgt := 14) hx hb dX2_moveSeeker_7 (by decide) (fun c_2 => ?_) (fun c_2 => ?_)
    · have hrun := o_t hrun c_2
      refine lv_aload_n hx hb dX2_moveSeeker_14 rfl (lv_at hl 0 rfl) ?_
      refine ig S hK Y fX2_25 0 rfl (v := .int (σ 0 2)) rfl dX2_moveSeeker_15 ?_
      refine lv_iconst (v := (2 : Int32)) hx hb dX2_moveSeeker_18 (by decide) ?_
      refine lv_icmp_eq (tgt := 26) hx hb dX2_moveSeeker_19 (by decide) (fun c_3 => ?_) (fun c_3 => ?_)
      · have hrun := o_t hrun c_3
        refine lv_aload_n hx hb dX2_moveSeeker_26 rfl (lv_at hl 0 rfl) ?_
        refine lv_aload_n hx hb dX2_moveSeeker_27 rfl (lv_at hl 0 rfl) ?_
        refine ig S hK Y fX2_74 0 rfl (v := .int (σ 0 5)) rfl dX2_moveSeeker_28 ?_
        refine lv_iload_n hx hb dX2_moveSeeker_31 rfl (lv_at hl 1 rfl) ?_
        obtain ⟨r_4, e_5, hrun⟩ := o_bh hrun
        refine cp_s (As := [.int (σ 0 5), .int p1]) (rest := [.ref (h 0)]) S hK hA hZ Y hl.1 (mX6_beside l D (σ 0 5) p1 r_4 e_5) kX2_85 ⟨Nat.le_of_ble_eq_true rfl, Nat.le_of_ble_eq_true rfl⟩ rfl rfl (Nat.le_of_ble_eq_true rfl) ⟨Nat.le_of_ble_eq_true rfl, Nat.le_of_ble_eq_true rfl⟩ dX2_moveSeeker_32 (fun H locs Y => ?_)
        refine ip S hK Y fX2_74 fpX5 rfl 0 (fs := vS h (σ 0)) rfl rfl rfl (Nat.le_of_ble_eq_true rfl) (ws' := (wS cI h (sg_a σ 0 (sg_u (σ 0) 5 r_4)))) (wS_f5 _ _ _ _) dX2_moveSeeker_35 (fun H locs Y => ?_)
        refine lv_aload_n hx hb dX2_moveSeeker_38 rfl (lv_at hl 0 rfl) ?_
        refine ig S hK Y fX2_74 0 rfl (v := .int r_4) rfl dX2_moveSeeker_39 ?_
        cases hrun
        exact me_ri S hK Y hr hlk rfl dX2_moveSeeker_42
      · have hrun := o_f hrun c_3
        refine lv_sipush (v := (-10003 : Int32)) hx hb dX2_moveSeeker_22 (by decide) ?_
        cases hrun
        exact me_ri S hK Y hr hlk rfl dX2_moveSeeker_25
    · have hrun := o_f hrun c_2
      refine lv_sipush (v := (-10002 : Int32)) hx hb dX2_moveSeeker_10 (by decide) ?_
      cases hrun
      exact me_ri S hK Y hr hlk rfl dX2_moveSeeker_13
def fX2_countFindOfSpot (p1 : Int32) (σ : sg_T) : Option (sg_T) := (o_x p1 16 (if ((upd (σ 8) (p1).toNatClampNeg (((σ 8) (p1).toNatClampNeg) + (1 : Int32))) (p1).toNatClampNeg) < ((σ 1) ((1 : Int32)).toNatClampNeg) then (some ((sg_a σ 8 (upd (σ 8) (p1).toNatClampNeg (((σ 8) (p1).toNatClampNeg) + (1 : Int32)))))) else ((fX5_isRetired p1 (sg_a σ 8 (upd (σ 8) (p1).toNatClampNeg (((σ 8) (p1).toNatClampNeg) + (1 : Int32))))).bind fun r_3 => (if r_3 = 0 then (some ((sg_a (sg_a σ 8 (upd (σ 8) (p1).toNatClampNeg (((σ 8) (p1).toNatClampNeg) + (1 : Int32)))) 9 (upd (σ 9) (p1).toNatClampNeg (0 : Int32))))) else (some ((sg_a σ 8 (upd (σ 8) (p1).toNatClampNeg (((σ 8) (p1).toNatClampNeg) + (1 : Int32))))))))))
set_option maxRecDepth 100000 in
set_option maxHeartbeats 4000000 in
theorem mX2_countFindOfSpot (l : Launch) (D : va_G) (cI : ClassId) (h : Nat → Nat) (σ : sg_T) (p1 : Int32) (σ' : sg_T) (hrun : fX2_countFindOfSpot p1 σ = some σ') : me_V l D (tS cI) yX2_countFindOfSpot cX2_countFindOfSpot 3 2 41 (wS cI h σ) [.ref (h 0), .int p1] (wS cI h σ') := by
  refine me_ofV (plainFor_of_name (by decide)) (Nat.le_of_ble_eq_true rfl) ?_
  intro p e s m args below meth c A ls S hK Y hA hl hr hlk hZ
  have hx := S.1
  have hb := S.2.1
  have hl : lv_has ls 3 [(0, .ref (h 0)), (1, .int p1)] := hl
  unfold fX2_countFindOfSpot at hrun
  refine lv_aload_n hx hb dX2_countFindOfSpot_0 rfl (lv_at hl 0 rfl) ?_
  refine ig S hK Y fX2_115 0 rfl (v := .ref (h 8)) rfl dX2_countFindOfSpot_1 ?_
  refine lv_iload_n hx hb dX2_countFindOfSpot_4 rfl (lv_at hl 1 rfl) ?_
  refine lv_dup2_11 hx hb dX2_countFindOfSpot_5 rfl rfl ?_
  obtain ⟨b_1, hrun⟩ := o_xh hrun
  refine ia S hK Y 8 0 (f := (σ 8)) rfl rfl b_1 dX2_countFindOfSpot_6 ?_
  refine lv_iconst (v := (1 : Int32)) hx hb dX2_countFindOfSpot_7 (by decide) ?_
  refine lv_iadd hx hb dX2_countFindOfSpot_8 ?_
  refine iw S hK Y 8 0 (f := (σ 8)) rfl rfl b_1 (ws' := (wS cI h (sg_a σ 8 (upd (σ 8) (p1).toNatClampNeg (((σ 8) (p1).toNatClampNeg) + (1 : Int32)))))) (wS_a8 _ _ _) dX2_countFindOfSpot_9 (fun H locs Y => ?_)
  refine lv_aload_n hx hb dX2_countFindOfSpot_10 rfl (lv_at hl 0 rfl) ?_
  refine ig S hK Y fX2_115 0 rfl (v := .ref (h 8)) rfl dX2_countFindOfSpot_11 ?_
  refine lv_iload_n hx hb dX2_countFindOfSpot_14 rfl (lv_at hl 1 rfl) ?_
  refine ia S hK Y 8 0 (f := (upd (σ 8) (p1).toNatClampNeg (((σ 8) (p1).toNatClampNeg) + (1 : Int32)))) rfl rfl b_1 dX2_countFindOfSpot_15 ?_
  refine lv_aload_n hx hb dX2_countFindOfSpot_16 rfl (lv_at hl 0 rfl) ?_
  refine ig S hK Y fX2_22 0 rfl (v := .ref (h 1)) rfl dX2_countFindOfSpot_17 ?_
  refine lv_iconst (v := (1 : Int32)) hx hb dX2_countFindOfSpot_20 (by decide) ?_
  refine ia S hK Y 1 0 (f := (σ 1)) rfl rfl (show ¬ ((1 : Int32) < 0 ∨ 4 ≤ ((1 : Int32)).toNatClampNeg) by decide) dX2_countFindOfSpot_21 ?_
  refine lv_icmp_lt (tgt := 29) hx hb dX2_countFindOfSpot_22 (by decide) (fun c_2 => ?_) (fun c_2 => ?_)
  · have hrun := o_t hrun c_2
    refine lv_iconst (v := (0 : Int32)) hx hb dX2_countFindOfSpot_29 (by decide) ?_
    refine lv_istore_n (lv' := [(2, .int (0 : Int32)), (0, .ref (h 0)), (1, .int p1)]) hx hb dX2_countFindOfSpot_30 rfl hl (Nat.le_of_ble_eq_true rfl) rfl (fun ls hl => ?_)
    refine lv_iload_n hx hb dX2_countFindOfSpot_31 rfl (lv_at hl 0 rfl) ?_
    refine lv_if_eq (tgt := 50) hx hb dX2_countFindOfSpot_32 (by decide) (fun _ => ?_) (fun q => absurd (by decide) q)
    cases hrun
    exact me_rv S hK Y hr hlk dX2_countFindOfSpot_50
  · have hrun := o_f hrun c_2
    refine lv_iconst (v := (1 : Int32)) hx hb dX2_countFindOfSpot_25 (by decide) ?_
    refine lv_goto (tgt := 30) hx hb dX2_countFindOfSpot_26 (by decide) ?_
    refine lv_istore_n (lv' := [(2, .int (1 : Int32)), (0, .ref (h 0)), (1, .int p1)]) hx hb dX2_countFindOfSpot_30 rfl hl (Nat.le_of_ble_eq_true rfl) rfl (fun ls hl => ?_)
    refine lv_iload_n hx hb dX2_countFindOfSpot_31 rfl (lv_at hl 0 rfl) ?_
    refine lv_if_eq (tgt := 50) hx hb dX2_countFindOfSpot_32 (by decide) (fun q => absurd q (by decide)) (fun _ => ?_)
    refine lv_aload_n hx hb dX2_countFindOfSpot_35 rfl (lv_at hl 1 rfl) ?_
    refine lv_iload_n hx hb dX2_countFindOfSpot_36 rfl (lv_at hl 2 rfl) ?_
    obtain ⟨r_3, e_4, hrun⟩ := o_bh hrun
    refine cf_v (As := [.int p1]) (rest := []) S hK hA hZ Y hl.1 (mX5_isRetired l D cI h (sg_a σ 8 (upd (σ 8) (p1).toNatClampNeg (((σ 8) (p1).toNatClampNeg) + (1 : Int32)))) p1 r_3 e_4) kX2_118 (T := TX5) (N := 16) rfl (q0 := 0) rfl ⟨Nat.le_of_ble_eq_true rfl, Nat.le_of_ble_eq_true rfl⟩ rfl rfl (Nat.le_of_ble_eq_true rfl) ⟨Nat.le_of_ble_eq_true rfl, Nat.le_of_ble_eq_true rfl⟩ dX2_countFindOfSpot_37 (fun H locs Y => ?_)
    refine lv_if_ne (tgt := 50) hx hb dX2_countFindOfSpot_40 (by decide) (fun c_5 => ?_) (fun c_5 => ?_)
    · have hrun := o_f hrun c_5
      cases hrun
      exact me_rv S hK Y hr hlk dX2_countFindOfSpot_50
    · have hrun := o_t hrun c_5
      refine lv_aload_n hx hb dX2_countFindOfSpot_43 rfl (lv_at hl 1 rfl) ?_
      refine ig S hK Y fX2_121 0 rfl (v := .ref (h 9)) rfl dX2_countFindOfSpot_44 ?_
      refine lv_iload_n hx hb dX2_countFindOfSpot_47 rfl (lv_at hl 2 rfl) ?_
      refine lv_iconst (v := (0 : Int32)) hx hb dX2_countFindOfSpot_48 (by decide) ?_
      refine iw S hK Y 9 0 (f := (σ 9)) rfl rfl b_1 (ws' := (wS cI h (sg_a (sg_a σ 8 (upd (σ 8) (p1).toNatClampNeg (((σ 8) (p1).toNatClampNeg) + (1 : Int32)))) 9 (upd (σ 9) (p1).toNatClampNeg (0 : Int32))))) (wS_a9 _ _ _) dX2_countFindOfSpot_49 (fun H locs Y => ?_)
      cases hrun
      exact me_rv S hK Y hr hlk dX2_countFindOfSpot_50
def lX2_endRound_43 : Nat → Int32 → (sg_T) → Option (sg_T)
  | 0, _, _ => none
  | n + 1, a1, σ => (if (16 : Int32) ≤ a1 then (some (σ)) else ((fX5_isRetired a1 σ).bind fun r_2 => (if r_2 = 0 then (lX2_endRound_43 n (a1 + (1 : Int32)) σ) else ((fX2_restSpot a1 σ).bind fun σ5 => (lX2_endRound_43 n (a1 + (1 : Int32)) σ5)))))
def fX2_endRound (σ : sg_T) : Option (sg_T) := (lX2_endRound_43 70 (0 : Int32) (sg_a (sg_a (sg_a (sg_a (sg_a (sg_a σ 0 (sg_u (σ 0) 2 (0 : Int32))) 0 (sg_u (sg_u (σ 0) 2 (0 : Int32)) 3 (-10006 : Int32))) 0 (sg_u (sg_u (sg_u (σ 0) 2 (0 : Int32)) 3 (-10006 : Int32)) 4 (-10006 : Int32))) 0 (sg_u (sg_u (sg_u (sg_u (σ 0) 2 (0 : Int32)) 3 (-10006 : Int32)) 4 (-10006 : Int32)) 5 (-10006 : Int32))) 0 (sg_u (sg_u (sg_u (sg_u (sg_u (σ 0) 2 (0 : Int32)) 3 (-10006 : Int32)) 4 (-10006 : Int32)) 5 (-10006 : Int32)) 6 (0 : Int32))) 0 (sg_u (sg_u (sg_u (sg_u (sg_u (sg_u (σ 0) 2 (0 : Int32)) 3 (-10006 : Int32)) 4 (-10006 : Int32)) 5 (-10006 : Int32)) 6 (0 : Int32)) 1 ((σ 0 1) + (1 : Int32)))))
set_option maxRecDepth 100000 in
set_option maxHeartbeats 4000000 in
theorem mX2_endRound (l : Launch) (D : va_G) (cI : ClassId) (h : Nat → Nat) (σ : sg_T) (σ' : sg_T) (hrun : fX2_endRound σ = some σ') : me_V l D (tS cI) yX2_endRound cX2_endRound 2 2 41 (wS cI h σ) [.ref (h 0)] (wS cI h σ') := by
  refine me_ofV (plainFor_of_name (by decide)) (Nat.le_of_ble_eq_true rfl) ?_
  intro p e s m args below meth c A ls S hK Y hA hl hr hlk hZ
  have hx := S.1
  have hb := S.2.1
  have hl : lv_has ls 2 [(0, .ref (h 0))] := hl
  have lp43 : ∀ (n : Nat) (a1 : Int32) (σ : sg_T), lX2_endRound_43 n a1 σ = some σ' → ∀ (H : Heap) (locs : List Loc) (ls : Array Slot), dy_ D A s (wS cI h σ) H locs → lv_has ls 2 [(0, .ref (h 0)), (1, .int a1)] → W p l e (rm_ 2 41) s m args below meth c H locs 0 0 (MQ below (me_Qv D (tS cI) A (wS cI h σ')) args s 0 0 A) (F0 m 43 ls []) := by
    intro n
    induction n with
    | zero => intro a1 σ hrun; cases hrun
    | succ n ih =>
      intro a1 σ hrun H locs ls Y hl
      unfold lX2_endRound_43 at hrun
      refine lv_iload_n hx hb dX2_endRound_43 rfl (lv_at hl 1 rfl) ?_
      refine lv_bipush (v := (16 : Int32)) hx hb dX2_endRound_44 (by decide) ?_
      refine lv_icmp_ge (tgt := 68) hx hb dX2_endRound_46 (by decide) (fun c_1 => ?_) (fun c_1 => ?_)
      · have hrun := o_t hrun c_1
        cases hrun
        exact me_rv S hK Y hr hlk dX2_endRound_68
      · have hrun := o_f hrun c_1
        refine lv_aload_n hx hb dX2_endRound_49 rfl (lv_at hl 0 rfl) ?_
        refine lv_iload_n hx hb dX2_endRound_50 rfl (lv_at hl 1 rfl) ?_
        obtain ⟨r_2, e_3, hrun⟩ := o_bh hrun
        refine cf_v (As := [.int a1]) (rest := []) S hK hA hZ Y hl.1 (mX5_isRetired l D cI h σ a1 r_2 e_3) kX2_118 (T := TX5) (N := 16) rfl (q0 := 0) rfl ⟨Nat.le_of_ble_eq_true rfl, Nat.le_of_ble_eq_true rfl⟩ rfl rfl (Nat.le_of_ble_eq_true rfl) ⟨Nat.le_of_ble_eq_true rfl, Nat.le_of_ble_eq_true rfl⟩ dX2_endRound_51 (fun H locs Y => ?_)
        refine lv_if_eq (tgt := 62) hx hb dX2_endRound_54 (by decide) (fun c_4 => ?_) (fun c_4 => ?_)
        · have hrun := o_t hrun c_4
          refine lv_iinc (v := (a1 + (1 : Int32))) (lv' := [(1, .int (a1 + (1 : Int32))), (0, .ref (h 0))]) hx hb dX2_endRound_62 hl (k := 1) rfl (by rfl) (Nat.le_of_ble_eq_true rfl) rfl (fun ls hl => ?_)
          refine lv_goto (tgt := 43) hx hb dX2_endRound_65 (by decide) ?_
          exact ih (a1 + (1 : Int32)) σ hrun _ _ _ Y (lv_sub hl [1, 0] rfl)
        · have hrun := o_f hrun c_4
          refine lv_aload_n hx hb dX2_endRound_57 rfl (lv_at hl 0 rfl) ?_
          refine lv_iload_n hx hb dX2_endRound_58 rfl (lv_at hl 1 rfl) ?_
          obtain ⟨σ5, e_6, hrun⟩ := o_bh hrun
          refine cf_sv (As := [.ref (h 0), .int a1]) (rest := []) S hK hA hZ Y hl.1 (mX2_restSpot l D cI h σ a1 σ5 e_6) kX2_142 ⟨Nat.le_of_ble_eq_true rfl, Nat.le_of_ble_eq_true rfl⟩ rfl rfl (Nat.le_of_ble_eq_true rfl) ⟨Nat.le_of_ble_eq_true rfl, Nat.le_of_ble_eq_true rfl⟩ dX2_endRound_59 (fun H locs Y => ?_)
          refine lv_iinc (v := (a1 + (1 : Int32))) (lv' := [(1, .int (a1 + (1 : Int32))), (0, .ref (h 0))]) hx hb dX2_endRound_62 hl (k := 1) rfl (by rfl) (Nat.le_of_ble_eq_true rfl) rfl (fun ls hl => ?_)
          refine lv_goto (tgt := 43) hx hb dX2_endRound_65 (by decide) ?_
          exact ih (a1 + (1 : Int32)) σ5 hrun _ _ _ Y (lv_sub hl [1, 0] rfl)
  unfold fX2_endRound at hrun
  refine lv_aload_n hx hb dX2_endRound_0 rfl (lv_at hl 0 rfl) ?_
  refine lv_iconst (v := (0 : Int32)) hx hb dX2_endRound_1 (by decide) ?_
  refine ip S hK Y fX2_25 fpX5 rfl 0 (fs := vS h (σ 0)) rfl rfl rfl (Nat.le_of_ble_eq_true rfl) (ws' := (wS cI h (sg_a σ 0 (sg_u (σ 0) 2 (0 : Int32))))) (wS_f2 _ _ _ _) dX2_endRound_2 (fun H locs Y => ?_)
  refine lv_aload_n hx hb dX2_endRound_5 rfl (lv_at hl 0 rfl) ?_
  refine lv_sipush (v := (-10006 : Int32)) hx hb dX2_endRound_6 (by decide) ?_
  refine ip S hK Y fX2_35 fpX5 rfl 0 (fs := vS h (sg_u (σ 0) 2 (0 : Int32))) rfl rfl rfl (Nat.le_of_ble_eq_true rfl) (ws' := (wS cI h (sg_a (sg_a σ 0 (sg_u (σ 0) 2 (0 : Int32))) 0 (sg_u (sg_u (σ 0) 2 (0 : Int32)) 3 (-10006 : Int32))))) (wS_f3 _ _ _ _) dX2_endRound_9 (fun H locs Y => ?_)
  refine lv_aload_n hx hb dX2_endRound_12 rfl (lv_at hl 0 rfl) ?_
  refine lv_sipush (v := (-10006 : Int32)) hx hb dX2_endRound_13 (by decide) ?_
  refine ip S hK Y fX2_38 fpX5 rfl 0 (fs := vS h (sg_u (sg_u (σ 0) 2 (0 : Int32)) 3 (-10006 : Int32))) rfl rfl rfl (Nat.le_of_ble_eq_true rfl) (ws' := (wS cI h (sg_a (sg_a (sg_a σ 0 (sg_u (σ 0) 2 (0 : Int32))) 0 (sg_u (sg_u (σ 0) 2 (0 : Int32)) 3 (-10006 : Int32))) 0 (sg_u (sg_u (sg_u (σ 0) 2 (0 : Int32)) 3 (-10006 : Int32)) 4 (-10006 : Int32))))) (wS_f4 _ _ _ _) dX2_endRound_16 (fun H locs Y => ?_)
  refine lv_aload_n hx hb dX2_endRound_19 rfl (lv_at hl 0 rfl) ?_
  refine lv_sipush (v := (-10006 : Int32)) hx hb dX2_endRound_20 (by decide) ?_
  refine ip S hK Y fX2_74 fpX5 rfl 0 (fs := vS h (sg_u (sg_u (sg_u (σ 0) 2 (0 : Int32)) 3 (-10006 : Int32)) 4 (-10006 : Int32))) rfl rfl rfl (Nat.le_of_ble_eq_true rfl) (ws' := (wS cI h (sg_a (sg_a (sg_a (sg_a σ 0 (sg_u (σ 0) 2 (0 : Int32))) 0 (sg_u (sg_u (σ 0) 2 (0 : Int32)) 3 (-10006 : Int32))) 0 (sg_u (sg_u (sg_u (σ 0) 2 (0 : Int32)) 3 (-10006 : Int32)) 4 (-10006 : Int32))) 0 (sg_u (sg_u (sg_u (sg_u (σ 0) 2 (0 : Int32)) 3 (-10006 : Int32)) 4 (-10006 : Int32)) 5 (-10006 : Int32))))) (wS_f5 _ _ _ _) dX2_endRound_23 (fun H locs Y => ?_)
  refine lv_aload_n hx hb dX2_endRound_26 rfl (lv_at hl 0 rfl) ?_
  refine lv_iconst (v := (0 : Int32)) hx hb dX2_endRound_27 (by decide) ?_
  refine ip S hK Y fX2_124 fpX5 rfl 0 (fs := vS h (sg_u (sg_u (sg_u (sg_u (σ 0) 2 (0 : Int32)) 3 (-10006 : Int32)) 4 (-10006 : Int32)) 5 (-10006 : Int32))) rfl rfl rfl (Nat.le_of_ble_eq_true rfl) (ws' := (wS cI h (sg_a (sg_a (sg_a (sg_a (sg_a σ 0 (sg_u (σ 0) 2 (0 : Int32))) 0 (sg_u (sg_u (σ 0) 2 (0 : Int32)) 3 (-10006 : Int32))) 0 (sg_u (sg_u (sg_u (σ 0) 2 (0 : Int32)) 3 (-10006 : Int32)) 4 (-10006 : Int32))) 0 (sg_u (sg_u (sg_u (sg_u (σ 0) 2 (0 : Int32)) 3 (-10006 : Int32)) 4 (-10006 : Int32)) 5 (-10006 : Int32))) 0 (sg_u (sg_u (sg_u (sg_u (sg_u (σ 0) 2 (0 : Int32)) 3 (-10006 : Int32)) 4 (-10006 : Int32)) 5 (-10006 : Int32)) 6 (0 : Int32))))) (wS_f6 _ _ _ _) dX2_endRound_28 (fun H locs Y => ?_)
  refine lv_aload_n hx hb dX2_endRound_31 rfl (lv_at hl 0 rfl) ?_
  refine lv_dup hx hb dX2_endRound_32 rfl ?_
  refine ig S hK Y fX2_139 0 rfl (v := .int (σ 0 1)) rfl dX2_endRound_33 ?_
  refine lv_iconst (v := (1 : Int32)) hx hb dX2_endRound_36 (by decide) ?_
  refine lv_iadd hx hb dX2_endRound_37 ?_
  refine ip S hK Y fX2_139 fpX5 rfl 0 (fs := vS h (sg_u (sg_u (sg_u (sg_u (sg_u (σ 0) 2 (0 : Int32)) 3 (-10006 : Int32)) 4 (-10006 : Int32)) 5 (-10006 : Int32)) 6 (0 : Int32))) rfl rfl rfl (Nat.le_of_ble_eq_true rfl) (ws' := (wS cI h (sg_a (sg_a (sg_a (sg_a (sg_a (sg_a σ 0 (sg_u (σ 0) 2 (0 : Int32))) 0 (sg_u (sg_u (σ 0) 2 (0 : Int32)) 3 (-10006 : Int32))) 0 (sg_u (sg_u (sg_u (σ 0) 2 (0 : Int32)) 3 (-10006 : Int32)) 4 (-10006 : Int32))) 0 (sg_u (sg_u (sg_u (sg_u (σ 0) 2 (0 : Int32)) 3 (-10006 : Int32)) 4 (-10006 : Int32)) 5 (-10006 : Int32))) 0 (sg_u (sg_u (sg_u (sg_u (sg_u (σ 0) 2 (0 : Int32)) 3 (-10006 : Int32)) 4 (-10006 : Int32)) 5 (-10006 : Int32)) 6 (0 : Int32))) 0 (sg_u (sg_u (sg_u (sg_u (sg_u (sg_u (σ 0) 2 (0 : Int32)) 3 (-10006 : Int32)) 4 (-10006 : Int32)) 5 (-10006 : Int32)) 6 (0 : Int32)) 1 ((σ 0 1) + (1 : Int32)))))) (wS_f1 _ _ _ _) dX2_endRound_38 (fun H locs Y => ?_)
  refine lv_iconst (v := (0 : Int32)) hx hb dX2_endRound_41 (by decide) ?_
  refine lv_istore_n (lv' := [(1, .int (0 : Int32)), (0, .ref (h 0))]) hx hb dX2_endRound_42 rfl hl (Nat.le_of_ble_eq_true rfl) rfl (fun ls hl => ?_)
  exact lp43 70 (0 : Int32) (sg_a (sg_a (sg_a (sg_a (sg_a (sg_a σ 0 (sg_u (σ 0) 2 (0 : Int32))) 0 (sg_u (sg_u (σ 0) 2 (0 : Int32)) 3 (-10006 : Int32))) 0 (sg_u (sg_u (sg_u (σ 0) 2 (0 : Int32)) 3 (-10006 : Int32)) 4 (-10006 : Int32))) 0 (sg_u (sg_u (sg_u (sg_u (σ 0) 2 (0 : Int32)) 3 (-10006 : Int32)) 4 (-10006 : Int32)) 5 (-10006 : Int32))) 0 (sg_u (sg_u (sg_u (sg_u (sg_u (σ 0) 2 (0 : Int32)) 3 (-10006 : Int32)) 4 (-10006 : Int32)) 5 (-10006 : Int32)) 6 (0 : Int32))) 0 (sg_u (sg_u (sg_u (sg_u (sg_u (sg_u (σ 0) 2 (0 : Int32)) 3 (-10006 : Int32)) 4 (-10006 : Int32)) 5 (-10006 : Int32)) 6 (0 : Int32)) 1 ((σ 0 1) + (1 : Int32)))) hrun _ _ _ Y (lv_sub hl [1, 0] rfl)
def fX6_distance (p0 p1 : Int32) : Option Int32 := ((fX6_stepsUp p0 p1).bind fun r_1 => ((fX6_stepsUp p1 p0).bind fun r_3 => ((fJ9_min_7cf53 r_1 r_3).bind fun r_5 => (some r_5))))
set_option maxRecDepth 100000 in
set_option maxHeartbeats 4000000 in
theorem mX6_distance (l : Launch) (D : va_G) (p0 p1 : Int32) (r : Int32) (hrun : fX6_distance p0 p1 = some r) : me_I l D [] yX6_distance cX6_distance 2 .int 2 43 [] [.int p0, .int p1] r [] := by
  refine me_ofI (plainFor_of_name (by decide)) (Nat.le_of_ble_eq_true rfl) ?_
  intro p e s m args below meth c A ls S hK Y hA hl hr hlk hZ
  have hx := S.1
  have hb := S.2.1
  have hl : lv_has ls 2 [(0, .int p0), (1, .int p1)] := hl
  unfold fX6_distance at hrun
  refine lv_iload_n hx hb dX6_distance_0 rfl (lv_at hl 0 rfl) ?_
  refine lv_iload_n hx hb dX6_distance_1 rfl (lv_at hl 1 rfl) ?_
  obtain ⟨r_1, e_2, hrun⟩ := o_bh hrun
  refine cp_s (As := [.int p0, .int p1]) (rest := []) S hK hA hZ Y hl.1 (mX6_stepsUp l D p0 p1 r_1 e_2) kX6_9 ⟨Nat.le_of_ble_eq_true rfl, Nat.le_of_ble_eq_true rfl⟩ rfl rfl (Nat.le_of_ble_eq_true rfl) ⟨Nat.le_of_ble_eq_true rfl, Nat.le_of_ble_eq_true rfl⟩ dX6_distance_2 (fun H locs Y => ?_)
  refine lv_iload_n hx hb dX6_distance_5 rfl (lv_at hl 1 rfl) ?_
  refine lv_iload_n hx hb dX6_distance_6 rfl (lv_at hl 0 rfl) ?_
  obtain ⟨r_3, e_4, hrun⟩ := o_bh hrun
  refine cp_s (As := [.int p1, .int p0]) (rest := [.int r_1]) S hK hA hZ Y hl.1 (mX6_stepsUp l D p1 p0 r_3 e_4) kX6_9 ⟨Nat.le_of_ble_eq_true rfl, Nat.le_of_ble_eq_true rfl⟩ rfl rfl (Nat.le_of_ble_eq_true rfl) ⟨Nat.le_of_ble_eq_true rfl, Nat.le_of_ble_eq_true rfl⟩ dX6_distance_7 (fun H locs Y => ?_)
  obtain ⟨r_5, e_6, hrun⟩ := o_bh hrun
  refine cp_s (As := [.int r_1, .int r_3]) (rest := []) S hK hA hZ Y hl.1 (mJ9_min_7cf53 l D r_1 r_3 r_5 e_6) kX6_13 ⟨Nat.le_of_ble_eq_true rfl, Nat.le_of_ble_eq_true rfl⟩ rfl rfl (Nat.le_of_ble_eq_true rfl) ⟨Nat.le_of_ble_eq_true rfl, Nat.le_of_ble_eq_true rfl⟩ dX6_distance_10 (fun H locs Y => ?_)
  cases hrun
  exact me_ri S hK Y hr hlk rfl dX6_distance_13
def fX6_fromBase (p0 : Int32) : Option Int32 := ((fX6_stepsUp p0 (0 : Int32)).bind fun r_1 => ((fJ9_min_7cf53 p0 r_1).bind fun r_3 => (some r_3)))
set_option maxRecDepth 100000 in
set_option maxHeartbeats 4000000 in
theorem mX6_fromBase (l : Launch) (D : va_G) (p0 : Int32) (r : Int32) (hrun : fX6_fromBase p0 = some r) : me_I l D [] yX6_fromBase cX6_fromBase 1 .int 2 43 [] [.int p0] r [] := by
  refine me_ofI (plainFor_of_name (by decide)) (Nat.le_of_ble_eq_true rfl) ?_
  intro p e s m args below meth c A ls S hK Y hA hl hr hlk hZ
  have hx := S.1
  have hb := S.2.1
  have hl : lv_has ls 1 [(0, .int p0)] := hl
  unfold fX6_fromBase at hrun
  refine lv_iload_n hx hb dX6_fromBase_0 rfl (lv_at hl 0 rfl) ?_
  refine lv_iload_n hx hb dX6_fromBase_1 rfl (lv_at hl 0 rfl) ?_
  refine lv_iconst (v := (0 : Int32)) hx hb dX6_fromBase_2 (by decide) ?_
  obtain ⟨r_1, e_2, hrun⟩ := o_bh hrun
  refine cp_s (As := [.int p0, .int (0 : Int32)]) (rest := [.int p0]) S hK hA hZ Y hl.1 (mX6_stepsUp l D p0 (0 : Int32) r_1 e_2) kX6_9 ⟨Nat.le_of_ble_eq_true rfl, Nat.le_of_ble_eq_true rfl⟩ rfl rfl (Nat.le_of_ble_eq_true rfl) ⟨Nat.le_of_ble_eq_true rfl, Nat.le_of_ble_eq_true rfl⟩ dX6_fromBase_3 (fun H locs Y => ?_)
  obtain ⟨r_3, e_4, hrun⟩ := o_bh hrun
  refine cp_s (As := [.int p0, .int r_1]) (rest := []) S hK hA hZ Y hl.1 (mJ9_min_7cf53 l D p0 r_1 r_3 e_4) kX6_13 ⟨Nat.le_of_ble_eq_true rfl, Nat.le_of_ble_eq_true rfl⟩ rfl rfl (Nat.le_of_ble_eq_true rfl) ⟨Nat.le_of_ble_eq_true rfl, Nat.le_of_ble_eq_true rfl⟩ dX6_fromBase_6 (fun H locs Y => ?_)
  cases hrun
  exact me_ri S hK Y hr hlk rfl dX6_fromBase_9
def fX0_isBetterToHide (p1 p2 : Int32) (σ : sg_T) : Option (Int32) := ((fX6_fromBase p1).bind fun r_1 => ((fX6_fromBase p2).bind fun r_3 => (if r_1 = r_3 then (o_x p1 16 (o_x p2 16 (if ((σ 8) (p1).toNatClampNeg) = ((σ 8) (p2).toNatClampNeg) then ((fX5_hiderCount p1 σ).bind fun r_9 => ((fX5_hiderCount p2 σ).bind fun r_11 => (if r_9 = r_11 then (if p2 ≤ p1 then (some (0 : Int32)) else (some (1 : Int32))) else ((fX5_hiderCount p1 σ).bind fun r_15 => ((fX5_hiderCount p2 σ).bind fun r_17 => (if r_17 ≤ r_15 then (some (0 : Int32)) else (some (1 : Int32)))))))) else (if ((σ 8) (p2).toNatClampNeg) ≤ ((σ 8) (p1).toNatClampNeg) then (some (0 : Int32)) else (some (1 : Int32)))))) else ((fX6_fromBase p1).bind fun r_21 => ((fX6_fromBase p2).bind fun r_23 => (if r_21 ≤ r_23 then (some (0 : Int32)) else (some (1 : Int32))))))))
set_option maxRecDepth 100000 in
set_option maxHeartbeats 4000000 in
theorem mX0_isBetterToHide (l : Launch) (D : va_G) (cI : ClassId) (h : Nat → Nat) (σ : sg_T) (p1 p2 : Int32) (r : Int32) (hrun : fX0_isBetterToHide p1 p2 σ = some r) : me_I l D (tS cI) yX0_isBetterToHide cX0_isBetterToHide 3 .boolean 3 63 (wS cI h σ) [.ref (h 0), .int p1, .int p2] r (wS cI h σ) := by
  refine me_ofI (plainFor_of_name (by decide)) (Nat.le_of_ble_eq_true rfl) ?_
  intro p e s m args below meth c A ls S hK Y hA hl hr hlk hZ
  have hx := S.1
  have hb := S.2.1
  have hl : lv_has ls 3 [(0, .ref (h 0)), (1, .int p1), (2, .int p2)] := hl
  unfold fX0_isBetterToHide at hrun
  refine lv_iload_n hx hb dX0_isBetterToHide_0 rfl (lv_at hl 1 rfl) ?_
  obtain ⟨r_1, e_2, hrun⟩ := o_bh hrun
  refine cp_s (As := [.int p1]) (rest := []) S hK hA hZ Y hl.1 (mX6_fromBase l D p1 r_1 e_2) kX0_39 ⟨Nat.le_of_ble_eq_true rfl, Nat.le_of_ble_eq_true rfl⟩ rfl rfl (Nat.le_of_ble_eq_true rfl) ⟨Nat.le_of_ble_eq_true rfl, Nat.le_of_ble_eq_true rfl⟩ dX0_isBetterToHide_1 (fun H locs Y => ?_)
  refine lv_iload_n hx hb dX0_isBetterToHide_4 rfl (lv_at hl 2 rfl) ?_
  obtain ⟨r_3, e_4, hrun⟩ := o_bh hrun
  refine cp_s (As := [.int p2]) (rest := [.int r_1]) S hK hA hZ Y hl.1 (mX6_fromBase l D p2 r_3 e_4) kX0_39 ⟨Nat.le_of_ble_eq_true rfl, Nat.le_of_ble_eq_true rfl⟩ rfl rfl (Nat.le_of_ble_eq_true rfl) ⟨Nat.le_of_ble_eq_true rfl, Nat.le_of_ble_eq_true rfl⟩ dX0_isBetterToHide_5 (fun H locs Y => ?_)
  refine lv_icmp_eq (tgt := 28) hx hb dX0_isBetterToHide_8 (by decide) (fun c_5 => ?_) (fun c_5 => ?_)
  · have hrun := o_t hrun c_5
    refine lv_aload_n hx hb dX0_isBetterToHide_28 rfl (lv_at hl 0 rfl) ?_
    refine ig S hK Y fX0_43 0 rfl (v := .ref (h 8)) rfl dX0_isBetterToHide_29 ?_
    refine lv_iload_n hx hb dX0_isBetterToHide_32 rfl (lv_at hl 1 rfl) ?_
    obtain ⟨b_6, hrun⟩ := o_xh hrun
    refine ia S hK Y 8 0 (f := (σ 8)) rfl rfl b_6 dX0_isBetterToHide_33 ?_
    refine lv_aload_n hx hb dX0_isBetterToHide_34 rfl (lv_at hl 0 rfl) ?_
    refine ig S hK Y fX0_43 0 rfl (v := .ref (h 8)) rfl dX0_isBetterToHide_35 ?_
    refine lv_iload_n hx hb dX0_isBetterToHide_38 rfl (lv_at hl 2 rfl) ?_
    obtain ⟨b_7, hrun⟩ := o_xh hrun
    refine ia S hK Y 8 0 (f := (σ 8)) rfl rfl b_7 dX0_isBetterToHide_39 ?_
    refine lv_icmp_eq (tgt := 64) hx hb dX0_isBetterToHide_40 (by decide) (fun c_8 => ?_) (fun c_8 => ?_)
    · have hrun := o_t hrun c_8
      refine lv_aload_n hx hb dX0_isBetterToHide_64 rfl (lv_at hl 0 rfl) ?_
      refine lv_iload_n hx hb dX0_isBetterToHide_65 rfl (lv_at hl 1 rfl) ?_
      obtain ⟨r_9, e_10, hrun⟩ := o_bh hrun
      refine cf_v (As := [.int p1]) (rest := []) S hK hA hZ Y hl.1 (mX5_hiderCount l D cI h σ p1 r_9 e_10) kX0_47 (T := TX5) (N := 16) rfl (q0 := 0) rfl ⟨Nat.le_of_ble_eq_true rfl, Nat.le_of_ble_eq_true rfl⟩ rfl rfl (Nat.le_of_ble_eq_true rfl) ⟨Nat.le_of_ble_eq_true rfl, Nat.le_of_ble_eq_true rfl⟩ dX0_isBetterToHide_66 (fun H locs Y => ?_)
      refine lv_aload_n hx hb dX0_isBetterToHide_69 rfl (lv_at hl 0 rfl) ?_
      refine lv_iload_n hx hb dX0_isBetterToHide_70 rfl (lv_at hl 2 rfl) ?_
      obtain ⟨r_11, e_12, hrun⟩ := o_bh hrun
      refine cf_v (As := [.int p2]) (rest := [.int r_9]) S hK hA hZ Y hl.1 (mX5_hiderCount l D cI h σ p2 r_11 e_12) kX0_47 (T := TX5) (N := 16) rfl (q0 := 0) rfl ⟨Nat.le_of_ble_eq_true rfl, Nat.le_of_ble_eq_true rfl⟩ rfl rfl (Nat.le_of_ble_eq_true rfl) ⟨Nat.le_of_ble_eq_true rfl, Nat.le_of_ble_eq_true rfl⟩ dX0_isBetterToHide_71 (fun H locs Y => ?_)
      refine lv_icmp_eq (tgt := 96) hx hb dX0_isBetterToHide_74 (by decide) (fun c_13 => ?_) (fun c_13 => ?_)
      · have hrun := o_t hrun c_13
        refine lv_iload_n hx hb dX0_isBetterToHide_96 rfl (lv_at hl 1 rfl) ?_
        refine lv_iload_n hx hb dX0_isBetterToHide_97 rfl (lv_at hl 2 rfl) ?_
        refine lv_icmp_ge (tgt := 105) hx hb dX0_isBetterToHide_98 (by decide) (fun c_14 => ?_) (fun c_14 => ?_)
        · have hrun := o_t hrun c_14
          refine lv_iconst (v := (0 : Int32)) hx hb dX0_isBetterToHide_105 (by decide) ?_
          cases hrun
          exact me_ri S hK Y hr hlk rfl dX0_isBetterToHide_106
        · have hrun := o_f hrun c_14
          refine lv_iconst (v := (1 : Int32)) hx hb dX0_isBetterToHide_101 (by decide) ?_
          refine lv_goto (tgt := 106) hx hb dX0_isBetterToHide_102 (by decide) ?_
          cases hrun
          exact me_ri S hK Y hr hlk rfl dX0_isBetterToHide_106
      · have hrun := o_f hrun c_13
        refine lv_aload_n hx hb dX0_isBetterToHide_77 rfl (lv_at hl 0 rfl) ?_
        refine lv_iload_n hx hb dX0_isBetterToHide_78 rfl (lv_at hl 1 rfl) ?_
        obtain ⟨r_15, e_16, hrun⟩ := o_bh hrun
        refine cf_v (As := [.int p1]) (rest := []) S hK hA hZ Y hl.1 (mX5_hiderCount l D cI h σ p1 r_15 e_16) kX0_47 (T := TX5) (N := 16) rfl (q0 := 0) rfl ⟨Nat.le_of_ble_eq_true rfl, Nat.le_of_ble_eq_true rfl⟩ rfl rfl (Nat.le_of_ble_eq_true rfl) ⟨Nat.le_of_ble_eq_true rfl, Nat.le_of_ble_eq_true rfl⟩ dX0_isBetterToHide_79 (fun H locs Y => ?_)
        refine lv_aload_n hx hb dX0_isBetterToHide_82 rfl (lv_at hl 0 rfl) ?_
        refine lv_iload_n hx hb dX0_isBetterToHide_83 rfl (lv_at hl 2 rfl) ?_
        obtain ⟨r_17, e_18, hrun⟩ := o_bh hrun
        refine cf_v (As := [.int p2]) (rest := [.int r_15]) S hK hA hZ Y hl.1 (mX5_hiderCount l D cI h σ p2 r_17 e_18) kX0_47 (T := TX5) (N := 16) rfl (q0 := 0) rfl ⟨Nat.le_of_ble_eq_true rfl, Nat.le_of_ble_eq_true rfl⟩ rfl rfl (Nat.le_of_ble_eq_true rfl) ⟨Nat.le_of_ble_eq_true rfl, Nat.le_of_ble_eq_true rfl⟩ dX0_isBetterToHide_84 (fun H locs Y => ?_)
        refine lv_icmp_ge (tgt := 94) hx hb dX0_isBetterToHide_87 (by decide) (fun c_19 => ?_) (fun c_19 => ?_)
        · have hrun := o_t hrun c_19
          refine lv_iconst (v := (0 : Int32)) hx hb dX0_isBetterToHide_94 (by decide) ?_
          cases hrun
          exact me_ri S hK Y hr hlk rfl dX0_isBetterToHide_95
        · have hrun := o_f hrun c_19
          refine lv_iconst (v := (1 : Int32)) hx hb dX0_isBetterToHide_90 (by decide) ?_
          refine lv_goto (tgt := 95) hx hb dX0_isBetterToHide_91 (by decide) ?_
          cases hrun
          exact me_ri S hK Y hr hlk rfl dX0_isBetterToHide_95
    · have hrun := o_f hrun c_8
      refine lv_aload_n hx hb dX0_isBetterToHide_43 rfl (lv_at hl 0 rfl) ?_
      refine ig S hK Y fX0_43 0 rfl (v := .ref (h 8)) rfl dX0_isBetterToHide_44 ?_
      refine lv_iload_n hx hb dX0_isBetterToHide_47 rfl (lv_at hl 1 rfl) ?_
      refine ia S hK Y 8 0 (f := (σ 8)) rfl rfl b_6 dX0_isBetterToHide_48 ?_
      refine lv_aload_n hx hb dX0_isBetterToHide_49 rfl (lv_at hl 0 rfl) ?_
      refine ig S hK Y fX0_43 0 rfl (v := .ref (h 8)) rfl dX0_isBetterToHide_50 ?_
      refine lv_iload_n hx hb dX0_isBetterToHide_53 rfl (lv_at hl 2 rfl) ?_
      refine ia S hK Y 8 0 (f := (σ 8)) rfl rfl b_7 dX0_isBetterToHide_54 ?_
      refine lv_icmp_ge (tgt := 62) hx hb dX0_isBetterToHide_55 (by decide) (fun c_20 => ?_) (fun c_20 => ?_)
      · have hrun := o_t hrun c_20
        refine lv_iconst (v := (0 : Int32)) hx hb dX0_isBetterToHide_62 (by decide) ?_
        cases hrun
        exact me_ri S hK Y hr hlk rfl dX0_isBetterToHide_63
      · have hrun := o_f hrun c_20
        refine lv_iconst (v := (1 : Int32)) hx hb dX0_isBetterToHide_58 (by decide) ?_
        refine lv_goto (tgt := 63) hx hb dX0_isBetterToHide_59 (by decide) ?_
        cases hrun
        exact me_ri S hK Y hr hlk rfl dX0_isBetterToHide_63
  · have hrun := o_f hrun c_5
    refine lv_iload_n hx hb dX0_isBetterToHide_11 rfl (lv_at hl 1 rfl) ?_
    obtain ⟨r_21, e_22, hrun⟩ := o_bh hrun
    refine cp_s (As := [.int p1]) (rest := []) S hK hA hZ Y hl.1 (mX6_fromBase l D p1 r_21 e_22) kX0_39 ⟨Nat.le_of_ble_eq_true rfl, Nat.le_of_ble_eq_true rfl⟩ rfl rfl (Nat.le_of_ble_eq_true rfl) ⟨Nat.le_of_ble_eq_true rfl, Nat.le_of_ble_eq_true rfl⟩ dX0_isBetterToHide_12 (fun H locs Y => ?_)
    refine lv_iload_n hx hb dX0_isBetterToHide_15 rfl (lv_at hl 2 rfl) ?_
    obtain ⟨r_23, e_24, hrun⟩ := o_bh hrun
    refine cp_s (As := [.int p2]) (rest := [.int r_21]) S hK hA hZ Y hl.1 (mX6_fromBase l D p2 r_23 e_24) kX0_39 ⟨Nat.le_of_ble_eq_true rfl, Nat.le_of_ble_eq_true rfl⟩ rfl rfl (Nat.le_of_ble_eq_true rfl) ⟨Nat.le_of_ble_eq_true rfl, Nat.le_of_ble_eq_true rfl⟩ dX0_isBetterToHide_16 (fun H locs Y => ?_)
    refine lv_icmp_le (tgt := 26) hx hb dX0_isBetterToHide_19 (by decide) (fun c_25 => ?_) (fun c_25 => ?_)
    · have hrun := o_t hrun c_25
      refine lv_iconst (v := (0 : Int32)) hx hb dX0_isBetterToHide_26 (by decide) ?_
      cases hrun
      exact me_ri S hK Y hr hlk rfl dX0_isBetterToHide_27
    · have hrun := o_f hrun c_25
      refine lv_iconst (v := (1 : Int32)) hx hb dX0_isBetterToHide_22 (by decide) ?_
      refine lv_goto (tgt := 27) hx hb dX0_isBetterToHide_23 (by decide) ?_
      cases hrun
      exact me_ri S hK Y hr hlk rfl dX0_isBetterToHide_27
def fX2_countFalseCry (σ : sg_T) : Option (sg_T) := ((fX5_isPlayer (σ 0 3) (sg_a σ 0 (sg_u (σ 0) 6 ((σ 0 6) + (1 : Int32))))).bind fun r_1 => (if r_1 = 0 then (if ((σ 0 6) + (1 : Int32)) < ((σ 1) ((3 : Int32)).toNatClampNeg) then (some ((sg_a σ 0 (sg_u (σ 0) 6 ((σ 0 6) + (1 : Int32)))))) else ((fX2_letAllEscape (sg_a σ 0 (sg_u (σ 0) 6 ((σ 0 6) + (1 : Int32))))).bind fun σ5 => ((fX2_endRound σ5).bind fun σ7 => (some (σ7))))) else (o_x (σ 0 3) 8 (if ((σ 0 6) + (1 : Int32)) < ((σ 1) ((3 : Int32)).toNatClampNeg) then (some ((sg_a (sg_a (sg_a σ 0 (sg_u (σ 0) 6 ((σ 0 6) + (1 : Int32)))) 2 (upd (σ 2) ((σ 0 3)).toNatClampNeg (((σ 2) ((σ 0 3)).toNatClampNeg) + (-1 : Int32)))) 5 (upd (σ 5) ((σ 0 3)).toNatClampNeg (((σ 5) ((σ 0 3)).toNatClampNeg) + (1 : Int32)))))) else ((fX2_letAllEscape (sg_a (sg_a (sg_a σ 0 (sg_u (σ 0) 6 ((σ 0 6) + (1 : Int32)))) 2 (upd (σ 2) ((σ 0 3)).toNatClampNeg (((σ 2) ((σ 0 3)).toNatClampNeg) + (-1 : Int32)))) 5 (upd (σ 5) ((σ 0 3)).toNatClampNeg (((σ 5) ((σ 0 3)).toNatClampNeg) + (1 : Int32))))).bind fun σ11 => ((fX2_endRound σ11).bind fun σ13 => (some (σ13))))))))
set_option maxRecDepth 100000 in
set_option maxHeartbeats 4000000 in
theorem mX2_countFalseCry (l : Launch) (D : va_G) (cI : ClassId) (h : Nat → Nat) (σ : sg_T) (σ' : sg_T) (hrun : fX2_countFalseCry σ = some σ') : me_V l D (tS cI) yX2_countFalseCry cX2_countFalseCry 1 3 63 (wS cI h σ) [.ref (h 0)] (wS cI h σ') := by
  refine me_ofV (plainFor_of_name (by decide)) (Nat.le_of_ble_eq_true rfl) ?_
  intro p e s m args below meth c A ls S hK Y hA hl hr hlk hZ
  have hx := S.1
  have hb := S.2.1
  have hl : lv_has ls 1 [(0, .ref (h 0))] := hl
  unfold fX2_countFalseCry at hrun
  refine lv_aload_n hx hb dX2_countFalseCry_0 rfl (lv_at hl 0 rfl) ?_
  refine lv_dup hx hb dX2_countFalseCry_1 rfl ?_
  refine ig S hK Y fX2_124 0 rfl (v := .int (σ 0 6)) rfl dX2_countFalseCry_2 ?_
  refine lv_iconst (v := (1 : Int32)) hx hb dX2_countFalseCry_5 (by decide) ?_
  refine lv_iadd hx hb dX2_countFalseCry_6 ?_
  refine ip S hK Y fX2_124 fpX5 rfl 0 (fs := vS h (σ 0)) rfl rfl rfl (Nat.le_of_ble_eq_true rfl) (ws' := (wS cI h (sg_a σ 0 (sg_u (σ 0) 6 ((σ 0 6) + (1 : Int32)))))) (wS_f6 _ _ _ _) dX2_countFalseCry_7 (fun H locs Y => ?_)
  refine lv_aload_n hx hb dX2_countFalseCry_10 rfl (lv_at hl 0 rfl) ?_
  refine lv_aload_n hx hb dX2_countFalseCry_11 rfl (lv_at hl 0 rfl) ?_
  refine ig S hK Y fX2_35 0 rfl (v := .int (σ 0 3)) rfl dX2_countFalseCry_12 ?_
  obtain ⟨r_1, e_2, hrun⟩ := o_bh hrun
  refine cf_v (As := [.int (σ 0 3)]) (rest := []) S hK hA hZ Y hl.1 (mX5_isPlayer l D cI h (sg_a σ 0 (sg_u (σ 0) 6 ((σ 0 6) + (1 : Int32)))) (σ 0 3) r_1 e_2) kX2_32 (T := TX5) (N := 16) rfl (q0 := 0) rfl ⟨Nat.le_of_ble_eq_true rfl, Nat.le_of_ble_eq_true rfl⟩ rfl rfl (Nat.le_of_ble_eq_true rfl) ⟨Nat.le_of_ble_eq_true rfl, Nat.le_of_ble_eq_true rfl⟩ dX2_countFalseCry_15 (fun H locs Y => ?_)
  refine lv_if_eq (tgt := 47) hx hb dX2_countFalseCry_18 (by decide) (fun c_3 => ?_) (fun c_3 => ?_)
  · have hrun := o_t hrun c_3
    refine lv_aload_n hx hb dX2_countFalseCry_47 rfl (lv_at hl 0 rfl) ?_
    refine ig S hK Y fX2_124 0 rfl (v := .int ((σ 0 6) + (1 : Int32))) rfl dX2_countFalseCry_48 ?_
    refine lv_aload_n hx hb dX2_countFalseCry_51 rfl (lv_at hl 0 rfl) ?_
    refine ig S hK Y fX2_22 0 rfl (v := .ref (h 1)) rfl dX2_countFalseCry_52 ?_
    refine lv_iconst (v := (3 : Int32)) hx hb dX2_countFalseCry_55 (by decide) ?_
    refine ia S hK Y 1 0 (f := (σ 1)) rfl rfl (show ¬ ((3 : Int32) < 0 ∨ 4 ≤ ((3 : Int32)).toNatClampNeg) by decide) dX2_countFalseCry_56 ?_
    refine lv_icmp_lt (tgt := 68) hx hb dX2_countFalseCry_57 (by decide) (fun c_4 => ?_) (fun c_4 => ?_)
    · have hrun := o_t hrun c_4
      cases hrun
      exact me_rv S hK Y hr hlk dX2_countFalseCry_68
    · have hrun := o_f hrun c_4
      refine lv_aload_n hx hb dX2_countFalseCry_60 rfl (lv_at hl 0 rfl) ?_
      obtain ⟨σ5, e_6, hrun⟩ := o_bh hrun
      refine cf_sv (As := [.ref (h 0)]) (rest := []) S hK hA hZ Y hl.1 (mX2_letAllEscape l D cI h (sg_a σ 0 (sg_u (σ 0) 6 ((σ 0 6) + (1 : Int32)))) σ5 e_6) kX2_130 ⟨Nat.le_of_ble_eq_true rfl, Nat.le_of_ble_eq_true rfl⟩ rfl rfl (Nat.le_of_ble_eq_true rfl) ⟨Nat.le_of_ble_eq_true rfl, Nat.le_of_ble_eq_true rfl⟩ dX2_countFalseCry_61 (fun H locs Y => ?_)
      refine lv_aload_n hx hb dX2_countFalseCry_64 rfl (lv_at hl 0 rfl) ?_
      obtain ⟨σ7, e_8, hrun⟩ := o_bh hrun
      refine cf_sv (As := [.ref (h 0)]) (rest := []) S hK hA hZ Y hl.1 (mX2_endRound l D cI h σ5 σ7 e_8) kX2_133 ⟨Nat.le_of_ble_eq_true rfl, Nat.le_of_ble_eq_true rfl⟩ rfl rfl (Nat.le_of_ble_eq_true rfl) ⟨Nat.le_of_ble_eq_true rfl, Nat.le_of_ble_eq_true rfl⟩ dX2_countFalseCry_65 (fun H locs Y => ?_)
      cases hrun
      exact me_rv S hK Y hr hlk dX2_countFalseCry_68
  · have hrun := o_f hrun c_3
    refine lv_aload_n hx hb dX2_countFalseCry_21 rfl (lv_at hl 0 rfl) ?_
    refine ig S hK Y fX2_109 0 rfl (v := .ref (h 2)) rfl dX2_countFalseCry_22 ?_
    refine lv_aload_n hx hb dX2_countFalseCry_25 rfl (lv_at hl 0 rfl) ?_
    refine ig S hK Y fX2_35 0 rfl (v := .int (σ 0 3)) rfl dX2_countFalseCry_26 ?_
    refine lv_dup2_11 hx hb dX2_countFalseCry_29 rfl rfl ?_
    obtain ⟨b_9, hrun⟩ := o_xh hrun
    refine ia S hK Y 2 0 (f := (σ 2)) rfl rfl b_9 dX2_countFalseCry_30 ?_
    refine lv_iconst (v := (-1 : Int32)) hx hb dX2_countFalseCry_31 (by decide) ?_
    refine lv_iadd hx hb dX2_countFalseCry_32 ?_
    refine iw S hK Y 2 0 (f := (σ 2)) rfl rfl b_9 (ws' := (wS cI h (sg_a (sg_a σ 0 (sg_u (σ 0) 6 ((σ 0 6) + (1 : Int32)))) 2 (upd (σ 2) ((σ 0 3)).toNatClampNeg (((σ 2) ((σ 0 3)).toNatClampNeg) + (-1 : Int32)))))) (wS_a2 _ _ _) dX2_countFalseCry_33 (fun H locs Y => ?_)
    refine lv_aload_n hx hb dX2_countFalseCry_34 rfl (lv_at hl 0 rfl) ?_
    refine ig S hK Y fX2_127 0 rfl (v := .ref (h 5)) rfl dX2_countFalseCry_35 ?_
    refine lv_aload_n hx hb dX2_countFalseCry_38 rfl (lv_at hl 0 rfl) ?_
    refine ig S hK Y fX2_35 0 rfl (v := .int (σ 0 3)) rfl dX2_countFalseCry_39 ?_
    refine lv_dup2_11 hx hb dX2_countFalseCry_42 rfl rfl ?_
    refine ia S hK Y 5 0 (f := (σ 5)) rfl rfl b_9 dX2_countFalseCry_43 ?_
    refine lv_iconst (v := (1 : Int32)) hx hb dX2_countFalseCry_44 (by decide) ?_
    refine lv_iadd hx hb dX2_countFalseCry_45 ?_
    refine iw S hK Y 5 0 (f := (σ 5)) rfl rfl b_9 (ws' := (wS cI h (sg_a (sg_a (sg_a σ 0 (sg_u (σ 0) 6 ((σ 0 6) + (1 : Int32)))) 2 (upd (σ 2) ((σ 0 3)).toNatClampNeg (((σ 2) ((σ 0 3)).toNatClampNeg) + (-1 : Int32)))) 5 (upd (σ 5) ((σ 0 3)).toNatClampNeg (((σ 5) ((σ 0 3)).toNatClampNeg) + (1 : Int32)))))) (wS_a5 _ _ _) dX2_countFalseCry_46 (fun H locs Y => ?_)
    refine lv_aload_n hx hb dX2_countFalseCry_47 rfl (lv_at hl 0 rfl) ?_
    refine ig S hK Y fX2_124 0 rfl (v := .int ((σ 0 6) + (1 : Int32))) rfl dX2_countFalseCry_48 ?_
    refine lv_aload_n hx hb dX2_countFalseCry_51 rfl (lv_at hl 0 rfl) ?_
    refine ig S hK Y fX2_22 0 rfl (v := .ref (h 1)) rfl dX2_countFalseCry_52 ?_
    refine lv_iconst (v := (3 : Int32)) hx hb dX2_countFalseCry_55 (by decide) ?_
    refine ia S hK Y 1 0 (f := (σ 1)) rfl rfl (show ¬ ((3 : Int32) < 0 ∨ 4 ≤ ((3 : Int32)).toNatClampNeg) by decide) dX2_countFalseCry_56 ?_
    refine lv_icmp_lt (tgt := 68) hx hb dX2_countFalseCry_57 (by decide) (fun c_10 => ?_) (fun c_10 => ?_)
    · have hrun := o_t hrun c_10
      cases hrun
      exact me_rv S hK Y hr hlk dX2_countFalseCry_68
    · have hrun := o_f hrun c_10
      refine lv_aload_n hx hb dX2_countFalseCry_60 rfl (lv_at hl 0 rfl) ?_
      obtain ⟨σ11, e_12, hrun⟩ := o_bh hrun
      refine cf_sv (As := [.ref (h 0)]) (rest := []) S hK hA hZ Y hl.1 (mX2_letAllEscape l D cI h (sg_a (sg_a (sg_a σ 0 (sg_u (σ 0) 6 ((σ 0 6) + (1 : Int32)))) 2 (upd (σ 2) ((σ 0 3)).toNatClampNeg (((σ 2) ((σ 0 3)).toNatClampNeg) + (-1 : Int32)))) 5 (upd (σ 5) ((σ 0 3)).toNatClampNeg (((σ 5) ((σ 0 3)).toNatClampNeg) + (1 : Int32)))) σ11 e_12) kX2_130 ⟨Nat.le_of_ble_eq_true rfl, Nat.le_of_ble_eq_true rfl⟩ rfl rfl (Nat.le_of_ble_eq_true rfl) ⟨Nat.le_of_ble_eq_true rfl, Nat.le_of_ble_eq_true rfl⟩ dX2_countFalseCry_61 (fun H locs Y => ?_)
      refine lv_aload_n hx hb dX2_countFalseCry_64 rfl (lv_at hl 0 rfl) ?_
      obtain ⟨σ13, e_14, hrun⟩ := o_bh hrun
      refine cf_sv (As := [.ref (h 0)]) (rest := []) S hK hA hZ Y hl.1 (mX2_endRound l D cI h σ11 σ13 e_14) kX2_133 ⟨Nat.le_of_ble_eq_true rfl, Nat.le_of_ble_eq_true rfl⟩ rfl rfl (Nat.le_of_ble_eq_true rfl) ⟨Nat.le_of_ble_eq_true rfl, Nat.le_of_ble_eq_true rfl⟩ dX2_countFalseCry_65 (fun H locs Y => ?_)
      cases hrun
      exact me_rv S hK Y hr hlk dX2_countFalseCry_68
def fX2_endRoundIfNobodyIsHidden (σ : sg_T) : Option (sg_T) := ((fX5_hiddenCount σ).bind fun r_1 => (if r_1 = 0 then ((fX2_endRound σ).bind fun σ4 => (some (σ4))) else (some (σ))))
set_option maxRecDepth 100000 in
set_option maxHeartbeats 4000000 in
theorem mX2_endRoundIfNobodyIsHidden (l : Launch) (D : va_G) (cI : ClassId) (h : Nat → Nat) (σ : sg_T) (σ' : sg_T) (hrun : fX2_endRoundIfNobodyIsHidden σ = some σ') : me_V l D (tS cI) yX2_endRoundIfNobodyIsHidden cX2_endRoundIfNobodyIsHidden 1 3 64 (wS cI h σ) [.ref (h 0)] (wS cI h σ') := by
  refine me_ofV (plainFor_of_name (by decide)) (Nat.le_of_ble_eq_true rfl) ?_
  intro p e s m args below meth c A ls S hK Y hA hl hr hlk hZ
  have hx := S.1
  have hb := S.2.1
  have hl : lv_has ls 1 [(0, .ref (h 0))] := hl
  unfold fX2_endRoundIfNobodyIsHidden at hrun
  refine lv_aload_n hx hb dX2_endRoundIfNobodyIsHidden_0 rfl (lv_at hl 0 rfl) ?_
  obtain ⟨r_1, e_2, hrun⟩ := o_bh hrun
  refine cf_v (As := []) (rest := []) S hK hA hZ Y hl.1 (mX5_hiddenCount l D cI h σ r_1 e_2) kX2_77 (T := TX5) (N := 16) rfl (q0 := 0) rfl ⟨Nat.le_of_ble_eq_true rfl, Nat.le_of_ble_eq_true rfl⟩ rfl rfl (Nat.le_of_ble_eq_true rfl) ⟨Nat.le_of_ble_eq_true rfl, Nat.le_of_ble_eq_true rfl⟩ dX2_endRoundIfNobodyIsHidden_1 (fun H locs Y => ?_)
  refine lv_if_ne (tgt := 11) hx hb dX2_endRoundIfNobodyIsHidden_4 (by decide) (fun c_3 => ?_) (fun c_3 => ?_)
  · have hrun := o_f hrun c_3
    cases hrun
    exact me_rv S hK Y hr hlk dX2_endRoundIfNobodyIsHidden_11
  · have hrun := o_t hrun c_3
    refine lv_aload_n hx hb dX2_endRoundIfNobodyIsHidden_7 rfl (lv_at hl 0 rfl) ?_
    obtain ⟨σ4, e_5, hrun⟩ := o_bh hrun
    refine cf_sv (As := [.ref (h 0)]) (rest := []) S hK hA hZ Y hl.1 (mX2_endRound l D cI h σ σ4 e_5) kX2_133 ⟨Nat.le_of_ble_eq_true rfl, Nat.le_of_ble_eq_true rfl⟩ rfl rfl (Nat.le_of_ble_eq_true rfl) ⟨Nat.le_of_ble_eq_true rfl, Nat.le_of_ble_eq_true rfl⟩ dX2_endRoundIfNobodyIsHidden_8 (fun H locs Y => ?_)
    cases hrun
    exact me_rv S hK Y hr hlk dX2_endRoundIfNobodyIsHidden_11
def fX5_isHidingPlace (p1 : Int32) (σ : sg_T) : Option (Int32) := (if p1 = 0 then (some (0 : Int32)) else ((fX6_fromBase p1).bind fun r_2 => (if (σ 0 4) < r_2 then (some (0 : Int32)) else ((fX5_isRetired p1 σ).bind fun r_5 => (if r_5 = 0 then (some (1 : Int32)) else (some (0 : Int32)))))))
set_option maxRecDepth 100000 in
set_option maxHeartbeats 4000000 in
theorem mX5_isHidingPlace (l : Launch) (D : va_G) (cI : ClassId) (h : Nat → Nat) (σ : sg_T) (p1 : Int32) (r : Int32) (hrun : fX5_isHidingPlace p1 σ = some r) : me_I l D (tS cI) yX5_isHidingPlace cX5_isHidingPlace 2 .boolean 3 63 (wS cI h σ) [.ref (h 0), .int p1] r (wS cI h σ) := by
  refine me_ofI (plainFor_of_name (by decide)) (Nat.le_of_ble_eq_true rfl) ?_
  intro p e s m args below meth c A ls S hK Y hA hl hr hlk hZ
  have hx := S.1
  have hb := S.2.1
  have hl : lv_has ls 2 [(0, .ref (h 0)), (1, .int p1)] := hl
  unfold fX5_isHidingPlace at hrun
  refine lv_iload_n hx hb dX5_isHidingPlace_0 rfl (lv_at hl 1 rfl) ?_
  refine lv_if_eq (tgt := 27) hx hb dX5_isHidingPlace_1 (by decide) (fun c_1 => ?_) (fun c_1 => ?_)
  · have hrun := o_t hrun c_1
    refine lv_iconst (v := (0 : Int32)) hx hb dX5_isHidingPlace_27 (by decide) ?_
    cases hrun
    exact me_ri S hK Y hr hlk rfl dX5_isHidingPlace_28
  · have hrun := o_f hrun c_1
    refine lv_iload_n hx hb dX5_isHidingPlace_4 rfl (lv_at hl 1 rfl) ?_
    obtain ⟨r_2, e_3, hrun⟩ := o_bh hrun
    refine cp_s (As := [.int p1]) (rest := []) S hK hA hZ Y hl.1 (mX6_fromBase l D p1 r_2 e_3) kX5_97 ⟨Nat.le_of_ble_eq_true rfl, Nat.le_of_ble_eq_true rfl⟩ rfl rfl (Nat.le_of_ble_eq_true rfl) ⟨Nat.le_of_ble_eq_true rfl, Nat.le_of_ble_eq_true rfl⟩ dX5_isHidingPlace_5 (fun H locs Y => ?_)
    refine lv_aload_n hx hb dX5_isHidingPlace_8 rfl (lv_at hl 0 rfl) ?_
    refine ig S hK Y fX5_54 0 rfl (v := .int (σ 0 4)) rfl dX5_isHidingPlace_9 ?_
    refine lv_icmp_gt (tgt := 27) hx hb dX5_isHidingPlace_12 (by decide) (fun c_4 => ?_) (fun c_4 => ?_)
    · have hrun := o_t hrun c_4
      refine lv_iconst (v := (0 : Int32)) hx hb dX5_isHidingPlace_27 (by decide) ?_
      cases hrun
      exact me_ri S hK Y hr hlk rfl dX5_isHidingPlace_28
    · have hrun := o_f hrun c_4
      refine lv_aload_n hx hb dX5_isHidingPlace_15 rfl (lv_at hl 0 rfl) ?_
      refine lv_iload_n hx hb dX5_isHidingPlace_16 rfl (lv_at hl 1 rfl) ?_
      obtain ⟨r_5, e_6, hrun⟩ := o_bh hrun
      refine cf_v (As := [.int p1]) (rest := []) S hK hA hZ Y hl.1 (mX5_isRetired l D cI h σ p1 r_5 e_6) kX5_94 (T := TX5) (N := 16) rfl (q0 := 0) rfl ⟨Nat.le_of_ble_eq_true rfl, Nat.le_of_ble_eq_true rfl⟩ rfl rfl (Nat.le_of_ble_eq_true rfl) ⟨Nat.le_of_ble_eq_true rfl, Nat.le_of_ble_eq_true rfl⟩ dX5_isHidingPlace_17 (fun H locs Y => ?_)
      refine lv_if_ne (tgt := 27) hx hb dX5_isHidingPlace_20 (by decide) (fun c_7 => ?_) (fun c_7 => ?_)
      · have hrun := o_f hrun c_7
        refine lv_iconst (v := (0 : Int32)) hx hb dX5_isHidingPlace_27 (by decide) ?_
        cases hrun
        exact me_ri S hK Y hr hlk rfl dX5_isHidingPlace_28
      · have hrun := o_t hrun c_7
        refine lv_iconst (v := (1 : Int32)) hx hb dX5_isHidingPlace_23 (by decide) ?_
        refine lv_goto (tgt := 28) hx hb dX5_isHidingPlace_24 (by decide) ?_
        cases hrun
        exact me_ri S hK Y hr hlk rfl dX5_isHidingPlace_28
def fX5_hasRoomToHide (p1 : Int32) (σ : sg_T) : Option (Int32) := ((fX5_isHidingPlace p1 σ).bind fun r_1 => (if r_1 = 0 then (some (0 : Int32)) else ((fX5_isFull p1 σ).bind fun r_4 => (if r_4 = 0 then (some (1 : Int32)) else (some (0 : Int32))))))
set_option maxRecDepth 100000 in
set_option maxHeartbeats 4000000 in
theorem mX5_hasRoomToHide (l : Launch) (D : va_G) (cI : ClassId) (h : Nat → Nat) (σ : sg_T) (p1 : Int32) (r : Int32) (hrun : fX5_hasRoomToHide p1 σ = some r) : me_I l D (tS cI) yX5_hasRoomToHide cX5_hasRoomToHide 2 .boolean 4 84 (wS cI h σ) [.ref (h 0), .int p1] r (wS cI h σ) := by
  refine me_ofI (plainFor_of_name (by decide)) (Nat.le_of_ble_eq_true rfl) ?_
  intro p e s m args below meth c A ls S hK Y hA hl hr hlk hZ
  have hx := S.1
  have hb := S.2.1
  have hl : lv_has ls 2 [(0, .ref (h 0)), (1, .int p1)] := hl
  unfold fX5_hasRoomToHide at hrun
  refine lv_aload_n hx hb dX5_hasRoomToHide_0 rfl (lv_at hl 0 rfl) ?_
  refine lv_iload_n hx hb dX5_hasRoomToHide_1 rfl (lv_at hl 1 rfl) ?_
  obtain ⟨r_1, e_2, hrun⟩ := o_bh hrun
  refine cf_v (As := [.int p1]) (rest := []) S hK hA hZ Y hl.1 (mX5_isHidingPlace l D cI h σ p1 r_1 e_2) kX5_103 (T := TX5) (N := 16) rfl (q0 := 0) rfl ⟨Nat.le_of_ble_eq_true rfl, Nat.le_of_ble_eq_true rfl⟩ rfl rfl (Nat.le_of_ble_eq_true rfl) ⟨Nat.le_of_ble_eq_true rfl, Nat.le_of_ble_eq_true rfl⟩ dX5_hasRoomToHide_2 (fun H locs Y => ?_)
  refine lv_if_eq (tgt := 20) hx hb dX5_hasRoomToHide_5 (by decide) (fun c_3 => ?_) (fun c_3 => ?_)
  · have hrun := o_t hrun c_3
    refine lv_iconst (v := (0 : Int32)) hx hb dX5_hasRoomToHide_20 (by decide) ?_
    cases hrun
    exact me_ri S hK Y hr hlk rfl dX5_hasRoomToHide_21
  · have hrun := o_f hrun c_3
    refine lv_aload_n hx hb dX5_hasRoomToHide_8 rfl (lv_at hl 0 rfl) ?_
    refine lv_iload_n hx hb dX5_hasRoomToHide_9 rfl (lv_at hl 1 rfl) ?_
    obtain ⟨r_4, e_5, hrun⟩ := o_bh hrun
    refine cf_v (As := [.int p1]) (rest := []) S hK hA hZ Y hl.1 (mX5_isFull l D cI h σ p1 r_4 e_5) kX5_106 (T := TX5) (N := 16) rfl (q0 := 0) rfl ⟨Nat.le_of_ble_eq_true rfl, Nat.le_of_ble_eq_true rfl⟩ rfl rfl (Nat.le_of_ble_eq_true rfl) ⟨Nat.le_of_ble_eq_true rfl, Nat.le_of_ble_eq_true rfl⟩ dX5_hasRoomToHide_10 (fun H locs Y => ?_)
    refine lv_if_ne (tgt := 20) hx hb dX5_hasRoomToHide_13 (by decide) (fun c_6 => ?_) (fun c_6 => ?_)
    · have hrun := o_f hrun c_6
      refine lv_iconst (v := (0 : Int32)) hx hb dX5_hasRoomToHide_20 (by decide) ?_
      cases hrun
      exact me_ri S hK Y hr hlk rfl dX5_hasRoomToHide_21
    · have hrun := o_t hrun c_6
      refine lv_iconst (v := (1 : Int32)) hx hb dX5_hasRoomToHide_16 (by decide) ?_
      refine lv_goto (tgt := 21) hx hb dX5_hasRoomToHide_17 (by decide) ?_
      cases hrun
      exact me_ri S hK Y hr hlk rfl dX5_hasRoomToHide_21
def fX5_seekerSees (p1 : Int32) (σ : sg_T) : Option (Int32) := ((fX6_distance (σ 0 5) p1).bind fun r_1 => (if ((σ 1) ((0 : Int32)).toNatClampNeg) < r_1 then (some (0 : Int32)) else (some (1 : Int32))))
set_option maxRecDepth 100000 in
set_option maxHeartbeats 4000000 in
theorem mX5_seekerSees (l : Launch) (D : va_G) (cI : ClassId) (h : Nat → Nat) (σ : sg_T) (p1 : Int32) (r : Int32) (hrun : fX5_seekerSees p1 σ = some r) : me_I l D (tS cI) yX5_seekerSees cX5_seekerSees 2 .boolean 3 64 (wS cI h σ) [.ref (h 0), .int p1] r (wS cI h σ) := by
  refine me_ofI (plainFor_of_name (by decide)) (Nat.le_of_ble_eq_true rfl) ?_
  intro p e s m args below meth c A ls S hK Y hA hl hr hlk hZ
  have hx := S.1
  have hb := S.2.1
  have hl : lv_has ls 2 [(0, .ref (h 0)), (1, .int p1)] := hl
  unfold fX5_seekerSees at hrun
  refine lv_aload_n hx hb dX5_seekerSees_0 rfl (lv_at hl 0 rfl) ?_
  refine ig S hK Y fX5_57 0 rfl (v := .int (σ 0 5)) rfl dX5_seekerSees_1 ?_
  refine lv_iload_n hx hb dX5_seekerSees_4 rfl (lv_at hl 1 rfl) ?_
  obtain ⟨r_1, e_2, hrun⟩ := o_bh hrun
  refine cp_s (As := [.int (σ 0 5), .int p1]) (rest := []) S hK hA hZ Y hl.1 (mX6_distance l D (σ 0 5) p1 r_1 e_2) kX5_109 ⟨Nat.le_of_ble_eq_true rfl, Nat.le_of_ble_eq_true rfl⟩ rfl rfl (Nat.le_of_ble_eq_true rfl) ⟨Nat.le_of_ble_eq_true rfl, Nat.le_of_ble_eq_true rfl⟩ dX5_seekerSees_5 (fun H locs Y => ?_)
  refine lv_aload_n hx hb dX5_seekerSees_8 rfl (lv_at hl 0 rfl) ?_
  refine ig S hK Y fX5_9 0 rfl (v := .ref (h 1)) rfl dX5_seekerSees_9 ?_
  refine lv_iconst (v := (0 : Int32)) hx hb dX5_seekerSees_12 (by decide) ?_
  refine ia S hK Y 1 0 (f := (σ 1)) rfl rfl (show ¬ ((0 : Int32) < 0 ∨ 4 ≤ ((0 : Int32)).toNatClampNeg) by decide) dX5_seekerSees_13 ?_
  refine lv_icmp_gt (tgt := 21) hx hb dX5_seekerSees_14 (by decide) (fun c_3 => ?_) (fun c_3 => ?_)
  · have hrun := o_t hrun c_3
    refine lv_iconst (v := (0 : Int32)) hx hb dX5_seekerSees_21 (by decide) ?_
    cases hrun
    exact me_ri S hK Y hr hlk rfl dX5_seekerSees_22
  · have hrun := o_f hrun c_3
    refine lv_iconst (v := (1 : Int32)) hx hb dX5_seekerSees_17 (by decide) ?_
    refine lv_goto (tgt := 22) hx hb dX5_seekerSees_18 (by decide) ?_
    cases hrun
    exact me_ri S hK Y hr hlk rfl dX5_seekerSees_22
def fX5_wouldEscape (p1 : Int32) (σ : sg_T) : Option (Int32) := ((fX5_isHidden p1 σ).bind fun r_1 => (if r_1 = 0 then (some (0 : Int32)) else (o_x p1 8 ((fX6_fromBase ((σ 7) (p1).toNatClampNeg)).bind fun r_5 => ((fX6_fromBase (σ 0 5)).bind fun r_7 => (if r_7 ≤ r_5 then (some (0 : Int32)) else (some (1 : Int32))))))))
set_option maxRecDepth 100000 in
set_option maxHeartbeats 4000000 in
theorem mX5_wouldEscape (l : Launch) (D : va_G) (cI : ClassId) (h : Nat → Nat) (σ : sg_T) (p1 : Int32) (r : Int32) (hrun : fX5_wouldEscape p1 σ = some r) : me_I l D (tS cI) yX5_wouldEscape cX5_wouldEscape 2 .boolean 3 63 (wS cI h σ) [.ref (h 0), .int p1] r (wS cI h σ) := by
  refine me_ofI (plainFor_of_name (by decide)) (Nat.le_of_ble_eq_true rfl) ?_
  intro p e s m args below meth c A ls S hK Y hA hl hr hlk hZ
  have hx := S.1
  have hb := S.2.1
  have hl : lv_has ls 2 [(0, .ref (h 0)), (1, .int p1)] := hl
  unfold fX5_wouldEscape at hrun
  refine lv_aload_n hx hb dX5_wouldEscape_0 rfl (lv_at hl 0 rfl) ?_
  refine lv_iload_n hx hb dX5_wouldEscape_1 rfl (lv_at hl 1 rfl) ?_
  obtain ⟨r_1, e_2, hrun⟩ := o_bh hrun
  refine cf_v (As := [.int p1]) (rest := []) S hK hA hZ Y hl.1 (mX5_isHidden l D cI h σ p1 r_1 e_2) kX5_79 (T := TX5) (N := 16) rfl (q0 := 0) rfl ⟨Nat.le_of_ble_eq_true rfl, Nat.le_of_ble_eq_true rfl⟩ rfl rfl (Nat.le_of_ble_eq_true rfl) ⟨Nat.le_of_ble_eq_true rfl, Nat.le_of_ble_eq_true rfl⟩ dX5_wouldEscape_2 (fun H locs Y => ?_)
  refine lv_if_eq (tgt := 31) hx hb dX5_wouldEscape_5 (by decide) (fun c_3 => ?_) (fun c_3 => ?_)
  · have hrun := o_t hrun c_3
    refine lv_iconst (v := (0 : Int32)) hx hb dX5_wouldEscape_31 (by decide) ?_
    cases hrun
    exact me_ri S hK Y hr hlk rfl dX5_wouldEscape_32
  · have hrun := o_f hrun c_3
    refine lv_aload_n hx hb dX5_wouldEscape_8 rfl (lv_at hl 0 rfl) ?_
    refine ig S hK Y fX5_30 0 rfl (v := .ref (h 7)) rfl dX5_wouldEscape_9 ?_
    refine lv_iload_n hx hb dX5_wouldEscape_12 rfl (lv_at hl 1 rfl) ?_
    obtain ⟨b_4, hrun⟩ := o_xh hrun
    refine ia S hK Y 7 0 (f := (σ 7)) rfl rfl b_4 dX5_wouldEscape_13 ?_
    obtain ⟨r_5, e_6, hrun⟩ := o_bh hrun
    refine cp_s (As := [.int ((σ 7) (p1).toNatClampNeg)]) (rest := []) S hK hA hZ Y hl.1 (mX6_fromBase l D ((σ 7) (p1).toNatClampNeg) r_5 e_6) kX5_97 ⟨Nat.le_of_ble_eq_true rfl, Nat.le_of_ble_eq_true rfl⟩ rfl rfl (Nat.le_of_ble_eq_true rfl) ⟨Nat.le_of_ble_eq_true rfl, Nat.le_of_ble_eq_true rfl⟩ dX5_wouldEscape_14 (fun H locs Y => ?_)
    refine lv_aload_n hx hb dX5_wouldEscape_17 rfl (lv_at hl 0 rfl) ?_
    refine ig S hK Y fX5_57 0 rfl (v := .int (σ 0 5)) rfl dX5_wouldEscape_18 ?_
    obtain ⟨r_7, e_8, hrun⟩ := o_bh hrun
    refine cp_s (As := [.int (σ 0 5)]) (rest := [.int r_5]) S hK hA hZ Y hl.1 (mX6_fromBase l D (σ 0 5) r_7 e_8) kX5_97 ⟨Nat.le_of_ble_eq_true rfl, Nat.le_of_ble_eq_true rfl⟩ rfl rfl (Nat.le_of_ble_eq_true rfl) ⟨Nat.le_of_ble_eq_true rfl, Nat.le_of_ble_eq_true rfl⟩ dX5_wouldEscape_21 (fun H locs Y => ?_)
    refine lv_icmp_ge (tgt := 31) hx hb dX5_wouldEscape_24 (by decide) (fun c_9 => ?_) (fun c_9 => ?_)
    · have hrun := o_t hrun c_9
      refine lv_iconst (v := (0 : Int32)) hx hb dX5_wouldEscape_31 (by decide) ?_
      cases hrun
      exact me_ri S hK Y hr hlk rfl dX5_wouldEscape_32
    · have hrun := o_f hrun c_9
      refine lv_iconst (v := (1 : Int32)) hx hb dX5_wouldEscape_27 (by decide) ?_
      refine lv_goto (tgt := 32) hx hb dX5_wouldEscape_28 (by decide) ?_
      cases hrun
      exact me_ri S hK Y hr hlk rfl dX5_wouldEscape_32
def lX0_spotsInSight_16 : Nat → Int32 → Int32 → (sg_T) → Option (Int32)
  | 0, _, _, _ => none
  | n + 1, a1, a2, σ => (if (16 : Int32) ≤ a2 then (some a1) else ((fX5_seekerSees a2 σ).bind fun r_3 => (if r_3 = 0 then (lX0_spotsInSight_16 n a1 (a2 + (1 : Int32)) σ) else (lX0_spotsInSight_16 n (a1 ||| ((1 : Int32) <<< (a2 &&& 31))) (a2 + (1 : Int32)) σ))))
def fX0_spotsInSight (σ : sg_T) : Option (Int32) := (if (σ 0 2) = (2 : Int32) then (lX0_spotsInSight_16 70 (0 : Int32) (0 : Int32) σ) else (some (-10003 : Int32)))
set_option maxRecDepth 100000 in
set_option maxHeartbeats 4000000 in
theorem mX0_spotsInSight (l : Launch) (D : va_G) (cI : ClassId) (h : Nat → Nat) (σ : sg_T) (r : Int32) (hrun : fX0_spotsInSight σ = some r) : me_I l D (tS cI) yX0_spotsInSight cX0_spotsInSight 3 .int 4 85 (wS cI h σ) [.ref (h 0)] r (wS cI h σ) := by
  refine me_ofI (plainFor_of_name (by decide)) (Nat.le_of_ble_eq_true rfl) ?_
  intro p e s m args below meth c A ls S hK Y hA hl hr hlk hZ
  have hx := S.1
  have hb := S.2.1
  have hl : lv_has ls 3 [(0, .ref (h 0))] := hl
  have lp16 : ∀ (n : Nat) (a1 : Int32) (a2 : Int32), lX0_spotsInSight_16 n a1 a2 σ = some r → ∀ (H : Heap) (locs : List Loc) (ls : Array Slot), dy_ D A s (wS cI h σ) H locs → lv_has ls 3 [(0, .ref (h 0)), (1, .int a1), (2, .int a2)] → W p l e (rm_ 4 85) s m args below meth c H locs 0 0 (MQ below (me_Qi D (tS cI) A r (wS cI h σ)) args s 0 0 A) (F0 m 16 ls []) := by
    intro n
    induction n with
    | zero => intro a1 a2 hrun; cases hrun
    | succ n ih =>
      intro a1 a2 hrun H locs ls Y hl
      unfold lX0_spotsInSight_16 at hrun
      refine lv_iload_n hx hb dX0_spotsInSight_16 rfl (lv_at hl 2 rfl) ?_
      refine lv_bipush (v := (16 : Int32)) hx hb dX0_spotsInSight_17 (by decide) ?_
      refine lv_icmp_ge (tgt := 42) hx hb dX0_spotsInSight_19 (by decide) (fun c_2 => ?_) (fun c_2 => ?_)
      · have hrun := o_t hrun c_2
        refine lv_iload_n hx hb dX0_spotsInSight_42 rfl (lv_at hl 1 rfl) ?_
        cases hrun
        exact me_ri S hK Y hr hlk rfl dX0_spotsInSight_43
      · have hrun := o_f hrun c_2
        refine lv_aload_n hx hb dX0_spotsInSight_22 rfl (lv_at hl 0 rfl) ?_
        refine lv_iload_n hx hb dX0_spotsInSight_23 rfl (lv_at hl 2 rfl) ?_
        obtain ⟨r_3, e_4, hrun⟩ := o_bh hrun
        refine cf_v (As := [.int a2]) (rest := []) S hK hA hZ Y hl.1 (mX5_seekerSees l D cI h σ a2 r_3 e_4) kX0_17 (T := TX5) (N := 16) rfl (q0 := 0) rfl ⟨Nat.le_of_ble_eq_true rfl, Nat.le_of_ble_eq_true rfl⟩ rfl rfl (Nat.le_of_ble_eq_true rfl) ⟨Nat.le_of_ble_eq_true rfl, Nat.le_of_ble_eq_true rfl⟩ dX0_spotsInSight_24 (fun H locs Y => ?_)
        refine lv_if_eq (tgt := 36) hx hb dX0_spotsInSight_27 (by decide) (fun c_5 => ?_) (fun c_5 => ?_)
        · have hrun := o_t hrun c_5
          refine lv_iinc (v := (a2 + (1 : Int32))) (lv' := [(2, .int (a2 + (1 : Int32))), (0, .ref (h 0)), (1, .int a1)]) hx hb dX0_spotsInSight_36 hl (k := 2) rfl (by rfl) (Nat.le_of_ble_eq_true rfl) rfl (fun ls hl => ?_)
          refine lv_goto (tgt := 16) hx hb dX0_spotsInSight_39 (by decide) ?_
          exact ih a1 (a2 + (1 : Int32)) hrun _ _ _ Y (lv_sub hl [1, 2, 0] rfl)
        · have hrun := o_f hrun c_5
          refine lv_iload_n hx hb dX0_spotsInSight_30 rfl (lv_at hl 1 rfl) ?_
          refine lv_iconst (v := (1 : Int32)) hx hb dX0_spotsInSight_31 (by decide) ?_
          refine lv_iload_n hx hb dX0_spotsInSight_32 rfl (lv_at hl 2 rfl) ?_
          refine lv_ishl hx hb dX0_spotsInSight_33 ?_
          refine lv_ior hx hb dX0_spotsInSight_34 ?_
          refine lv_istore_n (lv' := [(1, .int (a1 ||| ((1 : Int32) <<< (a2 &&& 31)))), (0, .ref (h 0)), (2, .int a2)]) hx hb dX0_spotsInSight_35 rfl hl (Nat.le_of_ble_eq_true rfl) rfl (fun ls hl => ?_)
          refine lv_iinc (v := (a2 + (1 : Int32))) (lv' := [(2, .int (a2 + (1 : Int32))), (1, .int (a1 ||| ((1 : Int32) <<< (a2 &&& 31)))), (0, .ref (h 0))]) hx hb dX0_spotsInSight_36 hl (k := 2) rfl (by rfl) (Nat.le_of_ble_eq_true rfl) rfl (fun ls hl => ?_)
          refine lv_goto (tgt := 16) hx hb dX0_spotsInSight_39 (by decide) ?_
          exact ih (a1 ||| ((1 : Int32) <<< (a2 &&& 31))) (a2 + (1 : Int32)) hrun _ _ _ Y (lv_sub hl [2, 1, 0] rfl)
  unfold fX0_spotsInSight at hrun
  refine lv_aload_n hx hb dX0_spotsInSight_0 rfl (lv_at hl 0 rfl) ?_
  refine ig S hK Y fX0_9 0 rfl (v := .int (σ 0 2)) rfl dX0_spotsInSight_1 ?_
  refine lv_iconst (v := (2 : Int32)) hx hb dX0_spotsInSight_4 (by decide) ?_
  refine lv_icmp_eq (tgt := 12) hx hb dX0_spotsInSight_5 (by decide) (fun c_1 => ?_) (fun c_1 => ?_)
  · have hrun := o_t hrun c_1
    refine lv_iconst (v := (0 : Int32)) hx hb dX0_spotsInSight_12 (by decide) ?_
    refine lv_istore_n (lv' := [(1, .int (0 : Int32)), (0, .ref (h 0))]) hx hb dX0_spotsInSight_13 rfl hl (Nat.le_of_ble_eq_true rfl) rfl (fun ls hl => ?_)
    refine lv_iconst (v := (0 : Int32)) hx hb dX0_spotsInSight_14 (by decide) ?_
    refine lv_istore_n (lv' := [(2, .int (0 : Int32)), (1, .int (0 : Int32)), (0, .ref (h 0))]) hx hb dX0_spotsInSight_15 rfl hl (Nat.le_of_ble_eq_true rfl) rfl (fun ls hl => ?_)
    exact lp16 70 (0 : Int32) (0 : Int32) hrun _ _ _ Y (lv_sub hl [2, 1, 0] rfl)
  · have hrun := o_f hrun c_1
    refine lv_sipush (v := (-10003 : Int32)) hx hb dX0_spotsInSight_8 (by decide) ?_
    cases hrun
    exact me_ri S hK Y hr hlk rfl dX0_spotsInSight_11
end
section
def lX0_playersWhoWouldEscape_16 : Nat → Int32 → Int32 → (sg_T) → Option (Int32)
  | 0, _, _, _ => none
  | n + 1, a1, a2, σ => (if (σ 0 0) ≤ a2 then (some a1) else ((fX5_wouldEscape a2 σ).bind fun r_3 => (if r_3 = 0 then (lX0_playersWhoWouldEscape_16 n a1 (a2 + (1 : Int32)) σ) else (lX0_playersWhoWouldEscape_16 n (a1 ||| ((1 : Int32) <<< (a2 &&& 31))) (a2 + (1 : Int32)) σ))))
def fX0_playersWhoWouldEscape (σ : sg_T) : Option (Int32) := (if (σ 0 2) = (2 : Int32) then (lX0_playersWhoWouldEscape_16 70 (0 : Int32) (0 : Int32) σ) else (some (-10003 : Int32)))
set_option maxRecDepth 100000 in
set_option maxHeartbeats 4000000 in
theorem mX0_playersWhoWouldEscape (l : Launch) (D : va_G) (cI : ClassId) (h : Nat → Nat) (σ : sg_T) (r : Int32) (hrun : fX0_playersWhoWouldEscape σ = some r) : me_I l D (tS cI) yX0_playersWhoWouldEscape cX0_playersWhoWouldEscape 3 .int 4 84 (wS cI h σ) [.ref (h 0)] r (wS cI h σ) := by
  refine me_ofI (plainFor_of_name (by decide)) (Nat.le_of_ble_eq_true rfl) ?_
  intro p e s m args below meth c A ls S hK Y hA hl hr hlk hZ
  have hx := S.1
  have hb := S.2.1
  have hl : lv_has ls 3 [(0, .ref (h 0))] := hl
  have lp16 : ∀ (n : Nat) (a1 : Int32) (a2 : Int32), lX0_playersWhoWouldEscape_16 n a1 a2 σ = some r → ∀ (H : Heap) (locs : List Loc) (ls : Array Slot), dy_ D A s (wS cI h σ) H locs → lv_has ls 3 [(0, .ref (h 0)), (1, .int a1), (2, .int a2)] → W p l e (rm_ 4 84) s m args below meth c H locs 0 0 (MQ below (me_Qi D (tS cI) A r (wS cI h σ)) args s 0 0 A) (F0 m 16 ls []) := by
    intro n
    induction n with
    | zero => intro a1 a2 hrun; cases hrun
    | succ n ih =>
      intro a1 a2 hrun H locs ls Y hl
      unfold lX0_playersWhoWouldEscape_16 at hrun
      refine lv_iload_n hx hb dX0_playersWhoWouldEscape_16 rfl (lv_at hl 2 rfl) ?_
      refine lv_aload_n hx hb dX0_playersWhoWouldEscape_17 rfl (lv_at hl 0 rfl) ?_
      refine ig S hK Y fX0_21 0 rfl (v := .int (σ 0 0)) rfl dX0_playersWhoWouldEscape_18 ?_
      refine lv_icmp_ge (tgt := 44) hx hb dX0_playersWhoWouldEscape_21 (by decide) (fun c_2 => ?_) (fun c_2 => ?_)
      · have hrun := o_t hrun c_2
        refine lv_iload_n hx hb dX0_playersWhoWouldEscape_44 rfl (lv_at hl 1 rfl) ?_
        cases hrun
        exact me_ri S hK Y hr hlk rfl dX0_playersWhoWouldEscape_45
      · have hrun := o_f hrun c_2
        refine lv_aload_n hx hb dX0_playersWhoWouldEscape_24 rfl (lv_at hl 0 rfl) ?_
        refine lv_iload_n hx hb dX0_playersWhoWouldEscape_25 rfl (lv_at hl 2 rfl) ?_
        obtain ⟨r_3, e_4, hrun⟩ := o_bh hrun
        refine cf_v (As := [.int a2]) (rest := []) S hK hA hZ Y hl.1 (mX5_wouldEscape l D cI h σ a2 r_3 e_4) kX0_24 (T := TX5) (N := 16) rfl (q0 := 0) rfl ⟨Nat.le_of_ble_eq_true rfl, Nat.le_of_ble_eq_true rfl⟩ rfl rfl (Nat.le_of_ble_eq_true rfl) ⟨Nat.le_of_ble_eq_true rfl, Nat.le_of_ble_eq_true rfl⟩ dX0_playersWhoWouldEscape_26 (fun H locs Y => ?_)
        refine lv_if_eq (tgt := 38) hx hb dX0_playersWhoWouldEscape_29 (by decide) (fun c_5 => ?_) (fun c_5 => ?_)
        · have hrun := o_t hrun c_5
          refine lv_iinc (v := (a2 + (1 : Int32))) (lv' := [(2, .int (a2 + (1 : Int32))), (0, .ref (h 0)), (1, .int a1)]) hx hb dX0_playersWhoWouldEscape_38 hl (k := 2) rfl (by rfl) (Nat.le_of_ble_eq_true rfl) rfl (fun ls hl => ?_)
          refine lv_goto (tgt := 16) hx hb dX0_playersWhoWouldEscape_41 (by decide) ?_
          exact ih a1 (a2 + (1 : Int32)) hrun _ _ _ Y (lv_sub hl [1, 2, 0] rfl)
        · have hrun := o_f hrun c_5
          refine lv_iload_n hx hb dX0_playersWhoWouldEscape_32 rfl (lv_at hl 1 rfl) ?_
          refine lv_iconst (v := (1 : Int32)) hx hb dX0_playersWhoWouldEscape_33 (by decide) ?_
          refine lv_iload_n hx hb dX0_playersWhoWouldEscape_34 rfl (lv_at hl 2 rfl) ?_
          refine lv_ishl hx hb dX0_playersWhoWouldEscape_35 ?_
          refine lv_ior hx hb dX0_playersWhoWouldEscape_36 ?_
          refine lv_istore_n (lv' := [(1, .int (a1 ||| ((1 : Int32) <<< (a2 &&& 31)))), (0, .ref (h 0)), (2, .int a2)]) hx hb dX0_playersWhoWouldEscape_37 rfl hl (Nat.le_of_ble_eq_true rfl) rfl (fun ls hl => ?_)
          refine lv_iinc (v := (a2 + (1 : Int32))) (lv' := [(2, .int (a2 + (1 : Int32))), (1, .int (a1 ||| ((1 : Int32) <<< (a2 &&& 31)))), (0, .ref (h 0))]) hx hb dX0_playersWhoWouldEscape_38 hl (k := 2) rfl (by rfl) (Nat.le_of_ble_eq_true rfl) rfl (fun ls hl => ?_)
          refine lv_goto (tgt := 16) hx hb dX0_playersWhoWouldEscape_41 (by decide) ?_
          exact ih (a1 ||| ((1 : Int32) <<< (a2 &&& 31))) (a2 + (1 : Int32)) hrun _ _ _ Y (lv_sub hl [2, 1, 0] rfl)
  unfold fX0_playersWhoWouldEscape at hrun
  refine lv_aload_n hx hb dX0_playersWhoWouldEscape_0 rfl (lv_at hl 0 rfl) ?_
  refine ig S hK Y fX0_9 0 rfl (v := .int (σ 0 2)) rfl dX0_playersWhoWouldEscape_1 ?_
  refine lv_iconst (v := (2 : Int32)) hx hb dX0_playersWhoWouldEscape_4 (by decide) ?_
  refine lv_icmp_eq (tgt := 12) hx hb dX0_playersWhoWouldEscape_5 (by decide) (fun c_1 => ?_) (fun c_1 => ?_)
  · have hrun := o_t hrun c_1
    refine lv_iconst (v := (0 : Int32)) hx hb dX0_playersWhoWouldEscape_12 (by decide) ?_
    refine lv_istore_n (lv' := [(1, .int (0 : Int32)), (0, .ref (h 0))]) hx hb dX0_playersWhoWouldEscape_13 rfl hl (Nat.le_of_ble_eq_true rfl) rfl (fun ls hl => ?_)
    refine lv_iconst (v := (0 : Int32)) hx hb dX0_playersWhoWouldEscape_14 (by decide) ?_
    refine lv_istore_n (lv' := [(2, .int (0 : Int32)), (1, .int (0 : Int32)), (0, .ref (h 0))]) hx hb dX0_playersWhoWouldEscape_15 rfl hl (Nat.le_of_ble_eq_true rfl) rfl (fun ls hl => ?_)
    exact lp16 70 (0 : Int32) (0 : Int32) hrun _ _ _ Y (lv_sub hl [2, 1, 0] rfl)
  · have hrun := o_f hrun c_1
    refine lv_sipush (v := (-10003 : Int32)) hx hb dX0_playersWhoWouldEscape_8 (by decide) ?_
    cases hrun
    exact me_ri S hK Y hr hlk rfl dX0_playersWhoWouldEscape_11
def lX0_bestHidingSpot_18 : Nat → Int32 → Int32 → (sg_T) → Option (Int32)
  | 0, _, _, _ => none
  | n + 1, a1, a2, σ => (if (16 : Int32) ≤ a2 then (some a1) else ((fX5_hasRoomToHide a2 σ).bind fun r_3 => (if r_3 = 0 then (lX0_bestHidingSpot_18 n a1 (a2 + (1 : Int32)) σ) else ((fX6_isSpot a1).bind fun r_6 => (if r_6 = 0 then (lX0_bestHidingSpot_18 n a2 (a2 + (1 : Int32)) σ) else ((fX0_isBetterToHide a2 a1 σ).bind fun r_9 => (if r_9 = 0 then (lX0_bestHidingSpot_18 n a1 (a2 + (1 : Int32)) σ) else (lX0_bestHidingSpot_18 n a2 (a2 + (1 : Int32)) σ))))))))
def fX0_bestHidingSpot (σ : sg_T) : Option (Int32) := (if (σ 0 2) = (1 : Int32) then (lX0_bestHidingSpot_18 70 (-10006 : Int32) (0 : Int32) σ) else (some (-10003 : Int32)))
set_option maxRecDepth 100000 in
set_option maxHeartbeats 4000000 in
theorem mX0_bestHidingSpot (l : Launch) (D : va_G) (cI : ClassId) (h : Nat → Nat) (σ : sg_T) (r : Int32) (hrun : fX0_bestHidingSpot σ = some r) : me_I l D (tS cI) yX0_bestHidingSpot cX0_bestHidingSpot 3 .int 5 105 (wS cI h σ) [.ref (h 0)] r (wS cI h σ) := by
  refine me_ofI (plainFor_of_name (by decide)) (Nat.le_of_ble_eq_true rfl) ?_
  intro p e s m args below meth c A ls S hK Y hA hl hr hlk hZ
  have hx := S.1
  have hb := S.2.1
  have hl : lv_has ls 3 [(0, .ref (h 0))] := hl
  have lp18 : ∀ (n : Nat) (a1 : Int32) (a2 : Int32), lX0_bestHidingSpot_18 n a1 a2 σ = some r → ∀ (H : Heap) (locs : List Loc) (ls : Array Slot), dy_ D A s (wS cI h σ) H locs → lv_has ls 3 [(0, .ref (h 0)), (1, .int a1), (2, .int a2)] → W p l e (rm_ 5 105) s m args below meth c H locs 0 0 (MQ below (me_Qi D (tS cI) A r (wS cI h σ)) args s 0 0 A) (F0 m 18 ls []) := by
    intro n
    induction n with
    | zero => intro a1 a2 hrun; cases hrun
    | succ n ih =>
      intro a1 a2 hrun H locs ls Y hl
      unfold lX0_bestHidingSpot_18 at hrun
      refine lv_iload_n hx hb dX0_bestHidingSpot_18 rfl (lv_at hl 2 rfl) ?_
      refine lv_bipush (v := (16 : Int32)) hx hb dX0_bestHidingSpot_19 (by decide) ?_
      refine lv_icmp_ge (tgt := 56) hx hb dX0_bestHidingSpot_21 (by decide) (fun c_2 => ?_) (fun c_2 => ?_)
      · have hrun := o_t hrun c_2
        refine lv_iload_n hx hb dX0_bestHidingSpot_56 rfl (lv_at hl 1 rfl) ?_
        cases hrun
        exact me_ri S hK Y hr hlk rfl dX0_bestHidingSpot_57
      · have hrun := o_f hrun c_2
        refine lv_aload_n hx hb dX0_bestHidingSpot_24 rfl (lv_at hl 0 rfl) ?_
        refine lv_iload_n hx hb dX0_bestHidingSpot_25 rfl (lv_at hl 2 rfl) ?_
        obtain ⟨r_3, e_4, hrun⟩ := o_bh hrun
        refine cf_v (As := [.int a2]) (rest := []) S hK hA hZ Y hl.1 (mX5_hasRoomToHide l D cI h σ a2 r_3 e_4) kX0_27 (T := TX5) (N := 16) rfl (q0 := 0) rfl ⟨Nat.le_of_ble_eq_true rfl, Nat.le_of_ble_eq_true rfl⟩ rfl rfl (Nat.le_of_ble_eq_true rfl) ⟨Nat.le_of_ble_eq_true rfl, Nat.le_of_ble_eq_true rfl⟩ dX0_bestHidingSpot_26 (fun H locs Y => ?_)
        refine lv_if_eq (tgt := 50) hx hb dX0_bestHidingSpot_29 (by decide) (fun c_5 => ?_) (fun c_5 => ?_)
        · have hrun := o_t hrun c_5
          refine lv_iinc (v := (a2 + (1 : Int32))) (lv' := [(2, .int (a2 + (1 : Int32))), (0, .ref (h 0)), (1, .int a1)]) hx hb dX0_bestHidingSpot_50 hl (k := 2) rfl (by rfl) (Nat.le_of_ble_eq_true rfl) rfl (fun ls hl => ?_)
          refine lv_goto (tgt := 18) hx hb dX0_bestHidingSpot_53 (by decide) ?_
          exact ih a1 (a2 + (1 : Int32)) hrun _ _ _ Y (lv_sub hl [1, 2, 0] rfl)
        · have hrun := o_f hrun c_5
          refine lv_iload_n hx hb dX0_bestHidingSpot_32 rfl (lv_at hl 1 rfl) ?_
          obtain ⟨r_6, e_7, hrun⟩ := o_bh hrun
          refine cp_s (As := [.int a1]) (rest := []) S hK hA hZ Y hl.1 (mX6_isSpot l D a1 r_6 e_7) kX0_30 ⟨Nat.le_of_ble_eq_true rfl, Nat.le_of_ble_eq_true rfl⟩ rfl rfl (Nat.le_of_ble_eq_true rfl) ⟨Nat.le_of_ble_eq_true rfl, Nat.le_of_ble_eq_true rfl⟩ dX0_bestHidingSpot_33 (fun H locs Y => ?_)
          refine lv_if_eq (tgt := 48) hx hb dX0_bestHidingSpot_36 (by decide) (fun c_8 => ?_) (fun c_8 => ?_)
          · have hrun := o_t hrun c_8
            refine lv_iload_n hx hb dX0_bestHidingSpot_48 rfl (lv_at hl 2 rfl) ?_
            refine lv_istore_n (lv' := [(1, .int a2), (0, .ref (h 0)), (2, .int a2)]) hx hb dX0_bestHidingSpot_49 rfl hl (Nat.le_of_ble_eq_true rfl) rfl (fun ls hl => ?_)
            refine lv_iinc (v := (a2 + (1 : Int32))) (lv' := [(2, .int (a2 + (1 : Int32))), (1, .int a2), (0, .ref (h 0))]) hx hb dX0_bestHidingSpot_50 hl (k := 2) rfl (by rfl) (Nat.le_of_ble_eq_true rfl) rfl (fun ls hl => ?_)
            refine lv_goto (tgt := 18) hx hb dX0_bestHidingSpot_53 (by decide) ?_
            exact ih a2 (a2 + (1 : Int32)) hrun _ _ _ Y (lv_sub hl [2, 1, 0] rfl)
          · have hrun := o_f hrun c_8
            refine lv_aload_n hx hb dX0_bestHidingSpot_39 rfl (lv_at hl 0 rfl) ?_
            refine lv_iload_n hx hb dX0_bestHidingSpot_40 rfl (lv_at hl 2 rfl) ?_
            refine lv_iload_n hx hb dX0_bestHidingSpot_41 rfl (lv_at hl 1 rfl) ?_
            obtain ⟨r_9, e_10, hrun⟩ := o_bh hrun
            refine cf_s (As := [.ref (h 0), .int a2, .int a1]) (rest := []) S hK hA hZ Y hl.1 (mX0_isBetterToHide l D cI h σ a2 a1 r_9 e_10) kX0_33 ⟨Nat.le_of_ble_eq_true rfl, Nat.le_of_ble_eq_true rfl⟩ rfl rfl (Nat.le_of_ble_eq_true rfl) ⟨Nat.le_of_ble_eq_true rfl, Nat.le_of_ble_eq_true rfl⟩ dX0_bestHidingSpot_42 (fun H locs Y => ?_)
            refine lv_if_eq (tgt := 50) hx hb dX0_bestHidingSpot_45 (by decide) (fun c_11 => ?_) (fun c_11 => ?_)
            · have hrun := o_t hrun c_11
              refine lv_iinc (v := (a2 + (1 : Int32))) (lv' := [(2, .int (a2 + (1 : Int32))), (0, .ref (h 0)), (1, .int a1)]) hx hb dX0_bestHidingSpot_50 hl (k := 2) rfl (by rfl) (Nat.le_of_ble_eq_true rfl) rfl (fun ls hl => ?_)
              refine lv_goto (tgt := 18) hx hb dX0_bestHidingSpot_53 (by decide) ?_
              exact ih a1 (a2 + (1 : Int32)) hrun _ _ _ Y (lv_sub hl [1, 2, 0] rfl)
            · have hrun := o_f hrun c_11
              refine lv_iload_n hx hb dX0_bestHidingSpot_48 rfl (lv_at hl 2 rfl) ?_
              refine lv_istore_n (lv' := [(1, .int a2), (0, .ref (h 0)), (2, .int a2)]) hx hb dX0_bestHidingSpot_49 rfl hl (Nat.le_of_ble_eq_true rfl) rfl (fun ls hl => ?_)
              refine lv_iinc (v := (a2 + (1 : Int32))) (lv' := [(2, .int (a2 + (1 : Int32))), (1, .int a2), (0, .ref (h 0))]) hx hb dX0_bestHidingSpot_50 hl (k := 2) rfl (by rfl) (Nat.le_of_ble_eq_true rfl) rfl (fun ls hl => ?_)
              refine lv_goto (tgt := 18) hx hb dX0_bestHidingSpot_53 (by decide) ?_
              exact ih a2 (a2 + (1 : Int32)) hrun _ _ _ Y (lv_sub hl [2, 1, 0] rfl)
  unfold fX0_bestHidingSpot at hrun
  refine lv_aload_n hx hb dX0_bestHidingSpot_0 rfl (lv_at hl 0 rfl) ?_
  refine ig S hK Y fX0_9 0 rfl (v := .int (σ 0 2)) rfl dX0_bestHidingSpot_1 ?_
  refine lv_iconst (v := (1 : Int32)) hx hb dX0_bestHidingSpot_4 (by decide) ?_
  refine lv_icmp_eq (tgt := 12) hx hb dX0_bestHidingSpot_5 (by decide) (fun c_1 => ?_) (fun c_1 => ?_)
  · have hrun := o_t hrun c_1
    refine lv_sipush (v := (-10006 : Int32)) hx hb dX0_bestHidingSpot_12 (by decide) ?_
    refine lv_istore_n (lv' := [(1, .int (-10006 : Int32)), (0, .ref (h 0))]) hx hb dX0_bestHidingSpot_15 rfl hl (Nat.le_of_ble_eq_true rfl) rfl (fun ls hl => ?_)
    refine lv_iconst (v := (0 : Int32)) hx hb dX0_bestHidingSpot_16 (by decide) ?_
    refine lv_istore_n (lv' := [(2, .int (0 : Int32)), (1, .int (-10006 : Int32)), (0, .ref (h 0))]) hx hb dX0_bestHidingSpot_17 rfl hl (Nat.le_of_ble_eq_true rfl) rfl (fun ls hl => ?_)
    exact lp18 70 (-10006 : Int32) (0 : Int32) hrun _ _ _ Y (lv_sub hl [2, 1, 0] rfl)
  · have hrun := o_f hrun c_1
    refine lv_sipush (v := (-10003 : Int32)) hx hb dX0_bestHidingSpot_8 (by decide) ?_
    cases hrun
    exact me_ri S hK Y hr hlk rfl dX0_bestHidingSpot_11
def lX0_stepsDownForTheRest_4 : Nat → Int32 → Int32 → Int32 → (sg_T) → Option (Int32)
  | 0, _, _, _, _ => none
  | n + 1, a1, a2, a3, σ => (if (σ 0 0) ≤ a3 then (some a2) else ((fX5_isHidden a3 σ).bind fun r_2 => (if r_2 = 0 then (lX0_stepsDownForTheRest_4 n a1 a2 (a3 + (1 : Int32)) σ) else (o_x a3 8 ((fX5_seekerSees ((σ 7) (a3).toNatClampNeg) σ).bind fun r_6 => (if r_6 = 0 then ((fX6_stepsUp (σ 0 5) ((σ 7) (a3).toNatClampNeg)).bind fun r_9 => (if (r_9 - ((σ 1) ((0 : Int32)).toNatClampNeg)) ≤ a1 then (lX0_stepsDownForTheRest_4 n a1 a2 (a3 + (1 : Int32)) σ) else ((fJ9_max_7cf53 a2 (((16 : Int32) - r_9) - ((σ 1) ((0 : Int32)).toNatClampNeg))).bind fun r_12 => (lX0_stepsDownForTheRest_4 n a1 r_12 (a3 + (1 : Int32)) σ)))) else (lX0_stepsDownForTheRest_4 n a1 a2 (a3 + (1 : Int32)) σ)))))))
def fX0_stepsDownForTheRest (p1 : Int32) (σ : sg_T) : Option (Int32) := (lX0_stepsDownForTheRest_4 70 p1 (0 : Int32) (0 : Int32) σ)
set_option maxRecDepth 100000 in
set_option maxHeartbeats 4000000 in
theorem mX0_stepsDownForTheRest (l : Launch) (D : va_G) (cI : ClassId) (h : Nat → Nat) (σ : sg_T) (p1 : Int32) (r : Int32) (hrun : fX0_stepsDownForTheRest p1 σ = some r) : me_I l D (tS cI) yX0_stepsDownForTheRest cX0_stepsDownForTheRest 6 .int 4 85 (wS cI h σ) [.ref (h 0), .int p1] r (wS cI h σ) := by
  refine me_ofI (plainFor_of_name (by decide)) (Nat.le_of_ble_eq_true rfl) ?_
  intro p e s m args below meth c A ls S hK Y hA hl hr hlk hZ
  have hx := S.1
  have hb := S.2.1
  have hl : lv_has ls 6 [(0, .ref (h 0)), (1, .int p1)] := hl
  have lp4 : ∀ (n : Nat) (a1 : Int32) (a2 : Int32) (a3 : Int32), lX0_stepsDownForTheRest_4 n a1 a2 a3 σ = some r → ∀ (H : Heap) (locs : List Loc) (ls : Array Slot), dy_ D A s (wS cI h σ) H locs → lv_has ls 6 [(0, .ref (h 0)), (1, .int a1), (2, .int a2), (3, .int a3)] → W p l e (rm_ 4 85) s m args below meth c H locs 0 0 (MQ below (me_Qi D (tS cI) A r (wS cI h σ)) args s 0 0 A) (F0 m 4 ls []) := by
    intro n
    induction n with
    | zero => intro a1 a2 a3 hrun; cases hrun
    | succ n ih =>
      intro a1 a2 a3 hrun H locs ls Y hl
      unfold lX0_stepsDownForTheRest_4 at hrun
      refine lv_iload_n hx hb dX0_stepsDownForTheRest_4 rfl (lv_at hl 3 rfl) ?_
      refine lv_aload_n hx hb dX0_stepsDownForTheRest_5 rfl (lv_at hl 0 rfl) ?_
      refine ig S hK Y fX0_21 0 rfl (v := .int (σ 0 0)) rfl dX0_stepsDownForTheRest_6 ?_
      refine lv_icmp_ge (tgt := 88) hx hb dX0_stepsDownForTheRest_9 (by decide) (fun c_1 => ?_) (fun c_1 => ?_)
      · have hrun := o_t hrun c_1
        refine lv_iload_n hx hb dX0_stepsDownForTheRest_88 rfl (lv_at hl 2 rfl) ?_
        cases hrun
        exact me_ri S hK Y hr hlk rfl dX0_stepsDownForTheRest_89
      · have hrun := o_f hrun c_1
        refine lv_aload_n hx hb dX0_stepsDownForTheRest_12 rfl (lv_at hl 0 rfl) ?_
        refine lv_iload_n hx hb dX0_stepsDownForTheRest_13 rfl (lv_at hl 3 rfl) ?_
        obtain ⟨r_2, e_3, hrun⟩ := o_bh hrun
        refine cf_v (As := [.int a3]) (rest := []) S hK hA hZ Y hl.1 (mX5_isHidden l D cI h σ a3 r_2 e_3) kX0_60 (T := TX5) (N := 16) rfl (q0 := 0) rfl ⟨Nat.le_of_ble_eq_true rfl, Nat.le_of_ble_eq_true rfl⟩ rfl rfl (Nat.le_of_ble_eq_true rfl) ⟨Nat.le_of_ble_eq_true rfl, Nat.le_of_ble_eq_true rfl⟩ dX0_stepsDownForTheRest_14 (fun H locs Y => ?_)
        refine lv_if_eq (tgt := 82) hx hb dX0_stepsDownForTheRest_17 (by decide) (fun c_4 => ?_) (fun c_4 => ?_)
        · have hrun := o_t hrun c_4
          refine lv_iinc (v := (a3 + (1 : Int32))) (lv' := [(3, .int (a3 + (1 : Int32))), (0, .ref (h 0)), (1, .int a1), (2, .int a2)]) hx hb dX0_stepsDownForTheRest_82 hl (k := 3) rfl (by rfl) (Nat.le_of_ble_eq_true rfl) rfl (fun ls hl => ?_)
          refine lv_goto (tgt := 4) hx hb dX0_stepsDownForTheRest_85 (by decide) ?_
          exact ih a1 a2 (a3 + (1 : Int32)) hrun _ _ _ Y (lv_sub hl [1, 2, 3, 0] rfl)
        · have hrun := o_f hrun c_4
          refine lv_aload_n hx hb dX0_stepsDownForTheRest_20 rfl (lv_at hl 0 rfl) ?_
          refine lv_aload_n hx hb dX0_stepsDownForTheRest_21 rfl (lv_at hl 0 rfl) ?_
          refine ig S hK Y fX0_63 0 rfl (v := .ref (h 7)) rfl dX0_stepsDownForTheRest_22 ?_
          refine lv_iload_n hx hb dX0_stepsDownForTheRest_25 rfl (lv_at hl 3 rfl) ?_
          obtain ⟨b_5, hrun⟩ := o_xh hrun
          refine ia S hK Y 7 0 (f := (σ 7)) rfl rfl b_5 dX0_stepsDownForTheRest_26 ?_
          obtain ⟨r_6, e_7, hrun⟩ := o_bh hrun
          refine cf_v (As := [.int ((σ 7) (a3).toNatClampNeg)]) (rest := []) S hK hA hZ Y hl.1 (mX5_seekerSees l D cI h σ ((σ 7) (a3).toNatClampNeg) r_6 e_7) kX0_17 (T := TX5) (N := 16) rfl (q0 := 0) rfl ⟨Nat.le_of_ble_eq_true rfl, Nat.le_of_ble_eq_true rfl⟩ rfl rfl (Nat.le_of_ble_eq_true rfl) ⟨Nat.le_of_ble_eq_true rfl, Nat.le_of_ble_eq_true rfl⟩ dX0_stepsDownForTheRest_27 (fun H locs Y => ?_)
          refine lv_if_ne (tgt := 82) hx hb dX0_stepsDownForTheRest_30 (by decide) (fun c_8 => ?_) (fun c_8 => ?_)
          · have hrun := o_f hrun c_8
            refine lv_iinc (v := (a3 + (1 : Int32))) (lv' := [(3, .int (a3 + (1 : Int32))), (0, .ref (h 0)), (1, .int a1), (2, .int a2)]) hx hb dX0_stepsDownForTheRest_82 hl (k := 3) rfl (by rfl) (Nat.le_of_ble_eq_true rfl) rfl (fun ls hl => ?_)
            refine lv_goto (tgt := 4) hx hb dX0_stepsDownForTheRest_85 (by decide) ?_
            exact ih a1 a2 (a3 + (1 : Int32)) hrun _ _ _ Y (lv_sub hl [1, 2, 3, 0] rfl)
          · have hrun := o_t hrun c_8
            refine lv_aload_n hx hb dX0_stepsDownForTheRest_33 rfl (lv_at hl 0 rfl) ?_
            refine ig S hK Y fX0_66 0 rfl (v := .int (σ 0 5)) rfl dX0_stepsDownForTheRest_34 ?_
            refine lv_aload_n hx hb dX0_stepsDownForTheRest_37 rfl (lv_at hl 0 rfl) ?_
            refine ig S hK Y fX0_63 0 rfl (v := .ref (h 7)) rfl dX0_stepsDownForTheRest_38 ?_
            refine lv_iload_n hx hb dX0_stepsDownForTheRest_41 rfl (lv_at hl 3 rfl) ?_
            refine ia S hK Y 7 0 (f := (σ 7)) rfl rfl b_5 dX0_stepsDownForTheRest_42 ?_
            obtain ⟨r_9, e_10, hrun⟩ := o_bh hrun
            refine cp_s (As := [.int (σ 0 5), .int ((σ 7) (a3).toNatClampNeg)]) (rest := []) S hK hA hZ Y hl.1 (mX6_stepsUp l D (σ 0 5) ((σ 7) (a3).toNatClampNeg) r_9 e_10) kX0_69 ⟨Nat.le_of_ble_eq_true rfl, Nat.le_of_ble_eq_true rfl⟩ rfl rfl (Nat.le_of_ble_eq_true rfl) ⟨Nat.le_of_ble_eq_true rfl, Nat.le_of_ble_eq_true rfl⟩ dX0_stepsDownForTheRest_43 (fun H locs Y => ?_)
            refine lv_istore (lv' := [(4, .int r_9), (0, .ref (h 0)), (1, .int a1), (2, .int a2), (3, .int a3)]) hx hb dX0_stepsDownForTheRest_46 hl (Nat.le_of_ble_eq_true rfl) rfl (fun ls hl => ?_)
            refine lv_bipush (v := (16 : Int32)) hx hb dX0_stepsDownForTheRest_48 (by decide) ?_
            refine lv_iload hx hb dX0_stepsDownForTheRest_50 (lv_at hl 0 rfl) ?_
            refine lv_isub hx hb dX0_stepsDownForTheRest_52 ?_
            refine lv_istore (lv' := [(5, .int ((16 : Int32) - r_9)), (4, .int r_9), (0, .ref (h 0)), (1, .int a1), (2, .int a2), (3, .int a3)]) hx hb dX0_stepsDownForTheRest_53 hl (Nat.le_of_ble_eq_true rfl) rfl (fun ls hl => ?_)
            refine lv_iload hx hb dX0_stepsDownForTheRest_55 (lv_at hl 1 rfl) ?_
            refine lv_aload_n hx hb dX0_stepsDownForTheRest_57 rfl (lv_at hl 2 rfl) ?_
            refine ig S hK Y fX0_72 0 rfl (v := .ref (h 1)) rfl dX0_stepsDownForTheRest_58 ?_
            refine lv_iconst (v := (0 : Int32)) hx hb dX0_stepsDownForTheRest_61 (by decide) ?_
            refine ia S hK Y 1 0 (f := (σ 1)) rfl rfl (show ¬ ((0 : Int32) < 0 ∨ 4 ≤ ((0 : Int32)).toNatClampNeg) by decide) dX0_stepsDownForTheRest_62 ?_
            refine lv_isub hx hb dX0_stepsDownForTheRest_63 ?_
            refine lv_iload_n hx hb dX0_stepsDownForTheRest_64 rfl (lv_at hl 3 rfl) ?_
            refine lv_icmp_le (tgt := 82) hx hb dX0_stepsDownForTheRest_65 (by decide) (fun c_11 => ?_) (fun c_11 => ?_)
            · have hrun := o_t hrun c_11
              refine lv_iinc (v := (a3 + (1 : Int32))) (lv' := [(3, .int (a3 + (1 : Int32))), (5, .int ((16 : Int32) - r_9)), (4, .int r_9), (0, .ref (h 0)), (1, .int a1), (2, .int a2)]) hx hb dX0_stepsDownForTheRest_82 hl (k := 5) rfl (by rfl) (Nat.le_of_ble_eq_true rfl) rfl (fun ls hl => ?_)
              refine lv_goto (tgt := 4) hx hb dX0_stepsDownForTheRest_85 (by decide) ?_
              exact ih a1 a2 (a3 + (1 : Int32)) hrun _ _ _ Y (lv_sub hl [3, 4, 5, 0] rfl)
            · have hrun := o_f hrun c_11
              refine lv_iload_n hx hb dX0_stepsDownForTheRest_68 rfl (lv_at hl 4 rfl) ?_
              refine lv_iload hx hb dX0_stepsDownForTheRest_69 (lv_at hl 0 rfl) ?_
              refine lv_aload_n hx hb dX0_stepsDownForTheRest_71 rfl (lv_at hl 2 rfl) ?_
              refine ig S hK Y fX0_72 0 rfl (v := .ref (h 1)) rfl dX0_stepsDownForTheRest_72 ?_
              refine lv_iconst (v := (0 : Int32)) hx hb dX0_stepsDownForTheRest_75 (by decide) ?_
              refine ia S hK Y 1 0 (f := (σ 1)) rfl rfl (show ¬ ((0 : Int32) < 0 ∨ 4 ≤ ((0 : Int32)).toNatClampNeg) by decide) dX0_stepsDownForTheRest_76 ?_
              refine lv_isub hx hb dX0_stepsDownForTheRest_77 ?_
              obtain ⟨r_12, e_13, hrun⟩ := o_bh hrun
              refine cp_s (As := [.int a2, .int (((16 : Int32) - r_9) - ((σ 1) ((0 : Int32)).toNatClampNeg))]) (rest := []) S hK hA hZ Y hl.1 (mJ9_max_7cf53 l D a2 (((16 : Int32) - r_9) - ((σ 1) ((0 : Int32)).toNatClampNeg)) r_12 e_13) kX0_75 ⟨Nat.le_of_ble_eq_true rfl, Nat.le_of_ble_eq_true rfl⟩ rfl rfl (Nat.le_of_ble_eq_true rfl) ⟨Nat.le_of_ble_eq_true rfl, Nat.le_of_ble_eq_true rfl⟩ dX0_stepsDownForTheRest_78 (fun H locs Y => ?_)
              refine lv_istore_n (lv' := [(2, .int r_12), (5, .int ((16 : Int32) - r_9)), (4, .int r_9), (0, .ref (h 0)), (1, .int a1), (3, .int a3)]) hx hb dX0_stepsDownForTheRest_81 rfl hl (Nat.le_of_ble_eq_true rfl) rfl (fun ls hl => ?_)
              refine lv_iinc (v := (a3 + (1 : Int32))) (lv' := [(3, .int (a3 + (1 : Int32))), (2, .int r_12), (5, .int ((16 : Int32) - r_9)), (4, .int r_9), (0, .ref (h 0)), (1, .int a1)]) hx hb dX0_stepsDownForTheRest_82 hl (k := 5) rfl (by rfl) (Nat.le_of_ble_eq_true rfl) rfl (fun ls hl => ?_)
              refine lv_goto (tgt := 4) hx hb dX0_stepsDownForTheRest_85 (by decide) ?_
              exact ih a1 r_12 (a3 + (1 : Int32)) hrun _ _ _ Y (lv_sub hl [4, 5, 1, 0] rfl)
  unfold fX0_stepsDownForTheRest at hrun
  refine lv_iconst (v := (0 : Int32)) hx hb dX0_stepsDownForTheRest_0 (by decide) ?_
  refine lv_istore_n (lv' := [(2, .int (0 : Int32)), (0, .ref (h 0)), (1, .int p1)]) hx hb dX0_stepsDownForTheRest_1 rfl hl (Nat.le_of_ble_eq_true rfl) rfl (fun ls hl => ?_)
  refine lv_iconst (v := (0 : Int32)) hx hb dX0_stepsDownForTheRest_2 (by decide) ?_
  refine lv_istore_n (lv' := [(3, .int (0 : Int32)), (2, .int (0 : Int32)), (0, .ref (h 0)), (1, .int p1)]) hx hb dX0_stepsDownForTheRest_3 rfl hl (Nat.le_of_ble_eq_true rfl) rfl (fun ls hl => ?_)
  exact lp4 70 p1 (0 : Int32) (0 : Int32) hrun _ _ _ Y (lv_sub hl [2, 3, 1, 0] rfl)
def lX2_countHidingSpots_4 : Nat → Int32 → Int32 → (sg_T) → Option (Int32)
  | 0, _, _, _ => none
  | n + 1, a1, a2, σ => (if (16 : Int32) ≤ a2 then (some a1) else ((fX5_hasRoomToHide a2 σ).bind fun r_2 => (if r_2 = 0 then (lX2_countHidingSpots_4 n a1 (a2 + (1 : Int32)) σ) else (lX2_countHidingSpots_4 n (a1 + (1 : Int32)) (a2 + (1 : Int32)) σ))))
def fX2_countHidingSpots (σ : sg_T) : Option (Int32) := (lX2_countHidingSpots_4 70 (0 : Int32) (0 : Int32) σ)
set_option maxRecDepth 100000 in
set_option maxHeartbeats 4000000 in
theorem mX2_countHidingSpots (l : Launch) (D : va_G) (cI : ClassId) (h : Nat → Nat) (σ : sg_T) (r : Int32) (hrun : fX2_countHidingSpots σ = some r) : me_I l D (tS cI) yX2_countHidingSpots cX2_countHidingSpots 3 .int 5 105 (wS cI h σ) [.ref (h 0)] r (wS cI h σ) := by
  refine me_ofI (plainFor_of_name (by decide)) (Nat.le_of_ble_eq_true rfl) ?_
  intro p e s m args below meth c A ls S hK Y hA hl hr hlk hZ
  have hx := S.1
  have hb := S.2.1
  have hl : lv_has ls 3 [(0, .ref (h 0))] := hl
  have lp4 : ∀ (n : Nat) (a1 : Int32) (a2 : Int32), lX2_countHidingSpots_4 n a1 a2 σ = some r → ∀ (H : Heap) (locs : List Loc) (ls : Array Slot), dy_ D A s (wS cI h σ) H locs → lv_has ls 3 [(0, .ref (h 0)), (1, .int a1), (2, .int a2)] → W p l e (rm_ 5 105) s m args below meth c H locs 0 0 (MQ below (me_Qi D (tS cI) A r (wS cI h σ)) args s 0 0 A) (F0 m 4 ls []) := by
    intro n
    induction n with
    | zero => intro a1 a2 hrun; cases hrun
    | succ n ih =>
      intro a1 a2 hrun H locs ls Y hl
      unfold lX2_countHidingSpots_4 at hrun
      refine lv_iload_n hx hb dX2_countHidingSpots_4 rfl (lv_at hl 2 rfl) ?_
      refine lv_bipush (v := (16 : Int32)) hx hb dX2_countHidingSpots_5 (by decide) ?_
      refine lv_icmp_ge (tgt := 27) hx hb dX2_countHidingSpots_7 (by decide) (fun c_1 => ?_) (fun c_1 => ?_)
      · have hrun := o_t hrun c_1
        refine lv_iload_n hx hb dX2_countHidingSpots_27 rfl (lv_at hl 1 rfl) ?_
        cases hrun
        exact me_ri S hK Y hr hlk rfl dX2_countHidingSpots_28
      · have hrun := o_f hrun c_1
        refine lv_aload_n hx hb dX2_countHidingSpots_10 rfl (lv_at hl 0 rfl) ?_
        refine lv_iload_n hx hb dX2_countHidingSpots_11 rfl (lv_at hl 2 rfl) ?_
        obtain ⟨r_2, e_3, hrun⟩ := o_bh hrun
        refine cf_v (As := [.int a2]) (rest := []) S hK hA hZ Y hl.1 (mX5_hasRoomToHide l D cI h σ a2 r_2 e_3) kX2_52 (T := TX5) (N := 16) rfl (q0 := 0) rfl ⟨Nat.le_of_ble_eq_true rfl, Nat.le_of_ble_eq_true rfl⟩ rfl rfl (Nat.le_of_ble_eq_true rfl) ⟨Nat.le_of_ble_eq_true rfl, Nat.le_of_ble_eq_true rfl⟩ dX2_countHidingSpots_12 (fun H locs Y => ?_)
        refine lv_if_eq (tgt := 21) hx hb dX2_countHidingSpots_15 (by decide) (fun c_4 => ?_) (fun c_4 => ?_)
        · have hrun := o_t hrun c_4
          refine lv_iinc (v := (a2 + (1 : Int32))) (lv' := [(2, .int (a2 + (1 : Int32))), (0, .ref (h 0)), (1, .int a1)]) hx hb dX2_countHidingSpots_21 hl (k := 2) rfl (by rfl) (Nat.le_of_ble_eq_true rfl) rfl (fun ls hl => ?_)
          refine lv_goto (tgt := 4) hx hb dX2_countHidingSpots_24 (by decide) ?_
          exact ih a1 (a2 + (1 : Int32)) hrun _ _ _ Y (lv_sub hl [1, 2, 0] rfl)
        · have hrun := o_f hrun c_4
          refine lv_iinc (v := (a1 + (1 : Int32))) (lv' := [(1, .int (a1 + (1 : Int32))), (0, .ref (h 0)), (2, .int a2)]) hx hb dX2_countHidingSpots_18 hl (k := 1) rfl (by rfl) (Nat.le_of_ble_eq_true rfl) rfl (fun ls hl => ?_)
          refine lv_iinc (v := (a2 + (1 : Int32))) (lv' := [(2, .int (a2 + (1 : Int32))), (1, .int (a1 + (1 : Int32))), (0, .ref (h 0))]) hx hb dX2_countHidingSpots_21 hl (k := 2) rfl (by rfl) (Nat.le_of_ble_eq_true rfl) rfl (fun ls hl => ?_)
          refine lv_goto (tgt := 4) hx hb dX2_countHidingSpots_24 (by decide) ?_
          exact ih (a1 + (1 : Int32)) (a2 + (1 : Int32)) hrun _ _ _ Y (lv_sub hl [2, 1, 0] rfl)
  unfold fX2_countHidingSpots at hrun
  refine lv_iconst (v := (0 : Int32)) hx hb dX2_countHidingSpots_0 (by decide) ?_
  refine lv_istore_n (lv' := [(1, .int (0 : Int32)), (0, .ref (h 0))]) hx hb dX2_countHidingSpots_1 rfl hl (Nat.le_of_ble_eq_true rfl) rfl (fun ls hl => ?_)
  refine lv_iconst (v := (0 : Int32)) hx hb dX2_countHidingSpots_2 (by decide) ?_
  refine lv_istore_n (lv' := [(2, .int (0 : Int32)), (1, .int (0 : Int32)), (0, .ref (h 0))]) hx hb dX2_countHidingSpots_3 rfl hl (Nat.le_of_ble_eq_true rfl) rfl (fun ls hl => ?_)
  exact lp4 70 (0 : Int32) (0 : Int32) hrun _ _ _ Y (lv_sub hl [2, 1, 0] rfl)
def fX2_hidePlayer (p1 p2 : Int32) (σ : sg_T) : Option (Int32 × sg_T) := ((fX5_isPlayer p1 σ).bind fun r_1 => (if r_1 = 0 then (some ((-10001 : Int32), σ)) else ((fX6_isSpot p2).bind fun r_4 => (if r_4 = 0 then (some ((-10001 : Int32), σ)) else (if (σ 0 2) = (1 : Int32) then (if p1 = (σ 0 3) then (some ((-10003 : Int32), σ)) else ((fX5_isHidden p1 σ).bind fun r_9 => (if r_9 = 0 then ((fX5_isHidingPlace p2 σ).bind fun r_12 => (if r_12 = 0 then (some ((-10003 : Int32), σ)) else ((fX5_isFull p2 σ).bind fun r_15 => (if r_15 = 0 then (o_x p1 8 ((fX6_fromBase p2).bind fun r_19 => (some (r_19, (sg_a σ 7 (upd (σ 7) (p1).toNatClampNeg p2)))))) else (some ((-10004 : Int32), σ)))))) else (some ((-10003 : Int32), σ))))) else (some ((-10003 : Int32), σ)))))))
set_option maxRecDepth 100000 in
set_option maxHeartbeats 4000000 in
theorem mX2_hidePlayer (l : Launch) (D : va_G) (cI : ClassId) (h : Nat → Nat) (σ : sg_T) (p1 p2 : Int32) (r : Int32) (σ' : sg_T) (hrun : fX2_hidePlayer p1 p2 σ = some (r, σ')) : me_I l D (tS cI) yX2_hidePlayer cX2_hidePlayer 3 .int 4 84 (wS cI h σ) [.ref (h 0), .int p1, .int p2] r (wS cI h σ') := by
  refine me_ofI (plainFor_of_name (by decide)) (Nat.le_of_ble_eq_true rfl) ?_
  intro p e s m args below meth c A ls S hK Y hA hl hr hlk hZ
  have hx := S.1
  have hb := S.2.1
  have hl : lv_has ls 3 [(0, .ref (h 0)), (1, .int p1), (2, .int p2)] := hl
  unfold fX2_hidePlayer at hrun
  refine lv_aload_n hx hb dX2_hidePlayer_0 rfl (lv_at hl 0 rfl) ?_
  refine lv_iload_n hx hb dX2_hidePlayer_1 rfl (lv_at hl 1 rfl) ?_
  obtain ⟨r_1, e_2, hrun⟩ := o_bh hrun
  refine cf_v (As := [.int p1]) (rest := []) S hK hA hZ Y hl.1 (mX5_isPlayer l D cI h σ p1 r_1 e_2) kX2_32 (T := TX5) (N := 16) rfl (q0 := 0) rfl ⟨Nat.le_of_ble_eq_true rfl, Nat.le_of_ble_eq_true rfl⟩ rfl rfl (Nat.le_of_ble_eq_true rfl) ⟨Nat.le_of_ble_eq_true rfl, Nat.le_of_ble_eq_true rfl⟩ dX2_hidePlayer_2 (fun H locs Y => ?_)
  refine lv_if_eq (tgt := 15) hx hb dX2_hidePlayer_5 (by decide) (fun c_3 => ?_) (fun c_3 => ?_)
  · have hrun := o_t hrun c_3
    refine lv_sipush (v := (-10001 : Int32)) hx hb dX2_hidePlayer_15 (by decide) ?_
    cases hrun
    exact me_ri S hK Y hr hlk rfl dX2_hidePlayer_18
  · have hrun := o_f hrun c_3
    refine lv_iload_n hx hb dX2_hidePlayer_8 rfl (lv_at hl 2 rfl) ?_
    obtain ⟨r_4, e_5, hrun⟩ := o_bh hrun
    refine cp_s (As := [.int p2]) (rest := []) S hK hA hZ Y hl.1 (mX6_isSpot l D p2 r_4 e_5) kX2_55 ⟨Nat.le_of_ble_eq_true rfl, Nat.le_of_ble_eq_true rfl⟩ rfl rfl (Nat.le_of_ble_eq_true rfl) ⟨Nat.le_of_ble_eq_true rfl, Nat.le_of_ble_eq_true rfl⟩ dX2_hidePlayer_9 (fun H locs Y => ?_)
    refine lv_if_ne (tgt := 19) hx hb dX2_hidePlayer_12 (by decide) (fun c_6 => ?_) (fun c_6 => ?_)
    · have hrun := o_f hrun c_6
      refine lv_aload_n hx hb dX2_hidePlayer_19 rfl (lv_at hl 0 rfl) ?_
      refine ig S hK Y fX2_25 0 rfl (v := .int (σ 0 2)) rfl dX2_hidePlayer_20 ?_
      refine lv_iconst (v := (1 : Int32)) hx hb dX2_hidePlayer_23 (by decide) ?_
      refine lv_icmp_ne (tgt := 43) hx hb dX2_hidePlayer_24 (by decide) (fun c_7 => ?_) (fun c_7 => ?_)
      · have hrun := o_f hrun c_7
        refine lv_sipush (v := (-10003 : Int32)) hx hb dX2_hidePlayer_43 (by decide) ?_
        cases hrun
        exact me_ri S hK Y hr hlk rfl dX2_hidePlayer_46
      · have hrun := o_t hrun c_7
        refine lv_iload_n hx hb dX2_hidePlayer_27 rfl (lv_at hl 1 rfl) ?_
        refine lv_aload_n hx hb dX2_hidePlayer_28 rfl (lv_at hl 0 rfl) ?_
        refine ig S hK Y fX2_35 0 rfl (v := .int (σ 0 3)) rfl dX2_hidePlayer_29 ?_
        refine lv_icmp_eq (tgt := 43) hx hb dX2_hidePlayer_32 (by decide) (fun c_8 => ?_) (fun c_8 => ?_)
        · have hrun := o_t hrun c_8
          refine lv_sipush (v := (-10003 : Int32)) hx hb dX2_hidePlayer_43 (by decide) ?_
          cases hrun
          exact me_ri S hK Y hr hlk rfl dX2_hidePlayer_46
        · have hrun := o_f hrun c_8
          refine lv_aload_n hx hb dX2_hidePlayer_35 rfl (lv_at hl 0 rfl) ?_
          refine lv_iload_n hx hb dX2_hidePlayer_36 rfl (lv_at hl 1 rfl) ?_
          obtain ⟨r_9, e_10, hrun⟩ := o_bh hrun
          refine cf_v (As := [.int p1]) (rest := []) S hK hA hZ Y hl.1 (mX5_isHidden l D cI h σ p1 r_9 e_10) kX2_58 (T := TX5) (N := 16) rfl (q0 := 0) rfl ⟨Nat.le_of_ble_eq_true rfl, Nat.le_of_ble_eq_true rfl⟩ rfl rfl (Nat.le_of_ble_eq_true rfl) ⟨Nat.le_of_ble_eq_true rfl, Nat.le_of_ble_eq_true rfl⟩ dX2_hidePlayer_37 (fun H locs Y => ?_)
          refine lv_if_eq (tgt := 47) hx hb dX2_hidePlayer_40 (by decide) (fun c_11 => ?_) (fun c_11 => ?_)
          · have hrun := o_t hrun c_11
            refine lv_aload_n hx hb dX2_hidePlayer_47 rfl (lv_at hl 0 rfl) ?_
            refine lv_iload_n hx hb dX2_hidePlayer_48 rfl (lv_at hl 2 rfl) ?_
            obtain ⟨r_12, e_13, hrun⟩ := o_bh hrun
            refine cf_v (As := [.int p2]) (rest := []) S hK hA hZ Y hl.1 (mX5_isHidingPlace l D cI h σ p2 r_12 e_13) kX2_61 (T := TX5) (N := 16) rfl (q0 := 0) rfl ⟨Nat.le_of_ble_eq_true rfl, Nat.le_of_ble_eq_true rfl⟩ rfl rfl (Nat.le_of_ble_eq_true rfl) ⟨Nat.le_of_ble_eq_true rfl, Nat.le_of_ble_eq_true rfl⟩ dX2_hidePlayer_49 (fun H locs Y => ?_)
            refine lv_if_ne (tgt := 59) hx hb dX2_hidePlayer_52 (by decide) (fun c_14 => ?_) (fun c_14 => ?_)
            · have hrun := o_f hrun c_14
              refine lv_aload_n hx hb dX2_hidePlayer_59 rfl (lv_at hl 0 rfl) ?_
              refine lv_iload_n hx hb dX2_hidePlayer_60 rfl (lv_at hl 2 rfl) ?_
              obtain ⟨r_15, e_16, hrun⟩ := o_bh hrun
              refine cf_v (As := [.int p2]) (rest := []) S hK hA hZ Y hl.1 (mX5_isFull l D cI h σ p2 r_15 e_16) kX2_64 (T := TX5) (N := 16) rfl (q0 := 0) rfl ⟨Nat.le_of_ble_eq_true rfl, Nat.le_of_ble_eq_true rfl⟩ rfl rfl (Nat.le_of_ble_eq_true rfl) ⟨Nat.le_of_ble_eq_true rfl, Nat.le_of_ble_eq_true rfl⟩ dX2_hidePlayer_61 (fun H locs Y => ?_)
              refine lv_if_eq (tgt := 71) hx hb dX2_hidePlayer_64 (by decide) (fun c_17 => ?_) (fun c_17 => ?_)
              · have hrun := o_t hrun c_17
                refine lv_aload_n hx hb dX2_hidePlayer_71 rfl (lv_at hl 0 rfl) ?_
                refine ig S hK Y fX2_67 0 rfl (v := .ref (h 7)) rfl dX2_hidePlayer_72 ?_
                refine lv_iload_n hx hb dX2_hidePlayer_75 rfl (lv_at hl 1 rfl) ?_
                refine lv_iload_n hx hb dX2_hidePlayer_76 rfl (lv_at hl 2 rfl) ?_
                obtain ⟨b_18, hrun⟩ := o_xh hrun
                refine iw S hK Y 7 0 (f := (σ 7)) rfl rfl b_18 (ws' := (wS cI h (sg_a σ 7 (upd (σ 7) (p1).toNatClampNeg p2)))) (wS_a7 _ _ _) dX2_hidePlayer_77 (fun H locs Y => ?_)
                refine lv_iload_n hx hb dX2_hidePlayer_78 rfl (lv_at hl 2 rfl) ?_
                obtain ⟨r_19, e_20, hrun⟩ := o_bh hrun
                refine cp_s (As := [.int p2]) (rest := []) S hK hA hZ Y hl.1 (mX6_fromBase l D p2 r_19 e_20) kX2_70 ⟨Nat.le_of_ble_eq_true rfl, Nat.le_of_ble_eq_true rfl⟩ rfl rfl (Nat.le_of_ble_eq_true rfl) ⟨Nat.le_of_ble_eq_true rfl, Nat.le_of_ble_eq_true rfl⟩ dX2_hidePlayer_79 (fun H locs Y => ?_)
                cases hrun
                exact me_ri S hK Y hr hlk rfl dX2_hidePlayer_82
              · have hrun := o_f hrun c_17
                refine lv_sipush (v := (-10004 : Int32)) hx hb dX2_hidePlayer_67 (by decide) ?_
                cases hrun
                exact me_ri S hK Y hr hlk rfl dX2_hidePlayer_70
            · have hrun := o_t hrun c_14
              refine lv_sipush (v := (-10003 : Int32)) hx hb dX2_hidePlayer_55 (by decide) ?_
              cases hrun
              exact me_ri S hK Y hr hlk rfl dX2_hidePlayer_58
          · have hrun := o_f hrun c_11
            refine lv_sipush (v := (-10003 : Int32)) hx hb dX2_hidePlayer_43 (by decide) ?_
            cases hrun
            exact me_ri S hK Y hr hlk rfl dX2_hidePlayer_46
    · have hrun := o_t hrun c_6
      refine lv_sipush (v := (-10001 : Int32)) hx hb dX2_hidePlayer_15 (by decide) ?_
      cases hrun
      exact me_ri S hK Y hr hlk rfl dX2_hidePlayer_18
def fX2_beginSeeking (σ : sg_T) : Option (Int32 × sg_T) := (if (σ 0 2) = (1 : Int32) then ((fX5_hiddenCount (sg_a (sg_a σ 0 (sg_u (σ 0) 2 (2 : Int32))) 0 (sg_u (sg_u (σ 0) 2 (2 : Int32)) 5 (0 : Int32)))).bind fun r_2 => ((fX2_endRoundIfNobodyIsHidden (sg_a (sg_a σ 0 (sg_u (σ 0) 2 (2 : Int32))) 0 (sg_u (sg_u (σ 0) 2 (2 : Int32)) 5 (0 : Int32)))).bind fun σ4 => (some (r_2, σ4)))) else (some ((-10003 : Int32), σ)))
set_option maxRecDepth 100000 in
set_option maxHeartbeats 4000000 in
theorem mX2_beginSeeking (l : Launch) (D : va_G) (cI : ClassId) (h : Nat → Nat) (σ : sg_T) (r : Int32) (σ' : sg_T) (hrun : fX2_beginSeeking σ = some (r, σ')) : me_I l D (tS cI) yX2_beginSeeking cX2_beginSeeking 2 .int 4 84 (wS cI h σ) [.ref (h 0)] r (wS cI h σ') := by
  refine me_ofI (plainFor_of_name (by decide)) (Nat.le_of_ble_eq_true rfl) ?_
  intro p e s m args below meth c A ls S hK Y hA hl hr hlk hZ
  have hx := S.1
  have hb := S.2.1
  have hl : lv_has ls 2 [(0, .ref (h 0))] := hl
  unfold fX2_beginSeeking at hrun
  refine lv_aload_n hx hb dX2_beginSeeking_0 rfl (lv_at hl 0 rfl) ?_
  refine ig S hK Y fX2_25 0 rfl (v := .int (σ 0 2)) rfl dX2_beginSeeking_1 ?_
  refine lv_iconst (v := (1 : Int32)) hx hb dX2_beginSeeking_4 (by decide) ?_
  refine lv_icmp_eq (tgt := 12) hx hb dX2_beginSeeking_5 (by decide) (fun c_1 => ?_) (fun c_1 => ?_)
  · have hrun := o_t hrun c_1
    refine lv_aload_n hx hb dX2_beginSeeking_12 rfl (lv_at hl 0 rfl) ?_
    refine lv_iconst (v := (2 : Int32)) hx hb dX2_beginSeeking_13 (by decide) ?_
    refine ip S hK Y fX2_25 fpX5 rfl 0 (fs := vS h (σ 0)) rfl rfl rfl (Nat.le_of_ble_eq_true rfl) (ws' := (wS cI h (sg_a σ 0 (sg_u (σ 0) 2 (2 : Int32))))) (wS_f2 _ _ _ _) dX2_beginSeeking_14 (fun H locs Y => ?_)
    refine lv_aload_n hx hb dX2_beginSeeking_17 rfl (lv_at hl 0 rfl) ?_
    refine lv_iconst (v := (0 : Int32)) hx hb dX2_beginSeeking_18 (by decide) ?_
    refine ip S hK Y fX2_74 fpX5 rfl 0 (fs := vS h (sg_u (σ 0) 2 (2 : Int32))) rfl rfl rfl (Nat.le_of_ble_eq_true rfl) (ws' := (wS cI h (sg_a (sg_a σ 0 (sg_u (σ 0) 2 (2 : Int32))) 0 (sg_u (sg_u (σ 0) 2 (2 : Int32)) 5 (0 : Int32))))) (wS_f5 _ _ _ _) dX2_beginSeeking_19 (fun H locs Y => ?_)
    refine lv_aload_n hx hb dX2_beginSeeking_22 rfl (lv_at hl 0 rfl) ?_
    obtain ⟨r_2, e_3, hrun⟩ := o_bh hrun
    refine cf_v (As := []) (rest := []) S hK hA hZ Y hl.1 (mX5_hiddenCount l D cI h (sg_a (sg_a σ 0 (sg_u (σ 0) 2 (2 : Int32))) 0 (sg_u (sg_u (σ 0) 2 (2 : Int32)) 5 (0 : Int32))) r_2 e_3) kX2_77 (T := TX5) (N := 16) rfl (q0 := 0) rfl ⟨Nat.le_of_ble_eq_true rfl, Nat.le_of_ble_eq_true rfl⟩ rfl rfl (Nat.le_of_ble_eq_true rfl) ⟨Nat.le_of_ble_eq_true rfl, Nat.le_of_ble_eq_true rfl⟩ dX2_beginSeeking_23 (fun H locs Y => ?_)
    refine lv_istore_n (lv' := [(1, .int r_2), (0, .ref (h 0))]) hx hb dX2_beginSeeking_26 rfl hl (Nat.le_of_ble_eq_true rfl) rfl (fun ls hl => ?_)
    refine lv_aload_n hx hb dX2_beginSeeking_27 rfl (lv_at hl 1 rfl) ?_
    obtain ⟨σ4, e_5, hrun⟩ := o_bh hrun
    refine cf_sv (As := [.ref (h 0)]) (rest := []) S hK hA hZ Y hl.1 (mX2_endRoundIfNobodyIsHidden l D cI h (sg_a (sg_a σ 0 (sg_u (σ 0) 2 (2 : Int32))) 0 (sg_u (sg_u (σ 0) 2 (2 : Int32)) 5 (0 : Int32))) σ4 e_5) kX2_81 ⟨Nat.le_of_ble_eq_true rfl, Nat.le_of_ble_eq_true rfl⟩ rfl rfl (Nat.le_of_ble_eq_true rfl) ⟨Nat.le_of_ble_eq_true rfl, Nat.le_of_ble_eq_true rfl⟩ dX2_beginSeeking_28 (fun H locs Y => ?_)
    refine lv_iload_n hx hb dX2_beginSeeking_31 rfl (lv_at hl 0 rfl) ?_
    cases hrun
    exact me_ri S hK Y hr hlk rfl dX2_beginSeeking_32
  · have hrun := o_f hrun c_1
    refine lv_sipush (v := (-10003 : Int32)) hx hb dX2_beginSeeking_8 (by decide) ?_
    cases hrun
    exact me_ri S hK Y hr hlk rfl dX2_beginSeeking_11
def fX2_findPlayer (p1 p2 : Int32) (σ : sg_T) : Option (sg_T) := (o_x p1 8 ((fX5_isPlayer (σ 0 3) (sg_a σ 7 (upd (σ 7) (p1).toNatClampNeg (-10006 : Int32)))).bind fun r_2 => (if r_2 = 0 then ((fX2_endRoundIfNobodyIsHidden (sg_a σ 7 (upd (σ 7) (p1).toNatClampNeg (-10006 : Int32)))).bind fun σ5 => (some (σ5))) else (o_x (σ 0 3) 8 ((fX2_endRoundIfNobodyIsHidden (sg_a (sg_a (sg_a σ 7 (upd (σ 7) (p1).toNatClampNeg (-10006 : Int32))) 2 (upd (σ 2) ((σ 0 3)).toNatClampNeg (((σ 2) ((σ 0 3)).toNatClampNeg) + p2))) 4 (upd (σ 4) ((σ 0 3)).toNatClampNeg (((σ 4) ((σ 0 3)).toNatClampNeg) + (1 : Int32))))).bind fun σ8 => (some (σ8)))))))
set_option maxRecDepth 100000 in
set_option maxHeartbeats 4000000 in
theorem mX2_findPlayer (l : Launch) (D : va_G) (cI : ClassId) (h : Nat → Nat) (σ : sg_T) (p1 p2 : Int32) (σ' : sg_T) (hrun : fX2_findPlayer p1 p2 σ = some σ') : me_V l D (tS cI) yX2_findPlayer cX2_findPlayer 3 4 84 (wS cI h σ) [.ref (h 0), .int p1, .int p2] (wS cI h σ') := by
  refine me_ofV (plainFor_of_name (by decide)) (Nat.le_of_ble_eq_true rfl) ?_
  intro p e s m args below meth c A ls S hK Y hA hl hr hlk hZ
  have hx := S.1
  have hb := S.2.1
  have hl : lv_has ls 3 [(0, .ref (h 0)), (1, .int p1), (2, .int p2)] := hl
  unfold fX2_findPlayer at hrun
  refine lv_aload_n hx hb dX2_findPlayer_0 rfl (lv_at hl 0 rfl) ?_
  refine ig S hK Y fX2_67 0 rfl (v := .ref (h 7)) rfl dX2_findPlayer_1 ?_
  refine lv_iload_n hx hb dX2_findPlayer_4 rfl (lv_at hl 1 rfl) ?_
  refine lv_sipush (v := (-10006 : Int32)) hx hb dX2_findPlayer_5 (by decide) ?_
  obtain ⟨b_1, hrun⟩ := o_xh hrun
  refine iw S hK Y 7 0 (f := (σ 7)) rfl rfl b_1 (ws' := (wS cI h (sg_a σ 7 (upd (σ 7) (p1).toNatClampNeg (-10006 : Int32))))) (wS_a7 _ _ _) dX2_findPlayer_8 (fun H locs Y => ?_)
  refine lv_aload_n hx hb dX2_findPlayer_9 rfl (lv_at hl 0 rfl) ?_
  refine lv_aload_n hx hb dX2_findPlayer_10 rfl (lv_at hl 0 rfl) ?_
  refine ig S hK Y fX2_35 0 rfl (v := .int (σ 0 3)) rfl dX2_findPlayer_11 ?_
  obtain ⟨r_2, e_3, hrun⟩ := o_bh hrun
  refine cf_v (As := [.int (σ 0 3)]) (rest := []) S hK hA hZ Y hl.1 (mX5_isPlayer l D cI h (sg_a σ 7 (upd (σ 7) (p1).toNatClampNeg (-10006 : Int32))) (σ 0 3) r_2 e_3) kX2_32 (T := TX5) (N := 16) rfl (q0 := 0) rfl ⟨Nat.le_of_ble_eq_true rfl, Nat.le_of_ble_eq_true rfl⟩ rfl rfl (Nat.le_of_ble_eq_true rfl) ⟨Nat.le_of_ble_eq_true rfl, Nat.le_of_ble_eq_true rfl⟩ dX2_findPlayer_14 (fun H locs Y => ?_)
  refine lv_if_eq (tgt := 46) hx hb dX2_findPlayer_17 (by decide) (fun c_4 => ?_) (fun c_4 => ?_)
  · have hrun := o_t hrun c_4
    refine lv_aload_n hx hb dX2_findPlayer_46 rfl (lv_at hl 0 rfl) ?_
    obtain ⟨σ5, e_6, hrun⟩ := o_bh hrun
    refine cf_sv (As := [.ref (h 0)]) (rest := []) S hK hA hZ Y hl.1 (mX2_endRoundIfNobodyIsHidden l D cI h (sg_a σ 7 (upd (σ 7) (p1).toNatClampNeg (-10006 : Int32))) σ5 e_6) kX2_81 ⟨Nat.le_of_ble_eq_true rfl, Nat.le_of_ble_eq_true rfl⟩ rfl rfl (Nat.le_of_ble_eq_true rfl) ⟨Nat.le_of_ble_eq_true rfl, Nat.le_of_ble_eq_true rfl⟩ dX2_findPlayer_47 (fun H locs Y => ?_)
    cases hrun
    exact me_rv S hK Y hr hlk dX2_findPlayer_50
  · have hrun := o_f hrun c_4
    refine lv_aload_n hx hb dX2_findPlayer_20 rfl (lv_at hl 0 rfl) ?_
    refine ig S hK Y fX2_109 0 rfl (v := .ref (h 2)) rfl dX2_findPlayer_21 ?_
    refine lv_aload_n hx hb dX2_findPlayer_24 rfl (lv_at hl 0 rfl) ?_
    refine ig S hK Y fX2_35 0 rfl (v := .int (σ 0 3)) rfl dX2_findPlayer_25 ?_
    refine lv_dup2_11 hx hb dX2_findPlayer_28 rfl rfl ?_
    obtain ⟨b_7, hrun⟩ := o_xh hrun
    refine ia S hK Y 2 0 (f := (σ 2)) rfl rfl b_7 dX2_findPlayer_29 ?_
    refine lv_iload_n hx hb dX2_findPlayer_30 rfl (lv_at hl 2 rfl) ?_
    refine lv_iadd hx hb dX2_findPlayer_31 ?_
    refine iw S hK Y 2 0 (f := (σ 2)) rfl rfl b_7 (ws' := (wS cI h (sg_a (sg_a σ 7 (upd (σ 7) (p1).toNatClampNeg (-10006 : Int32))) 2 (upd (σ 2) ((σ 0 3)).toNatClampNeg (((σ 2) ((σ 0 3)).toNatClampNeg) + p2))))) (wS_a2 _ _ _) dX2_findPlayer_32 (fun H locs Y => ?_)
    refine lv_aload_n hx hb dX2_findPlayer_33 rfl (lv_at hl 0 rfl) ?_
    refine ig S hK Y fX2_112 0 rfl (v := .ref (h 4)) rfl dX2_findPlayer_34 ?_
    refine lv_aload_n hx hb dX2_findPlayer_37 rfl (lv_at hl 0 rfl) ?_
    refine ig S hK Y fX2_35 0 rfl (v := .int (σ 0 3)) rfl dX2_findPlayer_38 ?_
    refine lv_dup2_11 hx hb dX2_findPlayer_41 rfl rfl ?_
    refine ia S hK Y 4 0 (f := (σ 4)) rfl rfl b_7 dX2_findPlayer_42 ?_
    refine lv_iconst (v := (1 : Int32)) hx hb dX2_findPlayer_43 (by decide) ?_
    refine lv_iadd hx hb dX2_findPlayer_44 ?_
    refine iw S hK Y 4 0 (f := (σ 4)) rfl rfl b_7 (ws' := (wS cI h (sg_a (sg_a (sg_a σ 7 (upd (σ 7) (p1).toNatClampNeg (-10006 : Int32))) 2 (upd (σ 2) ((σ 0 3)).toNatClampNeg (((σ 2) ((σ 0 3)).toNatClampNeg) + p2))) 4 (upd (σ 4) ((σ 0 3)).toNatClampNeg (((σ 4) ((σ 0 3)).toNatClampNeg) + (1 : Int32)))))) (wS_a4 _ _ _) dX2_findPlayer_45 (fun H locs Y => ?_)
    refine lv_aload_n hx hb dX2_findPlayer_46 rfl (lv_at hl 0 rfl) ?_
    obtain ⟨σ8, e_9, hrun⟩ := o_bh hrun
    refine cf_sv (As := [.ref (h 0)]) (rest := []) S hK hA hZ Y hl.1 (mX2_endRoundIfNobodyIsHidden l D cI h (sg_a (sg_a (sg_a σ 7 (upd (σ 7) (p1).toNatClampNeg (-10006 : Int32))) 2 (upd (σ 2) ((σ 0 3)).toNatClampNeg (((σ 2) ((σ 0 3)).toNatClampNeg) + p2))) 4 (upd (σ 4) ((σ 0 3)).toNatClampNeg (((σ 4) ((σ 0 3)).toNatClampNeg) + (1 : Int32)))) σ8 e_9) kX2_81 ⟨Nat.le_of_ble_eq_true rfl, Nat.le_of_ble_eq_true rfl⟩ rfl rfl (Nat.le_of_ble_eq_true rfl) ⟨Nat.le_of_ble_eq_true rfl, Nat.le_of_ble_eq_true rfl⟩ dX2_findPlayer_47 (fun H locs Y => ?_)
    cases hrun
    exact me_rv S hK Y hr hlk dX2_findPlayer_50
def lX0_stepsToSeeAll_17 : Nat → Int32 → Int32 → (sg_T) → Option (Int32)
  | 0, _, _, _ => none
  | n + 1, a1, a2, σ => (if (16 : Int32) ≤ a2 then (some a1) else ((fX0_stepsDownForTheRest a2 σ).bind fun r_3 => ((fJ9_min_7cf53 a2 r_3).bind fun r_5 => ((fJ9_min_7cf53 a1 ((a2 + r_3) + r_5)).bind fun r_7 => (lX0_stepsToSeeAll_17 n r_7 (a2 + (1 : Int32)) σ)))))
def fX0_stepsToSeeAll (σ : sg_T) : Option (Int32) := (if (σ 0 2) = (2 : Int32) then (lX0_stepsToSeeAll_17 70 (16 : Int32) (0 : Int32) σ) else (some (-10003 : Int32)))
set_option maxRecDepth 100000 in
set_option maxHeartbeats 4000000 in
theorem mX0_stepsToSeeAll (l : Launch) (D : va_G) (cI : ClassId) (h : Nat → Nat) (σ : sg_T) (r : Int32) (hrun : fX0_stepsToSeeAll σ = some r) : me_I l D (tS cI) yX0_stepsToSeeAll cX0_stepsToSeeAll 4 .int 5 110 (wS cI h σ) [.ref (h 0)] r (wS cI h σ) := by
  refine me_ofI (plainFor_of_name (by decide)) (Nat.le_of_ble_eq_true rfl) ?_
  intro p e s m args below meth c A ls S hK Y hA hl hr hlk hZ
  have hx := S.1
  have hb := S.2.1
  have hl : lv_has ls 4 [(0, .ref (h 0))] := hl
  have lp17 : ∀ (n : Nat) (a1 : Int32) (a2 : Int32), lX0_stepsToSeeAll_17 n a1 a2 σ = some r → ∀ (H : Heap) (locs : List Loc) (ls : Array Slot), dy_ D A s (wS cI h σ) H locs → lv_has ls 4 [(0, .ref (h 0)), (1, .int a1), (2, .int a2)] → W p l e (rm_ 5 110) s m args below meth c H locs 0 0 (MQ below (me_Qi D (tS cI) A r (wS cI h σ)) args s 0 0 A) (F0 m 17 ls []) := by
    intro n
    induction n with
    | zero => intro a1 a2 hrun; cases hrun
    | succ n ih =>
      intro a1 a2 hrun H locs ls Y hl
      unfold lX0_stepsToSeeAll_17 at hrun
      refine lv_iload_n hx hb dX0_stepsToSeeAll_17 rfl (lv_at hl 2 rfl) ?_
      refine lv_bipush (v := (16 : Int32)) hx hb dX0_stepsToSeeAll_18 (by decide) ?_
      refine lv_icmp_ge (tgt := 49) hx hb dX0_stepsToSeeAll_20 (by decide) (fun c_2 => ?_) (fun c_2 => ?_)
      · have hrun := o_t hrun c_2
        refine lv_iload_n hx hb dX0_stepsToSeeAll_49 rfl (lv_at hl 1 rfl) ?_
        cases hrun
        exact me_ri S hK Y hr hlk rfl dX0_stepsToSeeAll_50
      · have hrun := o_f hrun c_2
        refine lv_aload_n hx hb dX0_stepsToSeeAll_23 rfl (lv_at hl 0 rfl) ?_
        refine lv_iload_n hx hb dX0_stepsToSeeAll_24 rfl (lv_at hl 2 rfl) ?_
        obtain ⟨r_3, e_4, hrun⟩ := o_bh hrun
        refine cf_s (As := [.ref (h 0), .int a2]) (rest := []) S hK hA hZ Y hl.1 (mX0_stepsDownForTheRest l D cI h σ a2 r_3 e_4) kX0_50 ⟨Nat.le_of_ble_eq_true rfl, Nat.le_of_ble_eq_true rfl⟩ rfl rfl (Nat.le_of_ble_eq_true rfl) ⟨Nat.le_of_ble_eq_true rfl, Nat.le_of_ble_eq_true rfl⟩ dX0_stepsToSeeAll_25 (fun H locs Y => ?_)
        refine lv_istore_n (lv' := [(3, .int r_3), (0, .ref (h 0)), (1, .int a1), (2, .int a2)]) hx hb dX0_stepsToSeeAll_28 rfl hl (Nat.le_of_ble_eq_true rfl) rfl (fun ls hl => ?_)
        refine lv_iload_n hx hb dX0_stepsToSeeAll_29 rfl (lv_at hl 2 rfl) ?_
        refine lv_iload_n hx hb dX0_stepsToSeeAll_30 rfl (lv_at hl 3 rfl) ?_
        refine lv_iload_n hx hb dX0_stepsToSeeAll_31 rfl (lv_at hl 0 rfl) ?_
        refine lv_iadd hx hb dX0_stepsToSeeAll_32 ?_
        refine lv_iload_n hx hb dX0_stepsToSeeAll_33 rfl (lv_at hl 3 rfl) ?_
        refine lv_iload_n hx hb dX0_stepsToSeeAll_34 rfl (lv_at hl 0 rfl) ?_
        obtain ⟨r_5, e_6, hrun⟩ := o_bh hrun
        refine cp_s (As := [.int a2, .int r_3]) (rest := [.int (a2 + r_3), .int a1]) S hK hA hZ Y hl.1 (mJ9_min_7cf53 l D a2 r_3 r_5 e_6) kX0_54 ⟨Nat.le_of_ble_eq_true rfl, Nat.le_of_ble_eq_true rfl⟩ rfl rfl (Nat.le_of_ble_eq_true rfl) ⟨Nat.le_of_ble_eq_true rfl, Nat.le_of_ble_eq_true rfl⟩ dX0_stepsToSeeAll_35 (fun H locs Y => ?_)
        refine lv_iadd hx hb dX0_stepsToSeeAll_38 ?_
        obtain ⟨r_7, e_8, hrun⟩ := o_bh hrun
        refine cp_s (As := [.int a1, .int ((a2 + r_3) + r_5)]) (rest := []) S hK hA hZ Y hl.1 (mJ9_min_7cf53 l D a1 ((a2 + r_3) + r_5) r_7 e_8) kX0_54 ⟨Nat.le_of_ble_eq_true rfl, Nat.le_of_ble_eq_true rfl⟩ rfl rfl (Nat.le_of_ble_eq_true rfl) ⟨Nat.le_of_ble_eq_true rfl, Nat.le_of_ble_eq_true rfl⟩ dX0_stepsToSeeAll_39 (fun H locs Y => ?_)
        refine lv_istore_n (lv' := [(1, .int r_7), (3, .int r_3), (0, .ref (h 0)), (2, .int a2)]) hx hb dX0_stepsToSeeAll_42 rfl hl (Nat.le_of_ble_eq_true rfl) rfl (fun ls hl => ?_)
        refine lv_iinc (v := (a2 + (1 : Int32))) (lv' := [(2, .int (a2 + (1 : Int32))), (1, .int r_7), (3, .int r_3), (0, .ref (h 0))]) hx hb dX0_stepsToSeeAll_43 hl (k := 3) rfl (by rfl) (Nat.le_of_ble_eq_true rfl) rfl (fun ls hl => ?_)
        refine lv_goto (tgt := 17) hx hb dX0_stepsToSeeAll_46 (by decide) ?_
        exact ih r_7 (a2 + (1 : Int32)) hrun _ _ _ Y (lv_sub hl [3, 1, 0] rfl)
  unfold fX0_stepsToSeeAll at hrun
  refine lv_aload_n hx hb dX0_stepsToSeeAll_0 rfl (lv_at hl 0 rfl) ?_
  refine ig S hK Y fX0_9 0 rfl (v := .int (σ 0 2)) rfl dX0_stepsToSeeAll_1 ?_
  refine lv_iconst (v := (2 : Int32)) hx hb dX0_stepsToSeeAll_4 (by decide) ?_
  refine lv_icmp_eq (tgt := 12) hx hb dX0_stepsToSeeAll_5 (by decide) (fun c_1 => ?_) (fun c_1 => ?_)
  · have hrun := o_t hrun c_1
    refine lv_bipush (v := (16 : Int32)) hx hb dX0_stepsToSeeAll_12 (by decide) ?_
    refine lv_istore_n (lv' := [(1, .int (16 : Int32)), (0, .ref (h 0))]) hx hb dX0_stepsToSeeAll_14 rfl hl (Nat.le_of_ble_eq_true rfl) rfl (fun ls hl => ?_)
    refine lv_iconst (v := (0 : Int32)) hx hb dX0_stepsToSeeAll_15 (by decide) ?_
    refine lv_istore_n (lv' := [(2, .int (0 : Int32)), (1, .int (16 : Int32)), (0, .ref (h 0))]) hx hb dX0_stepsToSeeAll_16 rfl hl (Nat.le_of_ble_eq_true rfl) rfl (fun ls hl => ?_)
    exact lp17 70 (16 : Int32) (0 : Int32) hrun _ _ _ Y (lv_sub hl [2, 1, 0] rfl)
  · have hrun := o_f hrun c_1
    refine lv_sipush (v := (-10003 : Int32)) hx hb dX0_stepsToSeeAll_8 (by decide) ?_
    cases hrun
    exact me_ri S hK Y hr hlk rfl dX0_stepsToSeeAll_11
def fX2_beginRound (p1 p2 : Int32) (σ : sg_T) : Option (Int32 × sg_T) := ((fX5_isPlayer p1 σ).bind fun r_1 => (if r_1 = 0 then (some ((-10001 : Int32), σ)) else (if p2 < (1 : Int32) then (some ((-10002 : Int32), σ)) else (if p2 ≤ (8 : Int32) then (if (σ 0 2) = 0 then (if (2 : Int32) ≤ (σ 0 0) then (o_x p1 8 ((fX2_countHidingSpots (sg_a (sg_a (sg_a (sg_a σ 0 (sg_u (σ 0) 2 (1 : Int32))) 0 (sg_u (sg_u (σ 0) 2 (1 : Int32)) 3 p1)) 0 (sg_u (sg_u (sg_u (σ 0) 2 (1 : Int32)) 3 p1) 4 p2)) 3 (upd (σ 3) (p1).toNatClampNeg (((σ 3) (p1).toNatClampNeg) + (1 : Int32))))).bind fun r_9 => (some (r_9, (sg_a (sg_a (sg_a (sg_a σ 0 (sg_u (σ 0) 2 (1 : Int32))) 0 (sg_u (sg_u (σ 0) 2 (1 : Int32)) 3 p1)) 0 (sg_u (sg_u (sg_u (σ 0) 2 (1 : Int32)) 3 p1) 4 p2)) 3 (upd (σ 3) (p1).toNatClampNeg (((σ 3) (p1).toNatClampNeg) + (1 : Int32)))))))) else (some ((-10003 : Int32), σ))) else (some ((-10003 : Int32), σ))) else (some ((-10002 : Int32), σ))))))
set_option maxRecDepth 100000 in
set_option maxHeartbeats 4000000 in
theorem mX2_beginRound (l : Launch) (D : va_G) (cI : ClassId) (h : Nat → Nat) (σ : sg_T) (p1 p2 : Int32) (r : Int32) (σ' : sg_T) (hrun : fX2_beginRound p1 p2 σ = some (r, σ')) : me_I l D (tS cI) yX2_beginRound cX2_beginRound 3 .int 6 127 (wS cI h σ) [.ref (h 0), .int p1, .int p2] r (wS cI h σ') := by
  refine me_ofI (plainFor_of_name (by decide)) (Nat.le_of_ble_eq_true rfl) ?_
  intro p e s m args below meth c A ls S hK Y hA hl hr hlk hZ
  have hx := S.1
  have hb := S.2.1
  have hl : lv_has ls 3 [(0, .ref (h 0)), (1, .int p1), (2, .int p2)] := hl
  unfold fX2_beginRound at hrun
  refine lv_aload_n hx hb dX2_beginRound_0 rfl (lv_at hl 0 rfl) ?_
  refine lv_iload_n hx hb dX2_beginRound_1 rfl (lv_at hl 1 rfl) ?_
  obtain ⟨r_1, e_2, hrun⟩ := o_bh hrun
  refine cf_v (As := [.int p1]) (rest := []) S hK hA hZ Y hl.1 (mX5_isPlayer l D cI h σ p1 r_1 e_2) kX2_32 (T := TX5) (N := 16) rfl (q0 := 0) rfl ⟨Nat.le_of_ble_eq_true rfl, Nat.le_of_ble_eq_true rfl⟩ rfl rfl (Nat.le_of_ble_eq_true rfl) ⟨Nat.le_of_ble_eq_true rfl, Nat.le_of_ble_eq_true rfl⟩ dX2_beginRound_2 (fun H locs Y => ?_)
  refine lv_if_ne (tgt := 12) hx hb dX2_beginRound_5 (by decide) (fun c_3 => ?_) (fun c_3 => ?_)
  · have hrun := o_f hrun c_3
    refine lv_iload_n hx hb dX2_beginRound_12 rfl (lv_at hl 2 rfl) ?_
    refine lv_iconst (v := (1 : Int32)) hx hb dX2_beginRound_13 (by decide) ?_
    refine lv_icmp_lt (tgt := 23) hx hb dX2_beginRound_14 (by decide) (fun c_4 => ?_) (fun c_4 => ?_)
    · have hrun := o_t hrun c_4
      refine lv_sipush (v := (-10002 : Int32)) hx hb dX2_beginRound_23 (by decide) ?_
      cases hrun
      exact me_ri S hK Y hr hlk rfl dX2_beginRound_26
    · have hrun := o_f hrun c_4
      refine lv_iload_n hx hb dX2_beginRound_17 rfl (lv_at hl 2 rfl) ?_
      refine lv_bipush (v := (8 : Int32)) hx hb dX2_beginRound_18 (by decide) ?_
      refine lv_icmp_le (tgt := 27) hx hb dX2_beginRound_20 (by decide) (fun c_5 => ?_) (fun c_5 => ?_)
      · have hrun := o_t hrun c_5
        refine lv_aload_n hx hb dX2_beginRound_27 rfl (lv_at hl 0 rfl) ?_
        refine ig S hK Y fX2_25 0 rfl (v := .int (σ 0 2)) rfl dX2_beginRound_28 ?_
        refine lv_if_ne (tgt := 42) hx hb dX2_beginRound_31 (by decide) (fun c_6 => ?_) (fun c_6 => ?_)
        · have hrun := o_f hrun c_6
          refine lv_sipush (v := (-10003 : Int32)) hx hb dX2_beginRound_42 (by decide) ?_
          cases hrun
          exact me_ri S hK Y hr hlk rfl dX2_beginRound_45
        · have hrun := o_t hrun c_6
          refine lv_aload_n hx hb dX2_beginRound_34 rfl (lv_at hl 0 rfl) ?_
          refine ig S hK Y fX2_29 0 rfl (v := .int (σ 0 0)) rfl dX2_beginRound_35 ?_
          refine lv_iconst (v := (2 : Int32)) hx hb dX2_beginRound_38 (by decide) ?_
          refine lv_icmp_ge (tgt := 46) hx hb dX2_beginRound_39 (by decide) (fun c_7 => ?_) (fun c_7 => ?_)
          · have hrun := o_t hrun c_7
            refine lv_aload_n hx hb dX2_beginRound_46 rfl (lv_at hl 0 rfl) ?_
            refine lv_iconst (v := (1 : Int32)) hx hb dX2_beginRound_47 (by decide) ?_
            refine ip S hK Y fX2_25 fpX5 rfl 0 (fs := vS h (σ 0)) rfl rfl rfl (Nat.le_of_ble_eq_true rfl) (ws' := (wS cI h (sg_a σ 0 (sg_u (σ 0) 2 (1 : Int32))))) (wS_f2 _ _ _ _) dX2_beginRound_48 (fun H locs Y => ?_)
            refine lv_aload_n hx hb dX2_beginRound_51 rfl (lv_at hl 0 rfl) ?_
            refine lv_iload_n hx hb dX2_beginRound_52 rfl (lv_at hl 1 rfl) ?_
            refine ip S hK Y fX2_35 fpX5 rfl 0 (fs := vS h (sg_u (σ 0) 2 (1 : Int32))) rfl rfl rfl (Nat.le_of_ble_eq_true rfl) (ws' := (wS cI h (sg_a (sg_a σ 0 (sg_u (σ 0) 2 (1 : Int32))) 0 (sg_u (sg_u (σ 0) 2 (1 : Int32)) 3 p1)))) (wS_f3 _ _ _ _) dX2_beginRound_53 (fun H locs Y => ?_)
            refine lv_aload_n hx hb dX2_beginRound_56 rfl (lv_at hl 0 rfl) ?_
            refine lv_iload_n hx hb dX2_beginRound_57 rfl (lv_at hl 2 rfl) ?_
            refine ip S hK Y fX2_38 fpX5 rfl 0 (fs := vS h (sg_u (sg_u (σ 0) 2 (1 : Int32)) 3 p1)) rfl rfl rfl (Nat.le_of_ble_eq_true rfl) (ws' := (wS cI h (sg_a (sg_a (sg_a σ 0 (sg_u (σ 0) 2 (1 : Int32))) 0 (sg_u (sg_u (σ 0) 2 (1 : Int32)) 3 p1)) 0 (sg_u (sg_u (sg_u (σ 0) 2 (1 : Int32)) 3 p1) 4 p2)))) (wS_f4 _ _ _ _) dX2_beginRound_58 (fun H locs Y => ?_)
            refine lv_aload_n hx hb dX2_beginRound_61 rfl (lv_at hl 0 rfl) ?_
            refine ig S hK Y fX2_41 0 rfl (v := .ref (h 3)) rfl dX2_beginRound_62 ?_
            refine lv_iload_n hx hb dX2_beginRound_65 rfl (lv_at hl 1 rfl) ?_
            refine lv_dup2_11 hx hb dX2_beginRound_66 rfl rfl ?_
            obtain ⟨b_8, hrun⟩ := o_xh hrun
            refine ia S hK Y 3 0 (f := (σ 3)) rfl rfl b_8 dX2_beginRound_67 ?_
            refine lv_iconst (v := (1 : Int32)) hx hb dX2_beginRound_68 (by decide) ?_
            refine lv_iadd hx hb dX2_beginRound_69 ?_
            refine iw S hK Y 3 0 (f := (σ 3)) rfl rfl b_8 (ws' := (wS cI h (sg_a (sg_a (sg_a (sg_a σ 0 (sg_u (σ 0) 2 (1 : Int32))) 0 (sg_u (sg_u (σ 0) 2 (1 : Int32)) 3 p1)) 0 (sg_u (sg_u (sg_u (σ 0) 2 (1 : Int32)) 3 p1) 4 p2)) 3 (upd (σ 3) (p1).toNatClampNeg (((σ 3) (p1).toNatClampNeg) + (1 : Int32)))))) (wS_a3 _ _ _) dX2_beginRound_70 (fun H locs Y => ?_)
            refine lv_aload_n hx hb dX2_beginRound_71 rfl (lv_at hl 0 rfl) ?_
            obtain ⟨r_9, e_10, hrun⟩ := o_bh hrun
            refine cf_s (As := [.ref (h 0)]) (rest := []) S hK hA hZ Y hl.1 (mX2_countHidingSpots l D cI h (sg_a (sg_a (sg_a (sg_a σ 0 (sg_u (σ 0) 2 (1 : Int32))) 0 (sg_u (sg_u (σ 0) 2 (1 : Int32)) 3 p1)) 0 (sg_u (sg_u (sg_u (σ 0) 2 (1 : Int32)) 3 p1) 4 p2)) 3 (upd (σ 3) (p1).toNatClampNeg (((σ 3) (p1).toNatClampNeg) + (1 : Int32)))) r_9 e_10) kX2_44 ⟨Nat.le_of_ble_eq_true rfl, Nat.le_of_ble_eq_true rfl⟩ rfl rfl (Nat.le_of_ble_eq_true rfl) ⟨Nat.le_of_ble_eq_true rfl, Nat.le_of_ble_eq_true rfl⟩ dX2_beginRound_72 (fun H locs Y => ?_)
            cases hrun
            exact me_ri S hK Y hr hlk rfl dX2_beginRound_75
          · have hrun := o_f hrun c_7
            refine lv_sipush (v := (-10003 : Int32)) hx hb dX2_beginRound_42 (by decide) ?_
            cases hrun
            exact me_ri S hK Y hr hlk rfl dX2_beginRound_45
      · have hrun := o_f hrun c_5
        refine lv_sipush (v := (-10002 : Int32)) hx hb dX2_beginRound_23 (by decide) ?_
        cases hrun
        exact me_ri S hK Y hr hlk rfl dX2_beginRound_26
  · have hrun := o_t hrun c_3
    refine lv_sipush (v := (-10001 : Int32)) hx hb dX2_beginRound_8 (by decide) ?_
    cases hrun
    exact me_ri S hK Y hr hlk rfl dX2_beginRound_11
def fX2_cryName (p1 p2 : Int32) (σ : sg_T) : Option (Int32 × sg_T) := ((fX5_isPlayer p1 σ).bind fun r_1 => (if r_1 = 0 then (some ((-10001 : Int32), σ)) else ((fX6_isSpot p2).bind fun r_4 => (if r_4 = 0 then (some ((-10001 : Int32), σ)) else (if (σ 0 2) = (2 : Int32) then (if p1 = (σ 0 3) then (some ((-10003 : Int32), σ)) else ((fX5_seekerSees p2 σ).bind fun r_9 => (if r_9 = 0 then (some ((-10003 : Int32), σ)) else (o_x p1 8 (if ((σ 7) (p1).toNatClampNeg) = p2 then ((fX2_countFindOfSpot p2 σ).bind fun σ14 => ((fX2_findPlayer p1 (2 : Int32) σ14).bind fun σ16 => (some ((1 : Int32), σ16)))) else ((fX2_countFalseCry σ).bind fun σ18 => (some ((0 : Int32), σ18)))))))) else (some ((-10003 : Int32), σ)))))))
set_option maxRecDepth 100000 in
set_option maxHeartbeats 4000000 in
theorem mX2_cryName (l : Launch) (D : va_G) (cI : ClassId) (h : Nat → Nat) (σ : sg_T) (p1 p2 : Int32) (r : Int32) (σ' : sg_T) (hrun : fX2_cryName p1 p2 σ = some (r, σ')) : me_I l D (tS cI) yX2_cryName cX2_cryName 3 .int 5 106 (wS cI h σ) [.ref (h 0), .int p1, .int p2] r (wS cI h σ') := by
  refine me_ofI (plainFor_of_name (by decide)) (Nat.le_of_ble_eq_true rfl) ?_
  intro p e s m args below meth c A ls S hK Y hA hl hr hlk hZ
  have hx := S.1
  have hb := S.2.1
  have hl : lv_has ls 3 [(0, .ref (h 0)), (1, .int p1), (2, .int p2)] := hl
  unfold fX2_cryName at hrun
  refine lv_aload_n hx hb dX2_cryName_0 rfl (lv_at hl 0 rfl) ?_
  refine lv_iload_n hx hb dX2_cryName_1 rfl (lv_at hl 1 rfl) ?_
  obtain ⟨r_1, e_2, hrun⟩ := o_bh hrun
  refine cf_v (As := [.int p1]) (rest := []) S hK hA hZ Y hl.1 (mX5_isPlayer l D cI h σ p1 r_1 e_2) kX2_32 (T := TX5) (N := 16) rfl (q0 := 0) rfl ⟨Nat.le_of_ble_eq_true rfl, Nat.le_of_ble_eq_true rfl⟩ rfl rfl (Nat.le_of_ble_eq_true rfl) ⟨Nat.le_of_ble_eq_true rfl, Nat.le_of_ble_eq_true rfl⟩ dX2_cryName_2 (fun H locs Y => ?_)
  refine lv_if_eq (tgt := 15) hx hb dX2_cryName_5 (by decide) (fun c_3 => ?_) (fun c_3 => ?_)
  · have hrun := o_t hrun c_3
    refine lv_sipush (v := (-10001 : Int32)) hx hb dX2_cryName_15 (by decide) ?_
    cases hrun
    exact me_ri S hK Y hr hlk rfl dX2_cryName_18
  · have hrun := o_f hrun c_3
    refine lv_iload_n hx hb dX2_cryName_8 rfl (lv_at hl 2 rfl) ?_
    obtain ⟨r_4, e_5, hrun⟩ := o_bh hrun
    refine cp_s (As := [.int p2]) (rest := []) S hK hA hZ Y hl.1 (mX6_isSpot l D p2 r_4 e_5) kX2_55 ⟨Nat.le_of_ble_eq_true rfl, Nat.le_of_ble_eq_true rfl⟩ rfl rfl (Nat.le_of_ble_eq_true rfl) ⟨Nat.le_of_ble_eq_true rfl, Nat.le_of_ble_eq_true rfl⟩ dX2_cryName_9 (fun H locs Y => ?_)
    refine lv_if_ne (tgt := 19) hx hb dX2_cryName_12 (by decide) (fun c_6 => ?_) (fun c_6 => ?_)
    · have hrun := o_f hrun c_6
      refine lv_aload_n hx hb dX2_cryName_19 rfl (lv_at hl 0 rfl) ?_
      refine ig S hK Y fX2_25 0 rfl (v := .int (σ 0 2)) rfl dX2_cryName_20 ?_
      refine lv_iconst (v := (2 : Int32)) hx hb dX2_cryName_23 (by decide) ?_
      refine lv_icmp_ne (tgt := 43) hx hb dX2_cryName_24 (by decide) (fun c_7 => ?_) (fun c_7 => ?_)
      · have hrun := o_f hrun c_7
        refine lv_sipush (v := (-10003 : Int32)) hx hb dX2_cryName_43 (by decide) ?_
        cases hrun
        exact me_ri S hK Y hr hlk rfl dX2_cryName_46
      · have hrun := o_t hrun c_7
        refine lv_iload_n hx hb dX2_cryName_27 rfl (lv_at hl 1 rfl) ?_
        refine lv_aload_n hx hb dX2_cryName_28 rfl (lv_at hl 0 rfl) ?_
        refine ig S hK Y fX2_35 0 rfl (v := .int (σ 0 3)) rfl dX2_cryName_29 ?_
        refine lv_icmp_eq (tgt := 43) hx hb dX2_cryName_32 (by decide) (fun c_8 => ?_) (fun c_8 => ?_)
        · have hrun := o_t hrun c_8
          refine lv_sipush (v := (-10003 : Int32)) hx hb dX2_cryName_43 (by decide) ?_
          cases hrun
          exact me_ri S hK Y hr hlk rfl dX2_cryName_46
        · have hrun := o_f hrun c_8
          refine lv_aload_n hx hb dX2_cryName_35 rfl (lv_at hl 0 rfl) ?_
          refine lv_iload_n hx hb dX2_cryName_36 rfl (lv_at hl 2 rfl) ?_
          obtain ⟨r_9, e_10, hrun⟩ := o_bh hrun
          refine cf_v (As := [.int p2]) (rest := []) S hK hA hZ Y hl.1 (mX5_seekerSees l D cI h σ p2 r_9 e_10) kX2_89 (T := TX5) (N := 16) rfl (q0 := 0) rfl ⟨Nat.le_of_ble_eq_true rfl, Nat.le_of_ble_eq_true rfl⟩ rfl rfl (Nat.le_of_ble_eq_true rfl) ⟨Nat.le_of_ble_eq_true rfl, Nat.le_of_ble_eq_true rfl⟩ dX2_cryName_37 (fun H locs Y => ?_)
          refine lv_if_ne (tgt := 47) hx hb dX2_cryName_40 (by decide) (fun c_11 => ?_) (fun c_11 => ?_)
          · have hrun := o_f hrun c_11
            refine lv_aload_n hx hb dX2_cryName_47 rfl (lv_at hl 0 rfl) ?_
            refine ig S hK Y fX2_67 0 rfl (v := .ref (h 7)) rfl dX2_cryName_48 ?_
            refine lv_iload_n hx hb dX2_cryName_51 rfl (lv_at hl 1 rfl) ?_
            obtain ⟨b_12, hrun⟩ := o_xh hrun
            refine ia S hK Y 7 0 (f := (σ 7)) rfl rfl b_12 dX2_cryName_52 ?_
            refine lv_iload_n hx hb dX2_cryName_53 rfl (lv_at hl 2 rfl) ?_
            refine lv_icmp_eq (tgt := 63) hx hb dX2_cryName_54 (by decide) (fun c_13 => ?_) (fun c_13 => ?_)
            · have hrun := o_t hrun c_13
              refine lv_aload_n hx hb dX2_cryName_63 rfl (lv_at hl 0 rfl) ?_
              refine lv_iload_n hx hb dX2_cryName_64 rfl (lv_at hl 2 rfl) ?_
              obtain ⟨σ14, e_15, hrun⟩ := o_bh hrun
              refine cf_sv (As := [.ref (h 0), .int p2]) (rest := []) S hK hA hZ Y hl.1 (mX2_countFindOfSpot l D cI h σ p2 σ14 e_15) kX2_95 ⟨Nat.le_of_ble_eq_true rfl, Nat.le_of_ble_eq_true rfl⟩ rfl rfl (Nat.le_of_ble_eq_true rfl) ⟨Nat.le_of_ble_eq_true rfl, Nat.le_of_ble_eq_true rfl⟩ dX2_cryName_65 (fun H locs Y => ?_)
              refine lv_aload_n hx hb dX2_cryName_68 rfl (lv_at hl 0 rfl) ?_
              refine lv_iload_n hx hb dX2_cryName_69 rfl (lv_at hl 1 rfl) ?_
              refine lv_iconst (v := (2 : Int32)) hx hb dX2_cryName_70 (by decide) ?_
              obtain ⟨σ16, e_17, hrun⟩ := o_bh hrun
              refine cf_sv (As := [.ref (h 0), .int p1, .int (2 : Int32)]) (rest := []) S hK hA hZ Y hl.1 (mX2_findPlayer l D cI h σ14 p1 (2 : Int32) σ16 e_17) kX2_99 ⟨Nat.le_of_ble_eq_true rfl, Nat.le_of_ble_eq_true rfl⟩ rfl rfl (Nat.le_of_ble_eq_true rfl) ⟨Nat.le_of_ble_eq_true rfl, Nat.le_of_ble_eq_true rfl⟩ dX2_cryName_71 (fun H locs Y => ?_)
              refine lv_iconst (v := (1 : Int32)) hx hb dX2_cryName_74 (by decide) ?_
              cases hrun
              exact me_ri S hK Y hr hlk rfl dX2_cryName_75
            · have hrun := o_f hrun c_13
              refine lv_aload_n hx hb dX2_cryName_57 rfl (lv_at hl 0 rfl) ?_
              obtain ⟨σ18, e_19, hrun⟩ := o_bh hrun
              refine cf_sv (As := [.ref (h 0)]) (rest := []) S hK hA hZ Y hl.1 (mX2_countFalseCry l D cI h σ σ18 e_19) kX2_92 ⟨Nat.le_of_ble_eq_true rfl, Nat.le_of_ble_eq_true rfl⟩ rfl rfl (Nat.le_of_ble_eq_true rfl) ⟨Nat.le_of_ble_eq_true rfl, Nat.le_of_ble_eq_true rfl⟩ dX2_cryName_58 (fun H locs Y => ?_)
              refine lv_iconst (v := (0 : Int32)) hx hb dX2_cryName_61 (by decide) ?_
              cases hrun
              exact me_ri S hK Y hr hlk rfl dX2_cryName_62
          · have hrun := o_t hrun c_11
            refine lv_sipush (v := (-10003 : Int32)) hx hb dX2_cryName_43 (by decide) ?_
            cases hrun
            exact me_ri S hK Y hr hlk rfl dX2_cryName_46
    · have hrun := o_t hrun c_6
      refine lv_sipush (v := (-10001 : Int32)) hx hb dX2_cryName_15 (by decide) ?_
      cases hrun
      exact me_ri S hK Y hr hlk rfl dX2_cryName_18
def fX2_dashHome (p1 : Int32) (σ : sg_T) : Option (Int32 × sg_T) := ((fX5_isPlayer p1 σ).bind fun r_1 => (if r_1 = 0 then (some ((-10001 : Int32), σ)) else (if (σ 0 2) = (2 : Int32) then ((fX5_isHidden p1 σ).bind fun r_5 => (if r_5 = 0 then (some ((-10003 : Int32), σ)) else ((fX5_wouldEscape p1 σ).bind fun r_8 => (if r_8 = 0 then ((fX2_findPlayer p1 (1 : Int32) σ).bind fun σ15 => (some ((0 : Int32), σ15))) else ((fX2_escape p1 (3 : Int32) σ).bind fun σ11 => ((fX2_endRoundIfNobodyIsHidden σ11).bind fun σ13 => (some ((1 : Int32), σ13)))))))) else (some ((-10003 : Int32), σ)))))
set_option maxRecDepth 100000 in
set_option maxHeartbeats 4000000 in
theorem mX2_dashHome (l : Launch) (D : va_G) (cI : ClassId) (h : Nat → Nat) (σ : sg_T) (p1 : Int32) (r : Int32) (σ' : sg_T) (hrun : fX2_dashHome p1 σ = some (r, σ')) : me_I l D (tS cI) yX2_dashHome cX2_dashHome 2 .int 5 106 (wS cI h σ) [.ref (h 0), .int p1] r (wS cI h σ') := by
  refine me_ofI (plainFor_of_name (by decide)) (Nat.le_of_ble_eq_true rfl) ?_
  intro p e s m args below meth c A ls S hK Y hA hl hr hlk hZ
  have hx := S.1
  have hb := S.2.1
  have hl : lv_has ls 2 [(0, .ref (h 0)), (1, .int p1)] := hl
  unfold fX2_dashHome at hrun
  refine lv_aload_n hx hb dX2_dashHome_0 rfl (lv_at hl 0 rfl) ?_
  refine lv_iload_n hx hb dX2_dashHome_1 rfl (lv_at hl 1 rfl) ?_
  obtain ⟨r_1, e_2, hrun⟩ := o_bh hrun
  refine cf_v (As := [.int p1]) (rest := []) S hK hA hZ Y hl.1 (mX5_isPlayer l D cI h σ p1 r_1 e_2) kX2_32 (T := TX5) (N := 16) rfl (q0 := 0) rfl ⟨Nat.le_of_ble_eq_true rfl, Nat.le_of_ble_eq_true rfl⟩ rfl rfl (Nat.le_of_ble_eq_true rfl) ⟨Nat.le_of_ble_eq_true rfl, Nat.le_of_ble_eq_true rfl⟩ dX2_dashHome_2 (fun H locs Y => ?_)
  refine lv_if_ne (tgt := 12) hx hb dX2_dashHome_5 (by decide) (fun c_3 => ?_) (fun c_3 => ?_)
  · have hrun := o_f hrun c_3
    refine lv_aload_n hx hb dX2_dashHome_12 rfl (lv_at hl 0 rfl) ?_
    refine ig S hK Y fX2_25 0 rfl (v := .int (σ 0 2)) rfl dX2_dashHome_13 ?_
    refine lv_iconst (v := (2 : Int32)) hx hb dX2_dashHome_16 (by decide) ?_
    refine lv_icmp_ne (tgt := 28) hx hb dX2_dashHome_17 (by decide) (fun c_4 => ?_) (fun c_4 => ?_)
    · have hrun := o_f hrun c_4
      refine lv_sipush (v := (-10003 : Int32)) hx hb dX2_dashHome_28 (by decide) ?_
      cases hrun
      exact me_ri S hK Y hr hlk rfl dX2_dashHome_31
    · have hrun := o_t hrun c_4
      refine lv_aload_n hx hb dX2_dashHome_20 rfl (lv_at hl 0 rfl) ?_
      refine lv_iload_n hx hb dX2_dashHome_21 rfl (lv_at hl 1 rfl) ?_
      obtain ⟨r_5, e_6, hrun⟩ := o_bh hrun
      refine cf_v (As := [.int p1]) (rest := []) S hK hA hZ Y hl.1 (mX5_isHidden l D cI h σ p1 r_5 e_6) kX2_58 (T := TX5) (N := 16) rfl (q0 := 0) rfl ⟨Nat.le_of_ble_eq_true rfl, Nat.le_of_ble_eq_true rfl⟩ rfl rfl (Nat.le_of_ble_eq_true rfl) ⟨Nat.le_of_ble_eq_true rfl, Nat.le_of_ble_eq_true rfl⟩ dX2_dashHome_22 (fun H locs Y => ?_)
      refine lv_if_ne (tgt := 32) hx hb dX2_dashHome_25 (by decide) (fun c_7 => ?_) (fun c_7 => ?_)
      · have hrun := o_f hrun c_7
        refine lv_aload_n hx hb dX2_dashHome_32 rfl (lv_at hl 0 rfl) ?_
        refine lv_iload_n hx hb dX2_dashHome_33 rfl (lv_at hl 1 rfl) ?_
        obtain ⟨r_8, e_9, hrun⟩ := o_bh hrun
        refine cf_v (As := [.int p1]) (rest := []) S hK hA hZ Y hl.1 (mX5_wouldEscape l D cI h σ p1 r_8 e_9) kX2_103 (T := TX5) (N := 16) rfl (q0 := 0) rfl ⟨Nat.le_of_ble_eq_true rfl, Nat.le_of_ble_eq_true rfl⟩ rfl rfl (Nat.le_of_ble_eq_true rfl) ⟨Nat.le_of_ble_eq_true rfl, Nat.le_of_ble_eq_true rfl⟩ dX2_dashHome_34 (fun H locs Y => ?_)
        refine lv_if_ne (tgt := 48) hx hb dX2_dashHome_37 (by decide) (fun c_10 => ?_) (fun c_10 => ?_)
        · have hrun := o_f hrun c_10
          refine lv_aload_n hx hb dX2_dashHome_48 rfl (lv_at hl 0 rfl) ?_
          refine lv_iload_n hx hb dX2_dashHome_49 rfl (lv_at hl 1 rfl) ?_
          refine lv_iconst (v := (3 : Int32)) hx hb dX2_dashHome_50 (by decide) ?_
          obtain ⟨σ11, e_12, hrun⟩ := o_bh hrun
          refine cf_sv (As := [.ref (h 0), .int p1, .int (3 : Int32)]) (rest := []) S hK hA hZ Y hl.1 (mX2_escape l D cI h σ p1 (3 : Int32) σ11 e_12) kX2_106 ⟨Nat.le_of_ble_eq_true rfl, Nat.le_of_ble_eq_true rfl⟩ rfl rfl (Nat.le_of_ble_eq_true rfl) ⟨Nat.le_of_ble_eq_true rfl, Nat.le_of_ble_eq_true rfl⟩ dX2_dashHome_51 (fun H locs Y => ?_)
          refine lv_aload_n hx hb dX2_dashHome_54 rfl (lv_at hl 0 rfl) ?_
          obtain ⟨σ13, e_14, hrun⟩ := o_bh hrun
          refine cf_sv (As := [.ref (h 0)]) (rest := []) S hK hA hZ Y hl.1 (mX2_endRoundIfNobodyIsHidden l D cI h σ11 σ13 e_14) kX2_81 ⟨Nat.le_of_ble_eq_true rfl, Nat.le_of_ble_eq_true rfl⟩ rfl rfl (Nat.le_of_ble_eq_true rfl) ⟨Nat.le_of_ble_eq_true rfl, Nat.le_of_ble_eq_true rfl⟩ dX2_dashHome_55 (fun H locs Y => ?_)
          refine lv_iconst (v := (1 : Int32)) hx hb dX2_dashHome_58 (by decide) ?_
          cases hrun
          exact me_ri S hK Y hr hlk rfl dX2_dashHome_59
        · have hrun := o_t hrun c_10
          refine lv_aload_n hx hb dX2_dashHome_40 rfl (lv_at hl 0 rfl) ?_
          refine lv_iload_n hx hb dX2_dashHome_41 rfl (lv_at hl 1 rfl) ?_
          refine lv_iconst (v := (1 : Int32)) hx hb dX2_dashHome_42 (by decide) ?_
          obtain ⟨σ15, e_16, hrun⟩ := o_bh hrun
          refine cf_sv (As := [.ref (h 0), .int p1, .int (1 : Int32)]) (rest := []) S hK hA hZ Y hl.1 (mX2_findPlayer l D cI h σ p1 (1 : Int32) σ15 e_16) kX2_99 ⟨Nat.le_of_ble_eq_true rfl, Nat.le_of_ble_eq_true rfl⟩ rfl rfl (Nat.le_of_ble_eq_true rfl) ⟨Nat.le_of_ble_eq_true rfl, Nat.le_of_ble_eq_true rfl⟩ dX2_dashHome_43 (fun H locs Y => ?_)
          refine lv_iconst (v := (0 : Int32)) hx hb dX2_dashHome_46 (by decide) ?_
          cases hrun
          exact me_ri S hK Y hr hlk rfl dX2_dashHome_47
      · have hrun := o_t hrun c_7
        refine lv_sipush (v := (-10003 : Int32)) hx hb dX2_dashHome_28 (by decide) ?_
        cases hrun
        exact me_ri S hK Y hr hlk rfl dX2_dashHome_31
  · have hrun := o_t hrun c_3
    refine lv_sipush (v := (-10001 : Int32)) hx hb dX2_dashHome_8 (by decide) ?_
    cases hrun
    exact me_ri S hK Y hr hlk rfl dX2_dashHome_11
end
section
abbrev s3_T : Type := Nat → sg_T
def sg_3 (Λ : s3_T) (j : Nat) (σ : sg_T) : s3_T := fun j' => cond (Nat.beq j' j) σ (Λ j')
def tL (cI cS : ClassId) : List (ClassId × FieldType) := [(cI, .int), (cS, .object RX5)]
def rL (h : Nat → Nat → Nat) (π : Nat → Nat) : Nat → Option Nat := fun k => some (h (π k) 0)
def wLr (cI cS : ClassId) (h : Nat → Nat → Nat) (Λ : s3_T) (f : Nat → Option Nat) : va_W := (h 8 0, .inr (3, [.ref (h 0 0), .ref (h 1 0), .ref (h 8 1), .ref (h 9 0), .int (Λ 8 0 0)])) :: (h 8 1, .inr (1, [.ref (h 8 2), .int (Λ 8 0 1)])) :: (h 8 2, .inl (cS, 6, .inr (.inr (.inr (.inr f))))) :: (wT cI (h 9) (Λ 9) ++ (wS cI (h 0) (Λ 0) ++ (wS cI (h 1) (Λ 1) ++ (wS cI (h 2) (Λ 2) ++ (wS cI (h 3) (Λ 3) ++ (wS cI (h 4) (Λ 4) ++ (wS cI (h 5) (Λ 5) ++ (wS cI (h 6) (Λ 6) ++ wS cI (h 7) (Λ 7)))))))))
abbrev wL (cI cS : ClassId) (h : Nat → Nat → Nat) (Λ : s3_T) (π : Nat → Nat) : va_W := wLr cI cS h Λ (rL h π)
theorem wL_f0 {cI cS : ClassId} (h : Nat → Nat → Nat) (Λ : s3_T) (f : Nat → Option Nat) (x : Int32) : (wLr cI cS h Λ f).set 0 (h 8 0, .inr (3, [.ref (h 0 0), .ref (h 1 0), .ref (h 8 1), .ref (h 9 0), .int x])) = wLr cI cS h (sg_3 Λ 8 (sg_a (Λ 8) 0 (sg_u (Λ 8 0) 0 x))) f := rfl
theorem wL_f1 {cI cS : ClassId} (h : Nat → Nat → Nat) (Λ : s3_T) (f : Nat → Option Nat) (x : Int32) : (wLr cI cS h Λ f).set 1 (h 8 1, .inr (1, [.ref (h 8 2), .int x])) = wLr cI cS h (sg_3 Λ 8 (sg_a (Λ 8) 0 (sg_u (Λ 8 0) 1 x))) f := rfl
theorem wL_a {cI cS : ClassId} (h : Nat → Nat → Nat) (Λ : s3_T) (f g : Nat → Option Nat) : (wLr cI cS h Λ f).set 2 (h 8 2, .inl (cS, 6, .inr (.inr (.inr (.inr g))))) = wLr cI cS h Λ g := rfl
theorem wL_st {cI cS : ClassId} (h : Nat → Nat → Nat) (Λ : s3_T) (f : Nat → Option Nat) : ∀ j : Nat, j < 8 → (wLr cI cS h Λ f)[5 + 10 * j]? = some (h j 0, .inr (2, vS (h j) (Λ j 0)))
  | 0, _ => rfl
  | 1, _ => rfl
  | 2, _ => rfl
  | 3, _ => rfl
  | 4, _ => rfl
  | 5, _ => rfl
  | 6, _ => rfl
  | 7, _ => rfl
  | j + 8, q => absurd q (by omega)
/-! equal in what a cell holds -/
theorem ar_cg {cA : ClassId} {n : Nat} {f g : Nat → Int32} (h : ∀ k, k < n → f k = g k) : vp_cell cA (n, .inl f) = vp_cell cA (n, .inl g) := by
  rw [vp_cell_i, vp_cell_i]
  unfold arrV
  congr 2
  funext k
  exact congrArg Value.int (h k.val k.isLt)
theorem cpy_lt {f g : Nat → Int32} {n k : Nat} (hk : k < n) : va_cpy f g 0 0 n k = f k := by
  unfold va_cpy
  rw [if_pos ⟨Nat.zero_le _, by omega⟩, Nat.zero_add, Nat.sub_zero]
theorem dy_r {D : va_G} {A : Nat → Prop} {s : State} {w1 w2 : va_W} {H : Heap} {locs : List Loc} (hl : w1.length = w2.length) (h : ∀ (k : Nat) (p q : Nat × va_E), w1[k]? = some p → w2[k]? = some q → p.1 = q.1 ∧ (va_at D vwCl p H → va_at D vwCl q H)) (Y : dy_ D A s w1 H locs) : dy_ D A s w2 H locs := by
  have key : ∀ (k : Nat) (q : Nat × va_E), w2[k]? = some q → ∃ p, w1[k]? = some p := fun k q hq => by
    have hk : k < w1.length := by rw [hl]; exact (List.getElem?_eq_some_iff.mp hq).1
    exact ⟨w1[k], List.getElem?_eq_getElem hk⟩
  refine ⟨fun k q hq => ?_, ⟨fun i j p q hp hq hpq => ?_, fun k q hq => ?_⟩, Y.2.2⟩
  · obtain ⟨p, hp⟩ := key k q hq
    exact (h k p q hp hq).2 (Y.1 k p hp)
  · obtain ⟨p', hp'⟩ := key i p hp
    obtain ⟨q', hq'⟩ := key j q hq
    exact Y.2.1.1 i j p' q' hp' hq' (by rw [(h i p' p hp' hp).1, (h j q' q hq' hq).1]; exact hpq)
  · obtain ⟨p, hp⟩ := key k q hq
    rw [← (h k p q hp hq).1]
    exact Y.2.1.2 k p hp
set_option maxRecDepth 20000 in
theorem iuX7 : ∀ w ∈ u_ws RX7 TX7 5, w ∈ uw_ := uw_ps [156, 158, 160, 162, 164] rfl rfl
set_option maxRecDepth 20000 in
theorem iuX3 : ∀ w ∈ u_ws RX3 TX3 2, w ∈ uw_ := uw_ps [133, 135] rfl rfl
theorem fpX7 : fp_ TX7 5 tyX7 := ⟨tyX7_ok, nmX7⟩
theorem fpX3 : fp_ TX3 2 tyX3 := ⟨tyX3_ok, nmX3⟩
set_option maxRecDepth 20000 in
theorem fX3_11 : fl_ RX3 11 RX3 TX3 2 1 0 := ⟨iuX3, rfl, Nat.le_of_ble_eq_true rfl, uw_in 131 rfl rfl, rfl⟩
set_option maxRecDepth 20000 in
theorem fX3_17 : fl_ RX3 17 RX3 TX3 2 1 1 := ⟨iuX3, rfl, Nat.le_of_ble_eq_true rfl, uw_in 132 rfl rfl, rfl⟩
set_option maxRecDepth 20000 in
theorem fX5_18 : fl_ RX5 18 RX5 TX5 16 2 2 := ⟨iuX5, rfl, Nat.le_of_ble_eq_true rfl, uw_in 39 rfl rfl, rfl⟩
set_option maxRecDepth 20000 in
theorem fX5_21 : fl_ RX5 21 RX5 TX5 16 2 3 := ⟨iuX5, rfl, Nat.le_of_ble_eq_true rfl, uw_in 43 rfl rfl, rfl⟩
set_option maxRecDepth 20000 in
theorem fX5_24 : fl_ RX5 24 RX5 TX5 16 2 4 := ⟨iuX5, rfl, Nat.le_of_ble_eq_true rfl, uw_in 46 rfl rfl, rfl⟩
set_option maxRecDepth 20000 in
theorem fX5_27 : fl_ RX5 27 RX5 TX5 16 2 5 := ⟨iuX5, rfl, Nat.le_of_ble_eq_true rfl, uw_in 50 rfl rfl, rfl⟩
set_option maxRecDepth 20000 in
theorem fX5_35 : fl_ RX5 35 RX5 TX5 16 2 7 := ⟨iuX5, rfl, Nat.le_of_ble_eq_true rfl, uw_in 57 rfl rfl, rfl⟩
set_option maxRecDepth 20000 in
theorem fX5_45 : fl_ RX5 45 RX5 TX5 16 2 10 := ⟨iuX5, rfl, Nat.le_of_ble_eq_true rfl, uw_in 68 rfl rfl, rfl⟩
set_option maxRecDepth 20000 in
theorem fX5_48 : fl_ RX5 48 RX5 TX5 16 2 11 := ⟨iuX5, rfl, Nat.le_of_ble_eq_true rfl, uw_in 71 rfl rfl, rfl⟩
set_option maxRecDepth 20000 in
theorem fX5_51 : fl_ RX5 51 RX5 TX5 16 2 12 := ⟨iuX5, rfl, Nat.le_of_ble_eq_true rfl, uw_in 75 rfl rfl, rfl⟩
set_option maxRecDepth 20000 in
theorem fX5_60 : fl_ RX5 60 RX5 TX5 16 2 15 := ⟨iuX5, rfl, Nat.le_of_ble_eq_true rfl, uw_in 85 rfl rfl, rfl⟩
set_option maxRecDepth 20000 in
theorem fX7_10 : fl_ RX7 10 RX7 TX7 5 3 0 := ⟨iuX7, rfl, Nat.le_of_ble_eq_true rfl, uw_in 151 rfl rfl, rfl⟩
set_option maxRecDepth 20000 in
theorem fX7_105 : fl_ RX7 105 RX5 TX5 16 2 6 := ⟨iuX5, rfl, Nat.le_of_ble_eq_true rfl, uw_in 56 rfl rfl, rfl⟩
set_option maxRecDepth 20000 in
theorem fX7_116 : fl_ RX7 116 RX5 TX5 16 2 7 := ⟨iuX5, rfl, Nat.le_of_ble_eq_true rfl, uw_in 60 rfl rfl, rfl⟩
set_option maxRecDepth 20000 in
theorem fX7_131 : fl_ RX7 131 RX5 TX5 16 2 9 := ⟨iuX5, rfl, Nat.le_of_ble_eq_true rfl, uw_in 67 rfl rfl, rfl⟩
set_option maxRecDepth 20000 in
theorem fX7_135 : fl_ RX7 135 RX5 TX5 16 2 10 := ⟨iuX5, rfl, Nat.le_of_ble_eq_true rfl, uw_in 69 rfl rfl, rfl⟩
set_option maxRecDepth 20000 in
theorem fX7_138 : fl_ RX7 138 RX5 TX5 16 2 11 := ⟨iuX5, rfl, Nat.le_of_ble_eq_true rfl, uw_in 74 rfl rfl, rfl⟩
set_option maxRecDepth 20000 in
theorem fX7_141 : fl_ RX7 141 RX5 TX5 16 2 12 := ⟨iuX5, rfl, Nat.le_of_ble_eq_true rfl, uw_in 77 rfl rfl, rfl⟩
set_option maxRecDepth 20000 in
theorem fX7_144 : fl_ RX7 144 RX5 TX5 16 2 13 := ⟨iuX5, rfl, Nat.le_of_ble_eq_true rfl, uw_in 80 rfl rfl, rfl⟩
set_option maxRecDepth 20000 in
theorem fX7_147 : fl_ RX7 147 RX5 TX5 16 2 14 := ⟨iuX5, rfl, Nat.le_of_ble_eq_true rfl, uw_in 84 rfl rfl, rfl⟩
set_option maxRecDepth 20000 in
theorem fX7_150 : fl_ RX7 150 RX5 TX5 16 2 15 := ⟨iuX5, rfl, Nat.le_of_ble_eq_true rfl, uw_in 87 rfl rfl, rfl⟩
set_option maxRecDepth 20000 in
theorem fX7_22 : fl_ RX7 22 RX7 TX7 5 3 2 := ⟨iuX7, rfl, Nat.le_of_ble_eq_true rfl, uw_in 153 rfl rfl, rfl⟩
set_option maxRecDepth 20000 in
theorem fX7_55 : fl_ RX7 55 RX5 TX5 16 2 0 := ⟨iuX5, rfl, Nat.le_of_ble_eq_true rfl, uw_in 33 rfl rfl, rfl⟩
set_option maxRecDepth 20000 in
theorem fX7_85 : fl_ RX7 85 RX5 TX5 16 2 1 := ⟨iuX5, rfl, Nat.le_of_ble_eq_true rfl, uw_in 38 rfl rfl, rfl⟩
set_option maxRecDepth 20000 in
theorem fX7_88 : fl_ RX7 88 RX5 TX5 16 2 2 := ⟨iuX5, rfl, Nat.le_of_ble_eq_true rfl, uw_in 42 rfl rfl, rfl⟩
set_option maxRecDepth 20000 in
theorem fX7_91 : fl_ RX7 91 RX5 TX5 16 2 3 := ⟨iuX5, rfl, Nat.le_of_ble_eq_true rfl, uw_in 45 rfl rfl, rfl⟩
set_option maxRecDepth 20000 in
theorem fX7_94 : fl_ RX7 94 RX5 TX5 16 2 4 := ⟨iuX5, rfl, Nat.le_of_ble_eq_true rfl, uw_in 48 rfl rfl, rfl⟩
set_option maxRecDepth 20000 in
theorem fX7_97 : fl_ RX7 97 RX5 TX5 16 2 5 := ⟨iuX5, rfl, Nat.le_of_ble_eq_true rfl, uw_in 51 rfl rfl, rfl⟩
set_option maxRecDepth 20000 in
theorem kX3_22 : cv_ RX3 22 yX5_copyFrom cX5_copyFrom 2 none 1 := ⟨uw_in 175 rfl rfl, uw_in 176 rfl rfl, uw_in 177 rfl rfl, uw_in 3 rfl rfl, uw_in 178 rfl rfl, ⟨by decide, by decide, by decide +kernel⟩⟩
set_option maxRecDepth 20000 in
theorem kX3_26 : cv_ RX3 26 yX3_discardOldest cX3_discardOldest 3 none 0 := ⟨uw_in 196 rfl rfl, uw_in 198 rfl rfl, uw_in 0 rfl rfl, uw_in 5 rfl rfl, uw_in 199 rfl rfl, ⟨by decide, by decide, by decide +kernel⟩⟩
set_option maxRecDepth 20000 in
theorem kX7_100 : cs_ RX7 100 yX4_placeOf cX4_placeOf 4 (some .int) 2 := ⟨uw_in 397 rfl rfl, uw_in 398 rfl rfl, uw_in 12 rfl rfl, uw_in 399 rfl rfl, ⟨by decide, by decide, by decide +kernel⟩⟩
set_option maxRecDepth 20000 in
theorem kX7_108 : cs_ RX7 108 yX6_isSpot cX6_isSpot 1 (some .boolean) 1 := ⟨uw_in 415 rfl rfl, uw_in 251 rfl rfl, uw_in 9 rfl rfl, uw_in 252 rfl rfl, ⟨by decide, by decide, by decide +kernel⟩⟩
set_option maxRecDepth 20000 in
theorem kX7_113 : cs_ RX7 113 yX6_fromBase cX6_fromBase 1 (some .int) 1 := ⟨uw_in 416 rfl rfl, uw_in 235 rfl rfl, uw_in 9 rfl rfl, uw_in 236 rfl rfl, ⟨by decide, by decide, by decide +kernel⟩⟩
set_option maxRecDepth 20000 in
theorem kX7_119 : cv_ RX7 119 yX5_isRetired cX5_isRetired 2 (some .boolean) 1 := ⟨uw_in 417 rfl rfl, uw_in 247 rfl rfl, uw_in 248 rfl rfl, uw_in 3 rfl rfl, uw_in 249 rfl rfl, ⟨by decide, by decide, by decide +kernel⟩⟩
set_option maxRecDepth 20000 in
theorem kX7_122 : cv_ RX7 122 yX5_hidersAt cX5_hidersAt 4 (some .int) 1 := ⟨uw_in 418 rfl rfl, uw_in 262 rfl rfl, uw_in 263 rfl rfl, uw_in 3 rfl rfl, uw_in 264 rfl rfl, ⟨by decide, by decide, by decide +kernel⟩⟩
set_option maxRecDepth 20000 in
theorem kX7_125 : cs_ RX7 125 yX4_playerAt cX4_playerAt 3 (some .int) 2 := ⟨uw_in 407 rfl rfl, uw_in 408 rfl rfl, uw_in 12 rfl rfl, uw_in 409 rfl rfl, ⟨by decide, by decide, by decide +kernel⟩⟩
set_option maxRecDepth 20000 in
theorem kX7_128 : cs_ RX7 128 yX4_seekerOfNextRound cX4_seekerOfNextRound 3 (some .int) 1 := ⟨uw_in 472 rfl rfl, uw_in 473 rfl rfl, uw_in 12 rfl rfl, uw_in 474 rfl rfl, ⟨by decide, by decide, by decide +kernel⟩⟩
set_option maxRecDepth 20000 in
theorem kX7_153 : cv_ RX7 153 yX5_hiddenCount cX5_hiddenCount 3 (some .int) 0 := ⟨uw_in 483 rfl rfl, uw_in 295 rfl rfl, uw_in 296 rfl rfl, uw_in 3 rfl rfl, uw_in 297 rfl rfl, ⟨by decide, by decide, by decide +kernel⟩⟩
set_option maxRecDepth 20000 in
theorem kX7_157 : cv_ RX7 157 yX5_retiredCount cX5_retiredCount 3 (some .int) 0 := ⟨uw_in 484 rfl rfl, uw_in 485 rfl rfl, uw_in 486 rfl rfl, uw_in 3 rfl rfl, uw_in 487 rfl rfl, ⟨by decide, by decide, by decide +kernel⟩⟩
set_option maxRecDepth 20000 in
theorem kX7_160 : cv_ RX7 160 yX5_sumOfPoints cX5_sumOfPoints 3 (some .int) 0 := ⟨uw_in 488 rfl rfl, uw_in 489 rfl rfl, uw_in 490 rfl rfl, uw_in 3 rfl rfl, uw_in 491 rfl rfl, ⟨by decide, by decide, by decide +kernel⟩⟩
set_option maxRecDepth 20000 in
theorem kX7_163 : cs_ RX7 163 yX0_spotsInSight cX0_spotsInSight 3 (some .int) 1 := ⟨uw_in 437 rfl rfl, uw_in 438 rfl rfl, uw_in 13 rfl rfl, uw_in 439 rfl rfl, ⟨by decide, by decide, by decide +kernel⟩⟩
set_option maxRecDepth 20000 in
theorem kX7_168 : cs_ RX7 168 yX0_playersWhoWouldEscape cX0_playersWhoWouldEscape 3 (some .int) 1 := ⟨uw_in 445 rfl rfl, uw_in 446 rfl rfl, uw_in 13 rfl rfl, uw_in 447 rfl rfl, ⟨by decide, by decide, by decide +kernel⟩⟩
set_option maxRecDepth 20000 in
theorem kX7_171 : cs_ RX7 171 yX0_bestHidingSpot cX0_bestHidingSpot 3 (some .int) 1 := ⟨uw_in 423 rfl rfl, uw_in 424 rfl rfl, uw_in 13 rfl rfl, uw_in 425 rfl rfl, ⟨by decide, by decide, by decide +kernel⟩⟩
set_option maxRecDepth 20000 in
theorem kX7_174 : cs_ RX7 174 yX0_stepsToSeeAll cX0_stepsToSeeAll 4 (some .int) 1 := ⟨uw_in 453 rfl rfl, uw_in 454 rfl rfl, uw_in 13 rfl rfl, uw_in 455 rfl rfl, ⟨by decide, by decide, by decide +kernel⟩⟩
set_option maxRecDepth 20000 in
theorem kX7_37 : cv_ RX7 37 yX3_draft cX3_draft 2 none 1 := ⟨uw_in 171 rfl rfl, uw_in 172 rfl rfl, uw_in 173 rfl rfl, uw_in 5 rfl rfl, uw_in 174 rfl rfl, ⟨by decide, by decide, by decide +kernel⟩⟩
set_option maxRecDepth 20000 in
theorem kX7_41 : cs_ RX7 41 yX2_changeSetting cX2_changeSetting 4 (some .int) 3 := ⟨uw_in 182 rfl rfl, uw_in 183 rfl rfl, uw_in 8 rfl rfl, uw_in 184 rfl rfl, ⟨by decide, by decide, by decide +kernel⟩⟩
set_option maxRecDepth 20000 in
theorem kX7_47 : cv_ RX7 47 yX3_keep cX3_keep 2 (some .int) 1 := ⟨uw_in 192 rfl rfl, uw_in 193 rfl rfl, uw_in 194 rfl rfl, uw_in 5 rfl rfl, uw_in 195 rfl rfl, ⟨by decide, by decide, by decide +kernel⟩⟩
set_option maxRecDepth 20000 in
theorem kX7_51 : cs_ RX7 51 yX5_isSetting cX5_isSetting 1 (some .boolean) 1 := ⟨uw_in 204 rfl rfl, uw_in 186 rfl rfl, uw_in 3 rfl rfl, uw_in 187 rfl rfl, ⟨by decide, by decide, by decide +kernel⟩⟩
set_option maxRecDepth 20000 in
theorem kX7_59 : cs_ RX7 59 yX2_addPlayer cX2_addPlayer 2 (some .int) 1 := ⟨uw_in 209 rfl rfl, uw_in 210 rfl rfl, uw_in 8 rfl rfl, uw_in 211 rfl rfl, ⟨by decide, by decide, by decide +kernel⟩⟩
set_option maxRecDepth 20000 in
theorem kX7_63 : cs_ RX7 63 yX2_beginRound cX2_beginRound 3 (some .int) 3 := ⟨uw_in 216 rfl rfl, uw_in 217 rfl rfl, uw_in 8 rfl rfl, uw_in 218 rfl rfl, ⟨by decide, by decide, by decide +kernel⟩⟩
set_option maxRecDepth 20000 in
theorem kX7_66 : cs_ RX7 66 yX2_hidePlayer cX2_hidePlayer 3 (some .int) 3 := ⟨uw_in 275 rfl rfl, uw_in 276 rfl rfl, uw_in 8 rfl rfl, uw_in 277 rfl rfl, ⟨by decide, by decide, by decide +kernel⟩⟩
set_option maxRecDepth 20000 in
theorem kX7_69 : cs_ RX7 69 yX2_beginSeeking cX2_beginSeeking 2 (some .int) 1 := ⟨uw_in 291 rfl rfl, uw_in 292 rfl rfl, uw_in 8 rfl rfl, uw_in 293 rfl rfl, ⟨by decide, by decide, by decide +kernel⟩⟩
set_option maxRecDepth 20000 in
theorem kX7_72 : cs_ RX7 72 yX2_moveSeeker cX2_moveSeeker 2 (some .int) 2 := ⟨uw_in 313 rfl rfl, uw_in 314 rfl rfl, uw_in 8 rfl rfl, uw_in 315 rfl rfl, ⟨by decide, by decide, by decide +kernel⟩⟩
set_option maxRecDepth 20000 in
theorem kX7_76 : cs_ RX7 76 yX2_cryName cX2_cryName 3 (some .int) 3 := ⟨uw_in 323 rfl rfl, uw_in 324 rfl rfl, uw_in 8 rfl rfl, uw_in 325 rfl rfl, ⟨by decide, by decide, by decide +kernel⟩⟩
set_option maxRecDepth 20000 in
theorem kX7_79 : cs_ RX7 79 yX2_dashHome cX2_dashHome 2 (some .int) 2 := ⟨uw_in 352 rfl rfl, uw_in 353 rfl rfl, uw_in 8 rfl rfl, uw_in 354 rfl rfl, ⟨by decide, by decide, by decide +kernel⟩⟩
set_option maxRecDepth 20000 in
theorem kX7_82 : cv_ RX7 82 yX5_isPlayer cX5_isPlayer 2 (some .boolean) 1 := ⟨uw_in 396 rfl rfl, uw_in 220 rfl rfl, uw_in 221 rfl rfl, uw_in 3 rfl rfl, uw_in 222 rfl rfl, ⟨by decide, by decide, by decide +kernel⟩⟩
theorem wSS_f0 {cI : ClassId} (h : Nat → Nat) (σ : sg_T) (F : Nat → Int32) (x : Int32) (w2 : va_W) : (wS cI h σ ++ w2).set 0 (h 0, .inr (2, (vS h F).set 9 (.int x))) = wS cI h (sg_a σ 0 (sg_u F 0 x)) ++ w2 := rfl
theorem wSS_f1 {cI : ClassId} (h : Nat → Nat) (σ : sg_T) (F : Nat → Int32) (x : Int32) (w2 : va_W) : (wS cI h σ ++ w2).set 0 (h 0, .inr (2, (vS h F).set 10 (.int x))) = wS cI h (sg_a σ 0 (sg_u F 1 x)) ++ w2 := rfl
theorem wSS_f2 {cI : ClassId} (h : Nat → Nat) (σ : sg_T) (F : Nat → Int32) (x : Int32) (w2 : va_W) : (wS cI h σ ++ w2).set 0 (h 0, .inr (2, (vS h F).set 11 (.int x))) = wS cI h (sg_a σ 0 (sg_u F 2 x)) ++ w2 := rfl
theorem wSS_f3 {cI : ClassId} (h : Nat → Nat) (σ : sg_T) (F : Nat → Int32) (x : Int32) (w2 : va_W) : (wS cI h σ ++ w2).set 0 (h 0, .inr (2, (vS h F).set 12 (.int x))) = wS cI h (sg_a σ 0 (sg_u F 3 x)) ++ w2 := rfl
theorem wSS_f4 {cI : ClassId} (h : Nat → Nat) (σ : sg_T) (F : Nat → Int32) (x : Int32) (w2 : va_W) : (wS cI h σ ++ w2).set 0 (h 0, .inr (2, (vS h F).set 13 (.int x))) = wS cI h (sg_a σ 0 (sg_u F 4 x)) ++ w2 := rfl
theorem wSS_f5 {cI : ClassId} (h : Nat → Nat) (σ : sg_T) (F : Nat → Int32) (x : Int32) (w2 : va_W) : (wS cI h σ ++ w2).set 0 (h 0, .inr (2, (vS h F).set 14 (.int x))) = wS cI h (sg_a σ 0 (sg_u F 5 x)) ++ w2 := rfl
theorem wSS_f6 {cI : ClassId} (h : Nat → Nat) (σ : sg_T) (F : Nat → Int32) (x : Int32) (w2 : va_W) : (wS cI h σ ++ w2).set 0 (h 0, .inr (2, (vS h F).set 15 (.int x))) = wS cI h (sg_a σ 0 (sg_u F 6 x)) ++ w2 := rfl
theorem wSS_a1 {cI : ClassId} (h : Nat → Nat) (σ : sg_T) (f : Nat → Int32) (w2 : va_W) : (wS cI h σ ++ w2).set 1 (h 1, .inl (cI, 4, .inl f)) = wS cI h (sg_a σ 1 f) ++ w2 := rfl
theorem wSS_a2 {cI : ClassId} (h : Nat → Nat) (σ : sg_T) (f : Nat → Int32) (w2 : va_W) : (wS cI h σ ++ w2).set 2 (h 2, .inl (cI, 8, .inl f)) = wS cI h (sg_a σ 2 f) ++ w2 := rfl
theorem wSS_a3 {cI : ClassId} (h : Nat → Nat) (σ : sg_T) (f : Nat → Int32) (w2 : va_W) : (wS cI h σ ++ w2).set 3 (h 3, .inl (cI, 8, .inl f)) = wS cI h (sg_a σ 3 f) ++ w2 := rfl
theorem wSS_a4 {cI : ClassId} (h : Nat → Nat) (σ : sg_T) (f : Nat → Int32) (w2 : va_W) : (wS cI h σ ++ w2).set 4 (h 4, .inl (cI, 8, .inl f)) = wS cI h (sg_a σ 4 f) ++ w2 := rfl
theorem wSS_a5 {cI : ClassId} (h : Nat → Nat) (σ : sg_T) (f : Nat → Int32) (w2 : va_W) : (wS cI h σ ++ w2).set 5 (h 5, .inl (cI, 8, .inl f)) = wS cI h (sg_a σ 5 f) ++ w2 := rfl
theorem wSS_a6 {cI : ClassId} (h : Nat → Nat) (σ : sg_T) (f : Nat → Int32) (w2 : va_W) : (wS cI h σ ++ w2).set 6 (h 6, .inl (cI, 8, .inl f)) = wS cI h (sg_a σ 6 f) ++ w2 := rfl
theorem wSS_a7 {cI : ClassId} (h : Nat → Nat) (σ : sg_T) (f : Nat → Int32) (w2 : va_W) : (wS cI h σ ++ w2).set 7 (h 7, .inl (cI, 8, .inl f)) = wS cI h (sg_a σ 7 f) ++ w2 := rfl
theorem wSS_a8 {cI : ClassId} (h : Nat → Nat) (σ : sg_T) (f : Nat → Int32) (w2 : va_W) : (wS cI h σ ++ w2).set 8 (h 8, .inl (cI, 16, .inl f)) = wS cI h (sg_a σ 8 f) ++ w2 := rfl
theorem wSS_a9 {cI : ClassId} (h : Nat → Nat) (σ : sg_T) (f : Nat → Int32) (w2 : va_W) : (wS cI h σ ++ w2).set 9 (h 9, .inl (cI, 16, .inl f)) = wS cI h (sg_a σ 9 f) ++ w2 := rfl
theorem wSS_cg {cI : ClassId} {D : va_G} {A : Nat → Prop} {s : State} {h1 h2 : Nat → Nat} {σ σ' σ2 : sg_T} {H : Heap} {locs : List Loc} (hf : vS h1 (σ 0) = vS h1 (σ' 0)) (hc1 : ∀ k, k < 4 → σ 1 k = σ' 1 k) (hc2 : ∀ k, k < 8 → σ 2 k = σ' 2 k) (hc3 : ∀ k, k < 8 → σ 3 k = σ' 3 k) (hc4 : ∀ k, k < 8 → σ 4 k = σ' 4 k) (hc5 : ∀ k, k < 8 → σ 5 k = σ' 5 k) (hc6 : ∀ k, k < 8 → σ 6 k = σ' 6 k) (hc7 : ∀ k, k < 8 → σ 7 k = σ' 7 k) (hc8 : ∀ k, k < 16 → σ 8 k = σ' 8 k) (hc9 : ∀ k, k < 16 → σ 9 k = σ' 9 k) (Y : dy_ D A s (wS cI h1 σ ++ wS cI h2 σ2) H locs) : dy_ D A s (wS cI h1 σ' ++ wS cI h2 σ2) H locs := by
  refine dy_r (w1 := wS cI h1 σ ++ wS cI h2 σ2) (w2 := wS cI h1 σ' ++ wS cI h2 σ2) rfl ?_ Y
  intro k p q hp hq
  match k, hp, hq with
  | 0, hp, hq => cases hp; cases hq; exact ⟨rfl, fun z => by rw [← hf]; exact z⟩
  | 1, hp, hq => cases hp; cases hq; exact ⟨rfl, fun z => by have e := ar_cg (cA := cI) hc1; show H[_]? = some (vp_cell cI _); rw [← e]; exact z⟩
  | 2, hp, hq => cases hp; cases hq; exact ⟨rfl, fun z => by have e := ar_cg (cA := cI) hc2; show H[_]? = some (vp_cell cI _); rw [← e]; exact z⟩
  | 3, hp, hq => cases hp; cases hq; exact ⟨rfl, fun z => by have e := ar_cg (cA := cI) hc3; show H[_]? = some (vp_cell cI _); rw [← e]; exact z⟩
  | 4, hp, hq => cases hp; cases hq; exact ⟨rfl, fun z => by have e := ar_cg (cA := cI) hc4; show H[_]? = some (vp_cell cI _); rw [← e]; exact z⟩
  | 5, hp, hq => cases hp; cases hq; exact ⟨rfl, fun z => by have e := ar_cg (cA := cI) hc5; show H[_]? = some (vp_cell cI _); rw [← e]; exact z⟩
  | 6, hp, hq => cases hp; cases hq; exact ⟨rfl, fun z => by have e := ar_cg (cA := cI) hc6; show H[_]? = some (vp_cell cI _); rw [← e]; exact z⟩
  | 7, hp, hq => cases hp; cases hq; exact ⟨rfl, fun z => by have e := ar_cg (cA := cI) hc7; show H[_]? = some (vp_cell cI _); rw [← e]; exact z⟩
  | 8, hp, hq => cases hp; cases hq; exact ⟨rfl, fun z => by have e := ar_cg (cA := cI) hc8; show H[_]? = some (vp_cell cI _); rw [← e]; exact z⟩
  | 9, hp, hq => cases hp; cases hq; exact ⟨rfl, fun z => by have e := ar_cg (cA := cI) hc9; show H[_]? = some (vp_cell cI _); rw [← e]; exact z⟩
  | k + 10, hp, hq =>
    have e : (wS cI h1 σ ++ wS cI h2 σ2)[k + 10]? = (wS cI h1 σ' ++ wS cI h2 σ2)[k + 10]? := rfl
    rw [hp, hq] at e
    cases e
    exact ⟨rfl, fun z => z⟩
set_option maxRecDepth 100000 in
set_option maxHeartbeats 4000000 in
theorem mX5_copyFrom (l : Launch) (D : va_G) (cI : ClassId) (h1 h2 : Nat → Nat) (σ1 σ2 : sg_T) : me_V l D (tS cI) yX5_copyFrom cX5_copyFrom 2 1 18 (wS cI h1 σ1 ++ wS cI h2 σ2) [.ref (h1 0), .ref (h2 0)] (wS cI h1 σ2 ++ wS cI h2 σ2) := by
  refine me_ofV (plainFor_of_name (by decide)) (Nat.le_of_ble_eq_true rfl) ?_
  intro p e s m args below meth c A ls S hK Y hA hl hr hlk hZ
  have hx := S.1
  have hb := S.2.1
  have hl : lv_has ls 2 [(0, .ref (h1 0)), (1, .ref (h2 0))] := hl
  refine lv_aload_n hx hb dX5_copyFrom_0 rfl (lv_at hl 1 rfl) ?_
  refine ig S hK Y fX5_9 10 rfl (v := .ref (h2 1)) rfl dX5_copyFrom_1 ?_
  refine lv_iconst (v := (0 : Int32)) hx hb dX5_copyFrom_4 (by decide) ?_
  refine lv_aload_n hx hb dX5_copyFrom_5 rfl (lv_at hl 0 rfl) ?_
  refine ig S hK Y fX5_9 0 rfl (v := .ref (h1 1)) rfl dX5_copyFrom_6 ?_
  refine lv_iconst (v := (0 : Int32)) hx hb dX5_copyFrom_9 (by decide) ?_
  refine lv_aload_n hx hb dX5_copyFrom_10 rfl (lv_at hl 0 rfl) ?_
  refine ig S hK Y fX5_9 0 rfl (v := .ref (h1 1)) rfl dX5_copyFrom_11 ?_
  refine va_alen (v := (4 : Int32)) hx hb hK Y.1 1 0 rfl rfl rfl dX5_copyFrom_14 ?_
  refine va_copyi hx hb (S.2.2.1.trans hl.1.symm) S.2.2.2.1 (S.2.2.2.2 _ (List.mem_cons_of_mem _ (uw_in 179 rfl rfl))) (S.2.2.2.2 _ (List.mem_cons_of_mem _ (uw_in 181 rfl rfl))) (S.2.2.2.2 _ (List.mem_cons_of_mem _ (uw_in 180 rfl rfl))) (S.2.2.2.2 _ (List.mem_cons_of_mem _ (uw_in 7 rfl rfl))) hK Y.1 Y.2.1 Y.2.2 11 1 0 0 (f := σ2 1) (g := σ1 1) rfl rfl rfl rfl rfl (by decide) (by decide) (by decide) (by decide) (by decide) (fun _ _ => rfl) (Nat.le_of_ble_eq_true rfl) (Nat.le_of_ble_eq_true rfl) dX5_copyFrom_15 (fun H locs hP hD hS => ?_)
  have Y : dy_ D A s (wS cI h1 (sg_a σ1 1 (va_cpy (σ2 1) (σ1 1) (0 : Int32).toNatClampNeg (0 : Int32).toNatClampNeg (4 : Int32).toNatClampNeg)) ++ wS cI h2 σ2) H locs := by rw [← wSS_a1]; exact ⟨hP, hD, hS⟩
  refine lv_aload_n hx hb dX5_copyFrom_18 rfl (lv_at hl 1 rfl) ?_
  refine ig S hK Y fX5_15 10 rfl (v := .ref (h2 2)) rfl dX5_copyFrom_19 ?_
  refine lv_iconst (v := (0 : Int32)) hx hb dX5_copyFrom_22 (by decide) ?_
  refine lv_aload_n hx hb dX5_copyFrom_23 rfl (lv_at hl 0 rfl) ?_
  refine ig S hK Y fX5_15 0 rfl (v := .ref (h1 2)) rfl dX5_copyFrom_24 ?_
  refine lv_iconst (v := (0 : Int32)) hx hb dX5_copyFrom_27 (by decide) ?_
  refine lv_bipush (v := (8 : Int32)) hx hb dX5_copyFrom_28 (by decide) ?_
  refine va_copyi hx hb (S.2.2.1.trans hl.1.symm) S.2.2.2.1 (S.2.2.2.2 _ (List.mem_cons_of_mem _ (uw_in 179 rfl rfl))) (S.2.2.2.2 _ (List.mem_cons_of_mem _ (uw_in 181 rfl rfl))) (S.2.2.2.2 _ (List.mem_cons_of_mem _ (uw_in 180 rfl rfl))) (S.2.2.2.2 _ (List.mem_cons_of_mem _ (uw_in 7 rfl rfl))) hK Y.1 Y.2.1 Y.2.2 12 2 0 0 (f := σ2 2) (g := σ1 2) rfl rfl rfl rfl rfl (by decide) (by decide) (by decide) (by decide) (by decide) (fun _ _ => rfl) (Nat.le_of_ble_eq_true rfl) (Nat.le_of_ble_eq_true rfl) dX5_copyFrom_30 (fun H locs hP hD hS => ?_)
  have Y : dy_ D A s (wS cI h1 (sg_a (sg_a σ1 1 (va_cpy (σ2 1) (σ1 1) (0 : Int32).toNatClampNeg (0 : Int32).toNatClampNeg (4 : Int32).toNatClampNeg)) 2 (va_cpy (σ2 2) (σ1 2) (0 : Int32).toNatClampNeg (0 : Int32).toNatClampNeg (8 : Int32).toNatClampNeg)) ++ wS cI h2 σ2) H locs := by rw [← wSS_a2]; exact ⟨hP, hD, hS⟩
  refine lv_aload_n hx hb dX5_copyFrom_33 rfl (lv_at hl 1 rfl) ?_
  refine ig S hK Y fX5_18 10 rfl (v := .ref (h2 3)) rfl dX5_copyFrom_34 ?_
  refine lv_iconst (v := (0 : Int32)) hx hb dX5_copyFrom_37 (by decide) ?_
  refine lv_aload_n hx hb dX5_copyFrom_38 rfl (lv_at hl 0 rfl) ?_
  refine ig S hK Y fX5_18 0 rfl (v := .ref (h1 3)) rfl dX5_copyFrom_39 ?_
  refine lv_iconst (v := (0 : Int32)) hx hb dX5_copyFrom_42 (by decide) ?_
  refine lv_bipush (v := (8 : Int32)) hx hb dX5_copyFrom_43 (by decide) ?_
  refine va_copyi hx hb (S.2.2.1.trans hl.1.symm) S.2.2.2.1 (S.2.2.2.2 _ (List.mem_cons_of_mem _ (uw_in 179 rfl rfl))) (S.2.2.2.2 _ (List.mem_cons_of_mem _ (uw_in 181 rfl rfl))) (S.2.2.2.2 _ (List.mem_cons_of_mem _ (uw_in 180 rfl rfl))) (S.2.2.2.2 _ (List.mem_cons_of_mem _ (uw_in 7 rfl rfl))) hK Y.1 Y.2.1 Y.2.2 13 3 0 0 (f := σ2 3) (g := σ1 3) rfl rfl rfl rfl rfl (by decide) (by decide) (by decide) (by decide) (by decide) (fun _ _ => rfl) (Nat.le_of_ble_eq_true rfl) (Nat.le_of_ble_eq_true rfl) dX5_copyFrom_45 (fun H locs hP hD hS => ?_)
  have Y : dy_ D A s (wS cI h1 (sg_a (sg_a (sg_a σ1 1 (va_cpy (σ2 1) (σ1 1) (0 : Int32).toNatClampNeg (0 : Int32).toNatClampNeg (4 : Int32).toNatClampNeg)) 2 (va_cpy (σ2 2) (σ1 2) (0 : Int32).toNatClampNeg (0 : Int32).toNatClampNeg (8 : Int32).toNatClampNeg)) 3 (va_cpy (σ2 3) (σ1 3) (0 : Int32).toNatClampNeg (0 : Int32).toNatClampNeg (8 : Int32).toNatClampNeg)) ++ wS cI h2 σ2) H locs := by rw [← wSS_a3]; exact ⟨hP, hD, hS⟩
  refine lv_aload_n hx hb dX5_copyFrom_48 rfl (lv_at hl 1 rfl) ?_
  refine ig S hK Y fX5_21 10 rfl (v := .ref (h2 4)) rfl dX5_copyFrom_49 ?_
  refine lv_iconst (v := (0 : Int32)) hx hb dX5_copyFrom_52 (by decide) ?_
  refine lv_aload_n hx hb dX5_copyFrom_53 rfl (lv_at hl 0 rfl) ?_
  refine ig S hK Y fX5_21 0 rfl (v := .ref (h1 4)) rfl dX5_copyFrom_54 ?_
  refine lv_iconst (v := (0 : Int32)) hx hb dX5_copyFrom_57 (by decide) ?_
  refine lv_bipush (v := (8 : Int32)) hx hb dX5_copyFrom_58 (by decide) ?_
  refine va_copyi hx hb (S.2.2.1.trans hl.1.symm) S.2.2.2.1 (S.2.2.2.2 _ (List.mem_cons_of_mem _ (uw_in 179 rfl rfl))) (S.2.2.2.2 _ (List.mem_cons_of_mem _ (uw_in 181 rfl rfl))) (S.2.2.2.2 _ (List.mem_cons_of_mem _ (uw_in 180 rfl rfl))) (S.2.2.2.2 _ (List.mem_cons_of_mem _ (uw_in 7 rfl rfl))) hK Y.1 Y.2.1 Y.2.2 14 4 0 0 (f := σ2 4) (g := σ1 4) rfl rfl rfl rfl rfl (by decide) (by decide) (by decide) (by decide) (by decide) (fun _ _ => rfl) (Nat.le_of_ble_eq_true rfl) (Nat.le_of_ble_eq_true rfl) dX5_copyFrom_60 (fun H locs hP hD hS => ?_)
  have Y : dy_ D A s (wS cI h1 (sg_a (sg_a (sg_a (sg_a σ1 1 (va_cpy (σ2 1) (σ1 1) (0 : Int32).toNatClampNeg (0 : Int32).toNatClampNeg (4 : Int32).toNatClampNeg)) 2 (va_cpy (σ2 2) (σ1 2) (0 : Int32).toNatClampNeg (0 : Int32).toNatClampNeg (8 : Int32).toNatClampNeg)) 3 (va_cpy (σ2 3) (σ1 3) (0 : Int32).toNatClampNeg (0 : Int32).toNatClampNeg (8 : Int32).toNatClampNeg)) 4 (va_cpy (σ2 4) (σ1 4) (0 : Int32).toNatClampNeg (0 : Int32).toNatClampNeg (8 : Int32).toNatClampNeg)) ++ wS cI h2 σ2) H locs := by rw [← wSS_a4]; exact ⟨hP, hD, hS⟩
  refine lv_aload_n hx hb dX5_copyFrom_63 rfl (lv_at hl 1 rfl) ?_
  refine ig S hK Y fX5_24 10 rfl (v := .ref (h2 5)) rfl dX5_copyFrom_64 ?_
  refine lv_iconst (v := (0 : Int32)) hx hb dX5_copyFrom_67 (by decide) ?_
  refine lv_aload_n hx hb dX5_copyFrom_68 rfl (lv_at hl 0 rfl) ?_
  refine ig S hK Y fX5_24 0 rfl (v := .ref (h1 5)) rfl dX5_copyFrom_69 ?_
  refine lv_iconst (v := (0 : Int32)) hx hb dX5_copyFrom_72 (by decide) ?_
  refine lv_bipush (v := (8 : Int32)) hx hb dX5_copyFrom_73 (by decide) ?_
  refine va_copyi hx hb (S.2.2.1.trans hl.1.symm) S.2.2.2.1 (S.2.2.2.2 _ (List.mem_cons_of_mem _ (uw_in 179 rfl rfl))) (S.2.2.2.2 _ (List.mem_cons_of_mem _ (uw_in 181 rfl rfl))) (S.2.2.2.2 _ (List.mem_cons_of_mem _ (uw_in 180 rfl rfl))) (S.2.2.2.2 _ (List.mem_cons_of_mem _ (uw_in 7 rfl rfl))) hK Y.1 Y.2.1 Y.2.2 15 5 0 0 (f := σ2 5) (g := σ1 5) rfl rfl rfl rfl rfl (by decide) (by decide) (by decide) (by decide) (by decide) (fun _ _ => rfl) (Nat.le_of_ble_eq_true rfl) (Nat.le_of_ble_eq_true rfl) dX5_copyFrom_75 (fun H locs hP hD hS => ?_)
  have Y : dy_ D A s (wS cI h1 (sg_a (sg_a (sg_a (sg_a (sg_a σ1 1 (va_cpy (σ2 1) (σ1 1) (0 : Int32).toNatClampNeg (0 : Int32).toNatClampNeg (4 : Int32).toNatClampNeg)) 2 (va_cpy (σ2 2) (σ1 2) (0 : Int32).toNatClampNeg (0 : Int32).toNatClampNeg (8 : Int32).toNatClampNeg)) 3 (va_cpy (σ2 3) (σ1 3) (0 : Int32).toNatClampNeg (0 : Int32).toNatClampNeg (8 : Int32).toNatClampNeg)) 4 (va_cpy (σ2 4) (σ1 4) (0 : Int32).toNatClampNeg (0 : Int32).toNatClampNeg (8 : Int32).toNatClampNeg)) 5 (va_cpy (σ2 5) (σ1 5) (0 : Int32).toNatClampNeg (0 : Int32).toNatClampNeg (8 : Int32).toNatClampNeg)) ++ wS cI h2 σ2) H locs := by rw [← wSS_a5]; exact ⟨hP, hD, hS⟩
  refine lv_aload_n hx hb dX5_copyFrom_78 rfl (lv_at hl 1 rfl) ?_
  refine ig S hK Y fX5_27 10 rfl (v := .ref (h2 6)) rfl dX5_copyFrom_79 ?_
  refine lv_iconst (v := (0 : Int32)) hx hb dX5_copyFrom_82 (by decide) ?_
  refine lv_aload_n hx hb dX5_copyFrom_83 rfl (lv_at hl 0 rfl) ?_
  refine ig S hK Y fX5_27 0 rfl (v := .ref (h1 6)) rfl dX5_copyFrom_84 ?_
  refine lv_iconst (v := (0 : Int32)) hx hb dX5_copyFrom_87 (by decide) ?_
  refine lv_bipush (v := (8 : Int32)) hx hb dX5_copyFrom_88 (by decide) ?_
  refine va_copyi hx hb (S.2.2.1.trans hl.1.symm) S.2.2.2.1 (S.2.2.2.2 _ (List.mem_cons_of_mem _ (uw_in 179 rfl rfl))) (S.2.2.2.2 _ (List.mem_cons_of_mem _ (uw_in 181 rfl rfl))) (S.2.2.2.2 _ (List.mem_cons_of_mem _ (uw_in 180 rfl rfl))) (S.2.2.2.2 _ (List.mem_cons_of_mem _ (uw_in 7 rfl rfl))) hK Y.1 Y.2.1 Y.2.2 16 6 0 0 (f := σ2 6) (g := σ1 6) rfl rfl rfl rfl rfl (by decide) (by decide) (by decide) (by decide) (by decide) (fun _ _ => rfl) (Nat.le_of_ble_eq_true rfl) (Nat.le_of_ble_eq_true rfl) dX5_copyFrom_90 (fun H locs hP hD hS => ?_)
  have Y : dy_ D A s (wS cI h1 (sg_a (sg_a (sg_a (sg_a (sg_a (sg_a σ1 1 (va_cpy (σ2 1) (σ1 1) (0 : Int32).toNatClampNeg (0 : Int32).toNatClampNeg (4 : Int32).toNatClampNeg)) 2 (va_cpy (σ2 2) (σ1 2) (0 : Int32).toNatClampNeg (0 : Int32).toNatClampNeg (8 : Int32).toNatClampNeg)) 3 (va_cpy (σ2 3) (σ1 3) (0 : Int32).toNatClampNeg (0 : Int32).toNatClampNeg (8 : Int32).toNatClampNeg)) 4 (va_cpy (σ2 4) (σ1 4) (0 : Int32).toNatClampNeg (0 : Int32).toNatClampNeg (8 : Int32).toNatClampNeg)) 5 (va_cpy (σ2 5) (σ1 5) (0 : Int32).toNatClampNeg (0 : Int32).toNatClampNeg (8 : Int32).toNatClampNeg)) 6 (va_cpy (σ2 6) (σ1 6) (0 : Int32).toNatClampNeg (0 : Int32).toNatClampNeg (8 : Int32).toNatClampNeg)) ++ wS cI h2 σ2) H locs := by rw [← wSS_a6]; exact ⟨hP, hD, hS⟩
  refine lv_aload_n hx hb dX5_copyFrom_93 rfl (lv_at hl 1 rfl) ?_
  refine ig S hK Y fX5_30 10 rfl (v := .ref (h2 7)) rfl dX5_copyFrom_94 ?_
  refine lv_iconst (v := (0 : Int32)) hx hb dX5_copyFrom_97 (by decide) ?_
  refine lv_aload_n hx hb dX5_copyFrom_98 rfl (lv_at hl 0 rfl) ?_
  refine ig S hK Y fX5_30 0 rfl (v := .ref (h1 7)) rfl dX5_copyFrom_99 ?_
  refine lv_iconst (v := (0 : Int32)) hx hb dX5_copyFrom_102 (by decide) ?_
  refine lv_bipush (v := (8 : Int32)) hx hb dX5_copyFrom_103 (by decide) ?_
  refine va_copyi hx hb (S.2.2.1.trans hl.1.symm) S.2.2.2.1 (S.2.2.2.2 _ (List.mem_cons_of_mem _ (uw_in 179 rfl rfl))) (S.2.2.2.2 _ (List.mem_cons_of_mem _ (uw_in 181 rfl rfl))) (S.2.2.2.2 _ (List.mem_cons_of_mem _ (uw_in 180 rfl rfl))) (S.2.2.2.2 _ (List.mem_cons_of_mem _ (uw_in 7 rfl rfl))) hK Y.1 Y.2.1 Y.2.2 17 7 0 0 (f := σ2 7) (g := σ1 7) rfl rfl rfl rfl rfl (by decide) (by decide) (by decide) (by decide) (by decide) (fun _ _ => rfl) (Nat.le_of_ble_eq_true rfl) (Nat.le_of_ble_eq_true rfl) dX5_copyFrom_105 (fun H locs hP hD hS => ?_)
  have Y : dy_ D A s (wS cI h1 (sg_a (sg_a (sg_a (sg_a (sg_a (sg_a (sg_a σ1 1 (va_cpy (σ2 1) (σ1 1) (0 : Int32).toNatClampNeg (0 : Int32).toNatClampNeg (4 : Int32).toNatClampNeg)) 2 (va_cpy (σ2 2) (σ1 2) (0 : Int32).toNatClampNeg (0 : Int32).toNatClampNeg (8 : Int32).toNatClampNeg)) 3 (va_cpy (σ2 3) (σ1 3) (0 : Int32).toNatClampNeg (0 : Int32).toNatClampNeg (8 : Int32).toNatClampNeg)) 4 (va_cpy (σ2 4) (σ1 4) (0 : Int32).toNatClampNeg (0 : Int32).toNatClampNeg (8 : Int32).toNatClampNeg)) 5 (va_cpy (σ2 5) (σ1 5) (0 : Int32).toNatClampNeg (0 : Int32).toNatClampNeg (8 : Int32).toNatClampNeg)) 6 (va_cpy (σ2 6) (σ1 6) (0 : Int32).toNatClampNeg (0 : Int32).toNatClampNeg (8 : Int32).toNatClampNeg)) 7 (va_cpy (σ2 7) (σ1 7) (0 : Int32).toNatClampNeg (0 : Int32).toNatClampNeg (8 : Int32).toNatClampNeg)) ++ wS cI h2 σ2) H locs := by rw [← wSS_a7]; exact ⟨hP, hD, hS⟩
  refine lv_aload_n hx hb dX5_copyFrom_108 rfl (lv_at hl 1 rfl) ?_
  refine ig S hK Y fX5_35 10 rfl (v := .ref (h2 8)) rfl dX5_copyFrom_109 ?_
  refine lv_iconst (v := (0 : Int32)) hx hb dX5_copyFrom_112 (by decide) ?_
  refine lv_aload_n hx hb dX5_copyFrom_113 rfl (lv_at hl 0 rfl) ?_
  refine ig S hK Y fX5_35 0 rfl (v := .ref (h1 8)) rfl dX5_copyFrom_114 ?_
  refine lv_iconst (v := (0 : Int32)) hx hb dX5_copyFrom_117 (by decide) ?_
  refine lv_bipush (v := (16 : Int32)) hx hb dX5_copyFrom_118 (by decide) ?_
  refine va_copyi hx hb (S.2.2.1.trans hl.1.symm) S.2.2.2.1 (S.2.2.2.2 _ (List.mem_cons_of_mem _ (uw_in 179 rfl rfl))) (S.2.2.2.2 _ (List.mem_cons_of_mem _ (uw_in 181 rfl rfl))) (S.2.2.2.2 _ (List.mem_cons_of_mem _ (uw_in 180 rfl rfl))) (S.2.2.2.2 _ (List.mem_cons_of_mem _ (uw_in 7 rfl rfl))) hK Y.1 Y.2.1 Y.2.2 18 8 0 0 (f := σ2 8) (g := σ1 8) rfl rfl rfl rfl rfl (by decide) (by decide) (by decide) (by decide) (by decide) (fun _ _ => rfl) (Nat.le_of_ble_eq_true rfl) (Nat.le_of_ble_eq_true rfl) dX5_copyFrom_120 (fun H locs hP hD hS => ?_)
  have Y : dy_ D A s (wS cI h1 (sg_a (sg_a (sg_a (sg_a (sg_a (sg_a (sg_a (sg_a σ1 1 (va_cpy (σ2 1) (σ1 1) (0 : Int32).toNatClampNeg (0 : Int32).toNatClampNeg (4 : Int32).toNatClampNeg)) 2 (va_cpy (σ2 2) (σ1 2) (0 : Int32).toNatClampNeg (0 : Int32).toNatClampNeg (8 : Int32).toNatClampNeg)) 3 (va_cpy (σ2 3) (σ1 3) (0 : Int32).toNatClampNeg (0 : Int32).toNatClampNeg (8 : Int32).toNatClampNeg)) 4 (va_cpy (σ2 4) (σ1 4) (0 : Int32).toNatClampNeg (0 : Int32).toNatClampNeg (8 : Int32).toNatClampNeg)) 5 (va_cpy (σ2 5) (σ1 5) (0 : Int32).toNatClampNeg (0 : Int32).toNatClampNeg (8 : Int32).toNatClampNeg)) 6 (va_cpy (σ2 6) (σ1 6) (0 : Int32).toNatClampNeg (0 : Int32).toNatClampNeg (8 : Int32).toNatClampNeg)) 7 (va_cpy (σ2 7) (σ1 7) (0 : Int32).toNatClampNeg (0 : Int32).toNatClampNeg (8 : Int32).toNatClampNeg)) 8 (va_cpy (σ2 8) (σ1 8) (0 : Int32).toNatClampNeg (0 : Int32).toNatClampNeg (16 : Int32).toNatClampNeg)) ++ wS cI h2 σ2) H locs := by rw [← wSS_a8]; exact ⟨hP, hD, hS⟩
  refine lv_aload_n hx hb dX5_copyFrom_123 rfl (lv_at hl 1 rfl) ?_
  refine ig S hK Y fX5_38 10 rfl (v := .ref (h2 9)) rfl dX5_copyFrom_124 ?_
  refine lv_iconst (v := (0 : Int32)) hx hb dX5_copyFrom_127 (by decide) ?_
  refine lv_aload_n hx hb dX5_copyFrom_128 rfl (lv_at hl 0 rfl) ?_
  refine ig S hK Y fX5_38 0 rfl (v := .ref (h1 9)) rfl dX5_copyFrom_129 ?_
  refine lv_iconst (v := (0 : Int32)) hx hb dX5_copyFrom_132 (by decide) ?_
  refine lv_bipush (v := (16 : Int32)) hx hb dX5_copyFrom_133 (by decide) ?_
  refine va_copyi hx hb (S.2.2.1.trans hl.1.symm) S.2.2.2.1 (S.2.2.2.2 _ (List.mem_cons_of_mem _ (uw_in 179 rfl rfl))) (S.2.2.2.2 _ (List.mem_cons_of_mem _ (uw_in 181 rfl rfl))) (S.2.2.2.2 _ (List.mem_cons_of_mem _ (uw_in 180 rfl rfl))) (S.2.2.2.2 _ (List.mem_cons_of_mem _ (uw_in 7 rfl rfl))) hK Y.1 Y.2.1 Y.2.2 19 9 0 0 (f := σ2 9) (g := σ1 9) rfl rfl rfl rfl rfl (by decide) (by decide) (by decide) (by decide) (by decide) (fun _ _ => rfl) (Nat.le_of_ble_eq_true rfl) (Nat.le_of_ble_eq_true rfl) dX5_copyFrom_135 (fun H locs hP hD hS => ?_)
  have Y : dy_ D A s (wS cI h1 (sg_a (sg_a (sg_a (sg_a (sg_a (sg_a (sg_a (sg_a (sg_a σ1 1 (va_cpy (σ2 1) (σ1 1) (0 : Int32).toNatClampNeg (0 : Int32).toNatClampNeg (4 : Int32).toNatClampNeg)) 2 (va_cpy (σ2 2) (σ1 2) (0 : Int32).toNatClampNeg (0 : Int32).toNatClampNeg (8 : Int32).toNatClampNeg)) 3 (va_cpy (σ2 3) (σ1 3) (0 : Int32).toNatClampNeg (0 : Int32).toNatClampNeg (8 : Int32).toNatClampNeg)) 4 (va_cpy (σ2 4) (σ1 4) (0 : Int32).toNatClampNeg (0 : Int32).toNatClampNeg (8 : Int32).toNatClampNeg)) 5 (va_cpy (σ2 5) (σ1 5) (0 : Int32).toNatClampNeg (0 : Int32).toNatClampNeg (8 : Int32).toNatClampNeg)) 6 (va_cpy (σ2 6) (σ1 6) (0 : Int32).toNatClampNeg (0 : Int32).toNatClampNeg (8 : Int32).toNatClampNeg)) 7 (va_cpy (σ2 7) (σ1 7) (0 : Int32).toNatClampNeg (0 : Int32).toNatClampNeg (8 : Int32).toNatClampNeg)) 8 (va_cpy (σ2 8) (σ1 8) (0 : Int32).toNatClampNeg (0 : Int32).toNatClampNeg (16 : Int32).toNatClampNeg)) 9 (va_cpy (σ2 9) (σ1 9) (0 : Int32).toNatClampNeg (0 : Int32).toNatClampNeg (16 : Int32).toNatClampNeg)) ++ wS cI h2 σ2) H locs := by rw [← wSS_a9]; exact ⟨hP, hD, hS⟩
  refine lv_aload_n hx hb dX5_copyFrom_138 rfl (lv_at hl 0 rfl) ?_
  refine lv_aload_n hx hb dX5_copyFrom_139 rfl (lv_at hl 1 rfl) ?_
  refine ig S hK Y fX5_41 10 rfl (v := .int (σ2 0 0)) rfl dX5_copyFrom_140 ?_
  refine ip S hK Y fX5_41 fpX5 rfl 0 (fs := vS h1 (σ1 0)) rfl rfl rfl (Nat.le_of_ble_eq_true rfl) (ws' := (wS cI h1 (sg_a (sg_a (sg_a (sg_a (sg_a (sg_a (sg_a (sg_a (sg_a (sg_a σ1 1 (va_cpy (σ2 1) (σ1 1) (0 : Int32).toNatClampNeg (0 : Int32).toNatClampNeg (4 : Int32).toNatClampNeg)) 2 (va_cpy (σ2 2) (σ1 2) (0 : Int32).toNatClampNeg (0 : Int32).toNatClampNeg (8 : Int32).toNatClampNeg)) 3 (va_cpy (σ2 3) (σ1 3) (0 : Int32).toNatClampNeg (0 : Int32).toNatClampNeg (8 : Int32).toNatClampNeg)) 4 (va_cpy (σ2 4) (σ1 4) (0 : Int32).toNatClampNeg (0 : Int32).toNatClampNeg (8 : Int32).toNatClampNeg)) 5 (va_cpy (σ2 5) (σ1 5) (0 : Int32).toNatClampNeg (0 : Int32).toNatClampNeg (8 : Int32).toNatClampNeg)) 6 (va_cpy (σ2 6) (σ1 6) (0 : Int32).toNatClampNeg (0 : Int32).toNatClampNeg (8 : Int32).toNatClampNeg)) 7 (va_cpy (σ2 7) (σ1 7) (0 : Int32).toNatClampNeg (0 : Int32).toNatClampNeg (8 : Int32).toNatClampNeg)) 8 (va_cpy (σ2 8) (σ1 8) (0 : Int32).toNatClampNeg (0 : Int32).toNatClampNeg (16 : Int32).toNatClampNeg)) 9 (va_cpy (σ2 9) (σ1 9) (0 : Int32).toNatClampNeg (0 : Int32).toNatClampNeg (16 : Int32).toNatClampNeg)) 0 (sg_u (σ1 0) 0 (σ2 0 0))) ++ wS cI h2 σ2)) (wSS_f0 _ _ _ _ _) dX5_copyFrom_143 (fun H locs Y => ?_)
  refine lv_aload_n hx hb dX5_copyFrom_146 rfl (lv_at hl 0 rfl) ?_
  refine lv_aload_n hx hb dX5_copyFrom_147 rfl (lv_at hl 1 rfl) ?_
  refine ig S hK Y fX5_45 10 rfl (v := .int (σ2 0 1)) rfl dX5_copyFrom_148 ?_
  refine ip S hK Y fX5_45 fpX5 rfl 0 (fs := vS h1 (sg_u (σ1 0) 0 (σ2 0 0))) rfl rfl rfl (Nat.le_of_ble_eq_true rfl) (ws' := (wS cI h1 (sg_a (sg_a (sg_a (sg_a (sg_a (sg_a (sg_a (sg_a (sg_a (sg_a (sg_a σ1 1 (va_cpy (σ2 1) (σ1 1) (0 : Int32).toNatClampNeg (0 : Int32).toNatClampNeg (4 : Int32).toNatClampNeg)) 2 (va_cpy (σ2 2) (σ1 2) (0 : Int32).toNatClampNeg (0 : Int32).toNatClampNeg (8 : Int32).toNatClampNeg)) 3 (va_cpy (σ2 3) (σ1 3) (0 : Int32).toNatClampNeg (0 : Int32).toNatClampNeg (8 : Int32).toNatClampNeg)) 4 (va_cpy (σ2 4) (σ1 4) (0 : Int32).toNatClampNeg (0 : Int32).toNatClampNeg (8 : Int32).toNatClampNeg)) 5 (va_cpy (σ2 5) (σ1 5) (0 : Int32).toNatClampNeg (0 : Int32).toNatClampNeg (8 : Int32).toNatClampNeg)) 6 (va_cpy (σ2 6) (σ1 6) (0 : Int32).toNatClampNeg (0 : Int32).toNatClampNeg (8 : Int32).toNatClampNeg)) 7 (va_cpy (σ2 7) (σ1 7) (0 : Int32).toNatClampNeg (0 : Int32).toNatClampNeg (8 : Int32).toNatClampNeg)) 8 (va_cpy (σ2 8) (σ1 8) (0 : Int32).toNatClampNeg (0 : Int32).toNatClampNeg (16 : Int32).toNatClampNeg)) 9 (va_cpy (σ2 9) (σ1 9) (0 : Int32).toNatClampNeg (0 : Int32).toNatClampNeg (16 : Int32).toNatClampNeg)) 0 (sg_u (σ1 0) 0 (σ2 0 0))) 0 (sg_u (sg_u (σ1 0) 0 (σ2 0 0)) 1 (σ2 0 1))) ++ wS cI h2 σ2)) (wSS_f1 _ _ _ _ _) dX5_copyFrom_151 (fun H locs Y => ?_)
  refine lv_aload_n hx hb dX5_copyFrom_154 rfl (lv_at hl 0 rfl) ?_
  refine lv_aload_n hx hb dX5_copyFrom_155 rfl (lv_at hl 1 rfl) ?_
  refine ig S hK Y fX5_48 10 rfl (v := .int (σ2 0 2)) rfl dX5_copyFrom_156 ?_
  refine ip S hK Y fX5_48 fpX5 rfl 0 (fs := vS h1 (sg_u (sg_u (σ1 0) 0 (σ2 0 0)) 1 (σ2 0 1))) rfl rfl rfl (Nat.le_of_ble_eq_true rfl) (ws' := (wS cI h1 (sg_a (sg_a (sg_a (sg_a (sg_a (sg_a (sg_a (sg_a (sg_a (sg_a (sg_a (sg_a σ1 1 (va_cpy (σ2 1) (σ1 1) (0 : Int32).toNatClampNeg (0 : Int32).toNatClampNeg (4 : Int32).toNatClampNeg)) 2 (va_cpy (σ2 2) (σ1 2) (0 : Int32).toNatClampNeg (0 : Int32).toNatClampNeg (8 : Int32).toNatClampNeg)) 3 (va_cpy (σ2 3) (σ1 3) (0 : Int32).toNatClampNeg (0 : Int32).toNatClampNeg (8 : Int32).toNatClampNeg)) 4 (va_cpy (σ2 4) (σ1 4) (0 : Int32).toNatClampNeg (0 : Int32).toNatClampNeg (8 : Int32).toNatClampNeg)) 5 (va_cpy (σ2 5) (σ1 5) (0 : Int32).toNatClampNeg (0 : Int32).toNatClampNeg (8 : Int32).toNatClampNeg)) 6 (va_cpy (σ2 6) (σ1 6) (0 : Int32).toNatClampNeg (0 : Int32).toNatClampNeg (8 : Int32).toNatClampNeg)) 7 (va_cpy (σ2 7) (σ1 7) (0 : Int32).toNatClampNeg (0 : Int32).toNatClampNeg (8 : Int32).toNatClampNeg)) 8 (va_cpy (σ2 8) (σ1 8) (0 : Int32).toNatClampNeg (0 : Int32).toNatClampNeg (16 : Int32).toNatClampNeg)) 9 (va_cpy (σ2 9) (σ1 9) (0 : Int32).toNatClampNeg (0 : Int32).toNatClampNeg (16 : Int32).toNatClampNeg)) 0 (sg_u (σ1 0) 0 (σ2 0 0))) 0 (sg_u (sg_u (σ1 0) 0 (σ2 0 0)) 1 (σ2 0 1))) 0 (sg_u (sg_u (sg_u (σ1 0) 0 (σ2 0 0)) 1 (σ2 0 1)) 2 (σ2 0 2))) ++ wS cI h2 σ2)) (wSS_f2 _ _ _ _ _) dX5_copyFrom_159 (fun H locs Y => ?_)
  refine lv_aload_n hx hb dX5_copyFrom_162 rfl (lv_at hl 0 rfl) ?_
  refine lv_aload_n hx hb dX5_copyFrom_163 rfl (lv_at hl 1 rfl) ?_
  refine ig S hK Y fX5_51 10 rfl (v := .int (σ2 0 3)) rfl dX5_copyFrom_164 ?_
  refine ip S hK Y fX5_51 fpX5 rfl 0 (fs := vS h1 (sg_u (sg_u (sg_u (σ1 0) 0 (σ2 0 0)) 1 (σ2 0 1)) 2 (σ2 0 2))) rfl rfl rfl (Nat.le_of_ble_eq_true rfl) (ws' := (wS cI h1 (sg_a (sg_a (sg_a (sg_a (sg_a (sg_a (sg_a (sg_a (sg_a (sg_a (sg_a (sg_a (sg_a σ1 1 (va_cpy (σ2 1) (σ1 1) (0 : Int32).toNatClampNeg (0 : Int32).toNatClampNeg (4 : Int32).toNatClampNeg)) 2 (va_cpy (σ2 2) (σ1 2) (0 : Int32).toNatClampNeg (0 : Int32).toNatClampNeg (8 : Int32).toNatClampNeg)) 3 (va_cpy (σ2 3) (σ1 3) (0 : Int32).toNatClampNeg (0 : Int32).toNatClampNeg (8 : Int32).toNatClampNeg)) 4 (va_cpy (σ2 4) (σ1 4) (0 : Int32).toNatClampNeg (0 : Int32).toNatClampNeg (8 : Int32).toNatClampNeg)) 5 (va_cpy (σ2 5) (σ1 5) (0 : Int32).toNatClampNeg (0 : Int32).toNatClampNeg (8 : Int32).toNatClampNeg)) 6 (va_cpy (σ2 6) (σ1 6) (0 : Int32).toNatClampNeg (0 : Int32).toNatClampNeg (8 : Int32).toNatClampNeg)) 7 (va_cpy (σ2 7) (σ1 7) (0 : Int32).toNatClampNeg (0 : Int32).toNatClampNeg (8 : Int32).toNatClampNeg)) 8 (va_cpy (σ2 8) (σ1 8) (0 : Int32).toNatClampNeg (0 : Int32).toNatClampNeg (16 : Int32).toNatClampNeg)) 9 (va_cpy (σ2 9) (σ1 9) (0 : Int32).toNatClampNeg (0 : Int32).toNatClampNeg (16 : Int32).toNatClampNeg)) 0 (sg_u (σ1 0) 0 (σ2 0 0))) 0 (sg_u (sg_u (σ1 0) 0 (σ2 0 0)) 1 (σ2 0 1))) 0 (sg_u (sg_u (sg_u (σ1 0) 0 (σ2 0 0)) 1 (σ2 0 1)) 2 (σ2 0 2))) 0 (sg_u (sg_u (sg_u (sg_u (σ1 0) 0 (σ2 0 0)) 1 (σ2 0 1)) 2 (σ2 0 2)) 3 (σ2 0 3))) ++ wS cI h2 σ2)) (wSS_f3 _ _ _ _ _) dX5_copyFrom_167 (fun H locs Y => ?_)
  refine lv_aload_n hx hb dX5_copyFrom_170 rfl (lv_at hl 0 rfl) ?_
  refine lv_aload_n hx hb dX5_copyFrom_171 rfl (lv_at hl 1 rfl) ?_
  refine ig S hK Y fX5_54 10 rfl (v := .int (σ2 0 4)) rfl dX5_copyFrom_172 ?_
  refine ip S hK Y fX5_54 fpX5 rfl 0 (fs := vS h1 (sg_u (sg_u (sg_u (sg_u (σ1 0) 0 (σ2 0 0)) 1 (σ2 0 1)) 2 (σ2 0 2)) 3 (σ2 0 3))) rfl rfl rfl (Nat.le_of_ble_eq_true rfl) (ws' := (wS cI h1 (sg_a (sg_a (sg_a (sg_a (sg_a (sg_a (sg_a (sg_a (sg_a (sg_a (sg_a (sg_a (sg_a (sg_a σ1 1 (va_cpy (σ2 1) (σ1 1) (0 : Int32).toNatClampNeg (0 : Int32).toNatClampNeg (4 : Int32).toNatClampNeg)) 2 (va_cpy (σ2 2) (σ1 2) (0 : Int32).toNatClampNeg (0 : Int32).toNatClampNeg (8 : Int32).toNatClampNeg)) 3 (va_cpy (σ2 3) (σ1 3) (0 : Int32).toNatClampNeg (0 : Int32).toNatClampNeg (8 : Int32).toNatClampNeg)) 4 (va_cpy (σ2 4) (σ1 4) (0 : Int32).toNatClampNeg (0 : Int32).toNatClampNeg (8 : Int32).toNatClampNeg)) 5 (va_cpy (σ2 5) (σ1 5) (0 : Int32).toNatClampNeg (0 : Int32).toNatClampNeg (8 : Int32).toNatClampNeg)) 6 (va_cpy (σ2 6) (σ1 6) (0 : Int32).toNatClampNeg (0 : Int32).toNatClampNeg (8 : Int32).toNatClampNeg)) 7 (va_cpy (σ2 7) (σ1 7) (0 : Int32).toNatClampNeg (0 : Int32).toNatClampNeg (8 : Int32).toNatClampNeg)) 8 (va_cpy (σ2 8) (σ1 8) (0 : Int32).toNatClampNeg (0 : Int32).toNatClampNeg (16 : Int32).toNatClampNeg)) 9 (va_cpy (σ2 9) (σ1 9) (0 : Int32).toNatClampNeg (0 : Int32).toNatClampNeg (16 : Int32).toNatClampNeg)) 0 (sg_u (σ1 0) 0 (σ2 0 0))) 0 (sg_u (sg_u (σ1 0) 0 (σ2 0 0)) 1 (σ2 0 1))) 0 (sg_u (sg_u (sg_u (σ1 0) 0 (σ2 0 0)) 1 (σ2 0 1)) 2 (σ2 0 2))) 0 (sg_u (sg_u (sg_u (sg_u (σ1 0) 0 (σ2 0 0)) 1 (σ2 0 1)) 2 (σ2 0 2)) 3 (σ2 0 3))) 0 (sg_u (sg_u (sg_u (sg_u (sg_u (σ1 0) 0 (σ2 0 0)) 1 (σ2 0 1)) 2 (σ2 0 2)) 3 (σ2 0 3)) 4 (σ2 0 4))) ++ wS cI h2 σ2)) (wSS_f4 _ _ _ _ _) dX5_copyFrom_175 (fun H locs Y => ?_)
  refine lv_aload_n hx hb dX5_copyFrom_178 rfl (lv_at hl 0 rfl) ?_
  refine lv_aload_n hx hb dX5_copyFrom_179 rfl (lv_at hl 1 rfl) ?_
  refine ig S hK Y fX5_57 10 rfl (v := .int (σ2 0 5)) rfl dX5_copyFrom_180 ?_
  refine ip S hK Y fX5_57 fpX5 rfl 0 (fs := vS h1 (sg_u (sg_u (sg_u (sg_u (sg_u (σ1 0) 0 (σ2 0 0)) 1 (σ2 0 1)) 2 (σ2 0 2)) 3 (σ2 0 3)) 4 (σ2 0 4))) rfl rfl rfl (Nat.le_of_ble_eq_true rfl) (ws' := (wS cI h1 (sg_a (sg_a (sg_a (sg_a (sg_a (sg_a (sg_a (sg_a (sg_a (sg_a (sg_a (sg_a (sg_a (sg_a (sg_a σ1 1 (va_cpy (σ2 1) (σ1 1) (0 : Int32).toNatClampNeg (0 : Int32).toNatClampNeg (4 : Int32).toNatClampNeg)) 2 (va_cpy (σ2 2) (σ1 2) (0 : Int32).toNatClampNeg (0 : Int32).toNatClampNeg (8 : Int32).toNatClampNeg)) 3 (va_cpy (σ2 3) (σ1 3) (0 : Int32).toNatClampNeg (0 : Int32).toNatClampNeg (8 : Int32).toNatClampNeg)) 4 (va_cpy (σ2 4) (σ1 4) (0 : Int32).toNatClampNeg (0 : Int32).toNatClampNeg (8 : Int32).toNatClampNeg)) 5 (va_cpy (σ2 5) (σ1 5) (0 : Int32).toNatClampNeg (0 : Int32).toNatClampNeg (8 : Int32).toNatClampNeg)) 6 (va_cpy (σ2 6) (σ1 6) (0 : Int32).toNatClampNeg (0 : Int32).toNatClampNeg (8 : Int32).toNatClampNeg)) 7 (va_cpy (σ2 7) (σ1 7) (0 : Int32).toNatClampNeg (0 : Int32).toNatClampNeg (8 : Int32).toNatClampNeg)) 8 (va_cpy (σ2 8) (σ1 8) (0 : Int32).toNatClampNeg (0 : Int32).toNatClampNeg (16 : Int32).toNatClampNeg)) 9 (va_cpy (σ2 9) (σ1 9) (0 : Int32).toNatClampNeg (0 : Int32).toNatClampNeg (16 : Int32).toNatClampNeg)) 0 (sg_u (σ1 0) 0 (σ2 0 0))) 0 (sg_u (sg_u (σ1 0) 0 (σ2 0 0)) 1 (σ2 0 1))) 0 (sg_u (sg_u (sg_u (σ1 0) 0 (σ2 0 0)) 1 (σ2 0 1)) 2 (σ2 0 2))) 0 (sg_u (sg_u (sg_u (sg_u (σ1 0) 0 (σ2 0 0)) 1 (σ2 0 1)) 2 (σ2 0 2)) 3 (σ2 0 3))) 0 (sg_u (sg_u (sg_u (sg_u (sg_u (σ1 0) 0 (σ2 0 0)) 1 (σ2 0 1)) 2 (σ2 0 2)) 3 (σ2 0 3)) 4 (σ2 0 4))) 0 (sg_u (sg_u (sg_u (sg_u (sg_u (sg_u (σ1 0) 0 (σ2 0 0)) 1 (σ2 0 1)) 2 (σ2 0 2)) 3 (σ2 0 3)) 4 (σ2 0 4)) 5 (σ2 0 5))) ++ wS cI h2 σ2)) (wSS_f5 _ _ _ _ _) dX5_copyFrom_183 (fun H locs Y => ?_)
  refine lv_aload_n hx hb dX5_copyFrom_186 rfl (lv_at hl 0 rfl) ?_
  refine lv_aload_n hx hb dX5_copyFrom_187 rfl (lv_at hl 1 rfl) ?_
  refine ig S hK Y fX5_60 10 rfl (v := .int (σ2 0 6)) rfl dX5_copyFrom_188 ?_
  refine ip S hK Y fX5_60 fpX5 rfl 0 (fs := vS h1 (sg_u (sg_u (sg_u (sg_u (sg_u (sg_u (σ1 0) 0 (σ2 0 0)) 1 (σ2 0 1)) 2 (σ2 0 2)) 3 (σ2 0 3)) 4 (σ2 0 4)) 5 (σ2 0 5))) rfl rfl rfl (Nat.le_of_ble_eq_true rfl) (ws' := (wS cI h1 (sg_a (sg_a (sg_a (sg_a (sg_a (sg_a (sg_a (sg_a (sg_a (sg_a (sg_a (sg_a (sg_a (sg_a (sg_a (sg_a σ1 1 (va_cpy (σ2 1) (σ1 1) (0 : Int32).toNatClampNeg (0 : Int32).toNatClampNeg (4 : Int32).toNatClampNeg)) 2 (va_cpy (σ2 2) (σ1 2) (0 : Int32).toNatClampNeg (0 : Int32).toNatClampNeg (8 : Int32).toNatClampNeg)) 3 (va_cpy (σ2 3) (σ1 3) (0 : Int32).toNatClampNeg (0 : Int32).toNatClampNeg (8 : Int32).toNatClampNeg)) 4 (va_cpy (σ2 4) (σ1 4) (0 : Int32).toNatClampNeg (0 : Int32).toNatClampNeg (8 : Int32).toNatClampNeg)) 5 (va_cpy (σ2 5) (σ1 5) (0 : Int32).toNatClampNeg (0 : Int32).toNatClampNeg (8 : Int32).toNatClampNeg)) 6 (va_cpy (σ2 6) (σ1 6) (0 : Int32).toNatClampNeg (0 : Int32).toNatClampNeg (8 : Int32).toNatClampNeg)) 7 (va_cpy (σ2 7) (σ1 7) (0 : Int32).toNatClampNeg (0 : Int32).toNatClampNeg (8 : Int32).toNatClampNeg)) 8 (va_cpy (σ2 8) (σ1 8) (0 : Int32).toNatClampNeg (0 : Int32).toNatClampNeg (16 : Int32).toNatClampNeg)) 9 (va_cpy (σ2 9) (σ1 9) (0 : Int32).toNatClampNeg (0 : Int32).toNatClampNeg (16 : Int32).toNatClampNeg)) 0 (sg_u (σ1 0) 0 (σ2 0 0))) 0 (sg_u (sg_u (σ1 0) 0 (σ2 0 0)) 1 (σ2 0 1))) 0 (sg_u (sg_u (sg_u (σ1 0) 0 (σ2 0 0)) 1 (σ2 0 1)) 2 (σ2 0 2))) 0 (sg_u (sg_u (sg_u (sg_u (σ1 0) 0 (σ2 0 0)) 1 (σ2 0 1)) 2 (σ2 0 2)) 3 (σ2 0 3))) 0 (sg_u (sg_u (sg_u (sg_u (sg_u (σ1 0) 0 (σ2 0 0)) 1 (σ2 0 1)) 2 (σ2 0 2)) 3 (σ2 0 3)) 4 (σ2 0 4))) 0 (sg_u (sg_u (sg_u (sg_u (sg_u (sg_u (σ1 0) 0 (σ2 0 0)) 1 (σ2 0 1)) 2 (σ2 0 2)) 3 (σ2 0 3)) 4 (σ2 0 4)) 5 (σ2 0 5))) 0 (sg_u (sg_u (sg_u (sg_u (sg_u (sg_u (sg_u (σ1 0) 0 (σ2 0 0)) 1 (σ2 0 1)) 2 (σ2 0 2)) 3 (σ2 0 3)) 4 (σ2 0 4)) 5 (σ2 0 5)) 6 (σ2 0 6))) ++ wS cI h2 σ2)) (wSS_f6 _ _ _ _ _) dX5_copyFrom_191 (fun H locs Y => ?_)
  have Y : dy_ D A s (wS cI h1 σ2 ++ wS cI h2 σ2) H locs := wSS_cg (σ := (sg_a (sg_a (sg_a (sg_a (sg_a (sg_a (sg_a (sg_a (sg_a (sg_a (sg_a (sg_a (sg_a (sg_a (sg_a (sg_a σ1 1 (va_cpy (σ2 1) (σ1 1) (0 : Int32).toNatClampNeg (0 : Int32).toNatClampNeg (4 : Int32).toNatClampNeg)) 2 (va_cpy (σ2 2) (σ1 2) (0 : Int32).toNatClampNeg (0 : Int32).toNatClampNeg (8 : Int32).toNatClampNeg)) 3 (va_cpy (σ2 3) (σ1 3) (0 : Int32).toNatClampNeg (0 : Int32).toNatClampNeg (8 : Int32).toNatClampNeg)) 4 (va_cpy (σ2 4) (σ1 4) (0 : Int32).toNatClampNeg (0 : Int32).toNatClampNeg (8 : Int32).toNatClampNeg)) 5 (va_cpy (σ2 5) (σ1 5) (0 : Int32).toNatClampNeg (0 : Int32).toNatClampNeg (8 : Int32).toNatClampNeg)) 6 (va_cpy (σ2 6) (σ1 6) (0 : Int32).toNatClampNeg (0 : Int32).toNatClampNeg (8 : Int32).toNatClampNeg)) 7 (va_cpy (σ2 7) (σ1 7) (0 : Int32).toNatClampNeg (0 : Int32).toNatClampNeg (8 : Int32).toNatClampNeg)) 8 (va_cpy (σ2 8) (σ1 8) (0 : Int32).toNatClampNeg (0 : Int32).toNatClampNeg (16 : Int32).toNatClampNeg)) 9 (va_cpy (σ2 9) (σ1 9) (0 : Int32).toNatClampNeg (0 : Int32).toNatClampNeg (16 : Int32).toNatClampNeg)) 0 (sg_u (σ1 0) 0 (σ2 0 0))) 0 (sg_u (sg_u (σ1 0) 0 (σ2 0 0)) 1 (σ2 0 1))) 0 (sg_u (sg_u (sg_u (σ1 0) 0 (σ2 0 0)) 1 (σ2 0 1)) 2 (σ2 0 2))) 0 (sg_u (sg_u (sg_u (sg_u (σ1 0) 0 (σ2 0 0)) 1 (σ2 0 1)) 2 (σ2 0 2)) 3 (σ2 0 3))) 0 (sg_u (sg_u (sg_u (sg_u (sg_u (σ1 0) 0 (σ2 0 0)) 1 (σ2 0 1)) 2 (σ2 0 2)) 3 (σ2 0 3)) 4 (σ2 0 4))) 0 (sg_u (sg_u (sg_u (sg_u (sg_u (sg_u (σ1 0) 0 (σ2 0 0)) 1 (σ2 0 1)) 2 (σ2 0 2)) 3 (σ2 0 3)) 4 (σ2 0 4)) 5 (σ2 0 5))) 0 (sg_u (sg_u (sg_u (sg_u (sg_u (sg_u (sg_u (σ1 0) 0 (σ2 0 0)) 1 (σ2 0 1)) 2 (σ2 0 2)) 3 (σ2 0 3)) 4 (σ2 0 4)) 5 (σ2 0 5)) 6 (σ2 0 6)))) rfl (fun k hk => (cpy_lt hk : va_cpy (σ2 1) (σ1 1) 0 0 4 k = σ2 1 k)) (fun k hk => (cpy_lt hk : va_cpy (σ2 2) (σ1 2) 0 0 8 k = σ2 2 k)) (fun k hk => (cpy_lt hk : va_cpy (σ2 3) (σ1 3) 0 0 8 k = σ2 3 k)) (fun k hk => (cpy_lt hk : va_cpy (σ2 4) (σ1 4) 0 0 8 k = σ2 4 k)) (fun k hk => (cpy_lt hk : va_cpy (σ2 5) (σ1 5) 0 0 8 k = σ2 5 k)) (fun k hk => (cpy_lt hk : va_cpy (σ2 6) (σ1 6) 0 0 8 k = σ2 6 k)) (fun k hk => (cpy_lt hk : va_cpy (σ2 7) (σ1 7) 0 0 8 k = σ2 7 k)) (fun k hk => (cpy_lt hk : va_cpy (σ2 8) (σ1 8) 0 0 16 k = σ2 8 k)) (fun k hk => (cpy_lt hk : va_cpy (σ2 9) (σ1 9) 0 0 16 k = σ2 9 k)) Y
  exact me_rv S hK Y hr hlk dX5_copyFrom_194
end
section
def iNC : List Nat := [5, 6, 7, 8, 9, 10, 11, 12, 13, 14]
def iNR : List Nat := [0, 1, 2, 3, 4, 15, 16, 17, 18, 19, 20, 21, 22, 23, 24, 25, 26, 27, 28, 29, 30, 31, 32, 33, 34, 35, 36, 37, 38, 39, 40, 41, 42, 43, 44, 45, 46, 47, 48, 49, 50, 51, 52, 53, 54, 55, 56, 57, 58, 59, 60, 61, 62, 63, 64, 65, 66, 67, 68, 69, 70, 71, 72, 73, 74, 75, 76, 77, 78, 79, 80, 81, 82, 83, 84]
def iNP : List Nat := [0, 1, 2, 3, 4, 75, 76, 77, 78, 79, 80, 81, 82, 83, 84, 5, 6, 7, 8, 9, 10, 11, 12, 13, 14, 15, 16, 17, 18, 19, 20, 21, 22, 23, 24, 25, 26, 27, 28, 29, 30, 31, 32, 33, 34, 35, 36, 37, 38, 39, 40, 41, 42, 43, 44, 45, 46, 47, 48, 49, 50, 51, 52, 53, 54, 55, 56, 57, 58, 59, 60, 61, 62, 63, 64, 65, 66, 67, 68, 69, 70, 71, 72, 73, 74]
def rN (cI cS : ClassId) (h : Nat → Nat → Nat) (Λ : s3_T) (f : Nat → Option Nat) : va_W := ((h 8 0, .inr (3, [.ref (h 0 0), .ref (h 1 0), .ref (h 8 1), .ref (h 9 0), .int (Λ 8 0 0)])) :: (h 8 1, .inr (1, [.ref (h 8 2), .int (Λ 8 0 1)])) :: (h 8 2, .inl (cS, 6, .inr (.inr (.inr (.inr f))))) :: (wT cI (h 9) (Λ 9) ++ (wS cI (h 1) (Λ 1) ++ (wS cI (h 2) (Λ 2) ++ (wS cI (h 3) (Λ 3) ++ (wS cI (h 4) (Λ 4) ++ (wS cI (h 5) (Λ 5) ++ (wS cI (h 6) (Λ 6) ++ wS cI (h 7) (Λ 7)))))))))
set_option maxRecDepth 20000 in
theorem cNC {cI cS : ClassId} (h : Nat → Nat → Nat) (Λ : s3_T) (f : Nat → Option Nat) : iNC.map (fun i => (wLr cI cS h Λ f)[i]?) = (wS cI (h 0) (Λ 0)).map some := rfl
set_option maxRecDepth 20000 in
theorem cNR {cI cS : ClassId} (h : Nat → Nat → Nat) (Λ : s3_T) (f : Nat → Option Nat) : iNR.map (fun i => (wLr cI cS h Λ f)[i]?) = (rN cI cS h Λ f).map some := rfl
set_option maxRecDepth 20000 in
theorem cNP {cI cS : ClassId} (h : Nat → Nat → Nat) (Λ : s3_T) (f : Nat → Option Nat) (σ' : sg_T) : iNP.map (fun i => (rN cI cS h Λ f ++ wS cI (h 0) σ')[i]?) = (wLr cI cS h (sg_3 Λ 0 σ') f).map some := rfl
theorem nNC : va_nd iNC = true := by decide +kernel
theorem nNR : va_nd iNR = true := by decide +kernel
theorem nNP : va_nd iNP = true := by decide +kernel
theorem dN_ : ∀ i ∈ iNR, i ∉ iNC := by decide +kernel
def iTC : List Nat := [3, 4]
def iTR : List Nat := [0, 1, 2, 5, 6, 7, 8, 9, 10, 11, 12, 13, 14, 15, 16, 17, 18, 19, 20, 21, 22, 23, 24, 25, 26, 27, 28, 29, 30, 31, 32, 33, 34, 35, 36, 37, 38, 39, 40, 41, 42, 43, 44, 45, 46, 47, 48, 49, 50, 51, 52, 53, 54, 55, 56, 57, 58, 59, 60, 61, 62, 63, 64, 65, 66, 67, 68, 69, 70, 71, 72, 73, 74, 75, 76, 77, 78, 79, 80, 81, 82, 83, 84]
def iTP : List Nat := [0, 1, 2, 83, 84, 3, 4, 5, 6, 7, 8, 9, 10, 11, 12, 13, 14, 15, 16, 17, 18, 19, 20, 21, 22, 23, 24, 25, 26, 27, 28, 29, 30, 31, 32, 33, 34, 35, 36, 37, 38, 39, 40, 41, 42, 43, 44, 45, 46, 47, 48, 49, 50, 51, 52, 53, 54, 55, 56, 57, 58, 59, 60, 61, 62, 63, 64, 65, 66, 67, 68, 69, 70, 71, 72, 73, 74, 75, 76, 77, 78, 79, 80, 81, 82]
def rT (cI cS : ClassId) (h : Nat → Nat → Nat) (Λ : s3_T) (f : Nat → Option Nat) : va_W := ((h 8 0, .inr (3, [.ref (h 0 0), .ref (h 1 0), .ref (h 8 1), .ref (h 9 0), .int (Λ 8 0 0)])) :: (h 8 1, .inr (1, [.ref (h 8 2), .int (Λ 8 0 1)])) :: (h 8 2, .inl (cS, 6, .inr (.inr (.inr (.inr f))))) :: (wS cI (h 0) (Λ 0) ++ (wS cI (h 1) (Λ 1) ++ (wS cI (h 2) (Λ 2) ++ (wS cI (h 3) (Λ 3) ++ (wS cI (h 4) (Λ 4) ++ (wS cI (h 5) (Λ 5) ++ (wS cI (h 6) (Λ 6) ++ wS cI (h 7) (Λ 7)))))))))
set_option maxRecDepth 20000 in
theorem cTC {cI cS : ClassId} (h : Nat → Nat → Nat) (Λ : s3_T) (f : Nat → Option Nat) : iTC.map (fun i => (wLr cI cS h Λ f)[i]?) = (wT cI (h 9) (Λ 9)).map some := rfl
set_option maxRecDepth 20000 in
theorem cTR {cI cS : ClassId} (h : Nat → Nat → Nat) (Λ : s3_T) (f : Nat → Option Nat) : iTR.map (fun i => (wLr cI cS h Λ f)[i]?) = (rT cI cS h Λ f).map some := rfl
set_option maxRecDepth 20000 in
theorem cTP {cI cS : ClassId} (h : Nat → Nat → Nat) (Λ : s3_T) (f : Nat → Option Nat) (σ' : sg_T) : iTP.map (fun i => (rT cI cS h Λ f ++ wT cI (h 9) σ')[i]?) = (wLr cI cS h (sg_3 Λ 9 σ') f).map some := rfl
theorem nTC : va_nd iTC = true := by decide +kernel
theorem nTR : va_nd iTR = true := by decide +kernel
theorem nTP : va_nd iTP = true := by decide +kernel
theorem dT_ : ∀ i ∈ iTR, i ∉ iTC := by decide +kernel
def ct_ (cI cS : ClassId) (h : Nat → Nat → Nat) (Λ : s3_T) (f : Nat → Option Nat) (i j : Nat) : Prop := ∃ (isC isR ps : List Nat) (wr : va_W), isC.map (fun k => (wLr cI cS h Λ f)[k]?) = (wS cI (h i) (Λ i) ++ wS cI (h j) (Λ j)).map some ∧ isR.map (fun k => (wLr cI cS h Λ f)[k]?) = wr.map some ∧ va_nd isC = true ∧ va_nd isR = true ∧ (∀ k ∈ isR, k ∉ isC) ∧ ps.map (fun k => (wr ++ (wS cI (h i) (Λ j) ++ wS cI (h j) (Λ j)))[k]?) = (wLr cI cS h (sg_3 Λ i (Λ j)) f).map some ∧ va_nd ps = true
set_option maxRecDepth 20000 in
theorem ct_1_0 (cI cS : ClassId) (h : Nat → Nat → Nat) (Λ : s3_T) (f : Nat → Option Nat) : ct_ cI cS h Λ f 1 0 := ⟨[15, 16, 17, 18, 19, 20, 21, 22, 23, 24, 5, 6, 7, 8, 9, 10, 11, 12, 13, 14], [0, 1, 2, 3, 4, 25, 26, 27, 28, 29, 30, 31, 32, 33, 34, 35, 36, 37, 38, 39, 40, 41, 42, 43, 44, 45, 46, 47, 48, 49, 50, 51, 52, 53, 54, 55, 56, 57, 58, 59, 60, 61, 62, 63, 64, 65, 66, 67, 68, 69, 70, 71, 72, 73, 74, 75, 76, 77, 78, 79, 80, 81, 82, 83, 84], [0, 1, 2, 3, 4, 75, 76, 77, 78, 79, 80, 81, 82, 83, 84, 65, 66, 67, 68, 69, 70, 71, 72, 73, 74, 5, 6, 7, 8, 9, 10, 11, 12, 13, 14, 15, 16, 17, 18, 19, 20, 21, 22, 23, 24, 25, 26, 27, 28, 29, 30, 31, 32, 33, 34, 35, 36, 37, 38, 39, 40, 41, 42, 43, 44, 45, 46, 47, 48, 49, 50, 51, 52, 53, 54, 55, 56, 57, 58, 59, 60, 61, 62, 63, 64], ((h 8 0, .inr (3, [.ref (h 0 0), .ref (h 1 0), .ref (h 8 1), .ref (h 9 0), .int (Λ 8 0 0)])) :: (h 8 1, .inr (1, [.ref (h 8 2), .int (Λ 8 0 1)])) :: (h 8 2, .inl (cS, 6, .inr (.inr (.inr (.inr f))))) :: (wT cI (h 9) (Λ 9) ++ (wS cI (h 2) (Λ 2) ++ (wS cI (h 3) (Λ 3) ++ (wS cI (h 4) (Λ 4) ++ (wS cI (h 5) (Λ 5) ++ (wS cI (h 6) (Λ 6) ++ wS cI (h 7) (Λ 7)))))))), rfl, rfl, by decide +kernel, by decide +kernel, by decide +kernel, rfl, by decide +kernel⟩
set_option maxRecDepth 20000 in
theorem ct_0_1 (cI cS : ClassId) (h : Nat → Nat → Nat) (Λ : s3_T) (f : Nat → Option Nat) : ct_ cI cS h Λ f 0 1 := ⟨[5, 6, 7, 8, 9, 10, 11, 12, 13, 14, 15, 16, 17, 18, 19, 20, 21, 22, 23, 24], [0, 1, 2, 3, 4, 25, 26, 27, 28, 29, 30, 31, 32, 33, 34, 35, 36, 37, 38, 39, 40, 41, 42, 43, 44, 45, 46, 47, 48, 49, 50, 51, 52, 53, 54, 55, 56, 57, 58, 59, 60, 61, 62, 63, 64, 65, 66, 67, 68, 69, 70, 71, 72, 73, 74, 75, 76, 77, 78, 79, 80, 81, 82, 83, 84], [0, 1, 2, 3, 4, 65, 66, 67, 68, 69, 70, 71, 72, 73, 74, 75, 76, 77, 78, 79, 80, 81, 82, 83, 84, 5, 6, 7, 8, 9, 10, 11, 12, 13, 14, 15, 16, 17, 18, 19, 20, 21, 22, 23, 24, 25, 26, 27, 28, 29, 30, 31, 32, 33, 34, 35, 36, 37, 38, 39, 40, 41, 42, 43, 44, 45, 46, 47, 48, 49, 50, 51, 52, 53, 54, 55, 56, 57, 58, 59, 60, 61, 62, 63, 64], ((h 8 0, .inr (3, [.ref (h 0 0), .ref (h 1 0), .ref (h 8 1), .ref (h 9 0), .int (Λ 8 0 0)])) :: (h 8 1, .inr (1, [.ref (h 8 2), .int (Λ 8 0 1)])) :: (h 8 2, .inl (cS, 6, .inr (.inr (.inr (.inr f))))) :: (wT cI (h 9) (Λ 9) ++ (wS cI (h 2) (Λ 2) ++ (wS cI (h 3) (Λ 3) ++ (wS cI (h 4) (Λ 4) ++ (wS cI (h 5) (Λ 5) ++ (wS cI (h 6) (Λ 6) ++ wS cI (h 7) (Λ 7)))))))), rfl, rfl, by decide +kernel, by decide +kernel, by decide +kernel, rfl, by decide +kernel⟩
set_option maxRecDepth 20000 in
theorem ct_2_0 (cI cS : ClassId) (h : Nat → Nat → Nat) (Λ : s3_T) (f : Nat → Option Nat) : ct_ cI cS h Λ f 2 0 := ⟨[25, 26, 27, 28, 29, 30, 31, 32, 33, 34, 5, 6, 7, 8, 9, 10, 11, 12, 13, 14], [0, 1, 2, 3, 4, 15, 16, 17, 18, 19, 20, 21, 22, 23, 24, 35, 36, 37, 38, 39, 40, 41, 42, 43, 44, 45, 46, 47, 48, 49, 50, 51, 52, 53, 54, 55, 56, 57, 58, 59, 60, 61, 62, 63, 64, 65, 66, 67, 68, 69, 70, 71, 72, 73, 74, 75, 76, 77, 78, 79, 80, 81, 82, 83, 84], [0, 1, 2, 3, 4, 75, 76, 77, 78, 79, 80, 81, 82, 83, 84, 5, 6, 7, 8, 9, 10, 11, 12, 13, 14, 65, 66, 67, 68, 69, 70, 71, 72, 73, 74, 15, 16, 17, 18, 19, 20, 21, 22, 23, 24, 25, 26, 27, 28, 29, 30, 31, 32, 33, 34, 35, 36, 37, 38, 39, 40, 41, 42, 43, 44, 45, 46, 47, 48, 49, 50, 51, 52, 53, 54, 55, 56, 57, 58, 59, 60, 61, 62, 63, 64], ((h 8 0, .inr (3, [.ref (h 0 0), .ref (h 1 0), .ref (h 8 1), .ref (h 9 0), .int (Λ 8 0 0)])) :: (h 8 1, .inr (1, [.ref (h 8 2), .int (Λ 8 0 1)])) :: (h 8 2, .inl (cS, 6, .inr (.inr (.inr (.inr f))))) :: (wT cI (h 9) (Λ 9) ++ (wS cI (h 1) (Λ 1) ++ (wS cI (h 3) (Λ 3) ++ (wS cI (h 4) (Λ 4) ++ (wS cI (h 5) (Λ 5) ++ (wS cI (h 6) (Λ 6) ++ wS cI (h 7) (Λ 7)))))))), rfl, rfl, by decide +kernel, by decide +kernel, by decide +kernel, rfl, by decide +kernel⟩
set_option maxRecDepth 20000 in
theorem ct_3_0 (cI cS : ClassId) (h : Nat → Nat → Nat) (Λ : s3_T) (f : Nat → Option Nat) : ct_ cI cS h Λ f 3 0 := ⟨[35, 36, 37, 38, 39, 40, 41, 42, 43, 44, 5, 6, 7, 8, 9, 10, 11, 12, 13, 14], [0, 1, 2, 3, 4, 15, 16, 17, 18, 19, 20, 21, 22, 23, 24, 25, 26, 27, 28, 29, 30, 31, 32, 33, 34, 45, 46, 47, 48, 49, 50, 51, 52, 53, 54, 55, 56, 57, 58, 59, 60, 61, 62, 63, 64, 65, 66, 67, 68, 69, 70, 71, 72, 73, 74, 75, 76, 77, 78, 79, 80, 81, 82, 83, 84], [0, 1, 2, 3, 4, 75, 76, 77, 78, 79, 80, 81, 82, 83, 84, 5, 6, 7, 8, 9, 10, 11, 12, 13, 14, 15, 16, 17, 18, 19, 20, 21, 22, 23, 24, 65, 66, 67, 68, 69, 70, 71, 72, 73, 74, 25, 26, 27, 28, 29, 30, 31, 32, 33, 34, 35, 36, 37, 38, 39, 40, 41, 42, 43, 44, 45, 46, 47, 48, 49, 50, 51, 52, 53, 54, 55, 56, 57, 58, 59, 60, 61, 62, 63, 64], ((h 8 0, .inr (3, [.ref (h 0 0), .ref (h 1 0), .ref (h 8 1), .ref (h 9 0), .int (Λ 8 0 0)])) :: (h 8 1, .inr (1, [.ref (h 8 2), .int (Λ 8 0 1)])) :: (h 8 2, .inl (cS, 6, .inr (.inr (.inr (.inr f))))) :: (wT cI (h 9) (Λ 9) ++ (wS cI (h 1) (Λ 1) ++ (wS cI (h 2) (Λ 2) ++ (wS cI (h 4) (Λ 4) ++ (wS cI (h 5) (Λ 5) ++ (wS cI (h 6) (Λ 6) ++ wS cI (h 7) (Λ 7)))))))), rfl, rfl, by decide +kernel, by decide +kernel, by decide +kernel, rfl, by decide +kernel⟩
set_option maxRecDepth 20000 in
theorem ct_4_0 (cI cS : ClassId) (h : Nat → Nat → Nat) (Λ : s3_T) (f : Nat → Option Nat) : ct_ cI cS h Λ f 4 0 := ⟨[45, 46, 47, 48, 49, 50, 51, 52, 53, 54, 5, 6, 7, 8, 9, 10, 11, 12, 13, 14], [0, 1, 2, 3, 4, 15, 16, 17, 18, 19, 20, 21, 22, 23, 24, 25, 26, 27, 28, 29, 30, 31, 32, 33, 34, 35, 36, 37, 38, 39, 40, 41, 42, 43, 44, 55, 56, 57, 58, 59, 60, 61, 62, 63, 64, 65, 66, 67, 68, 69, 70, 71, 72, 73, 74, 75, 76, 77, 78, 79, 80, 81, 82, 83, 84], [0, 1, 2, 3, 4, 75, 76, 77, 78, 79, 80, 81, 82, 83, 84, 5, 6, 7, 8, 9, 10, 11, 12, 13, 14, 15, 16, 17, 18, 19, 20, 21, 22, 23, 24, 25, 26, 27, 28, 29, 30, 31, 32, 33, 34, 65, 66, 67, 68, 69, 70, 71, 72, 73, 74, 35, 36, 37, 38, 39, 40, 41, 42, 43, 44, 45, 46, 47, 48, 49, 50, 51, 52, 53, 54, 55, 56, 57, 58, 59, 60, 61, 62, 63, 64], ((h 8 0, .inr (3, [.ref (h 0 0), .ref (h 1 0), .ref (h 8 1), .ref (h 9 0), .int (Λ 8 0 0)])) :: (h 8 1, .inr (1, [.ref (h 8 2), .int (Λ 8 0 1)])) :: (h 8 2, .inl (cS, 6, .inr (.inr (.inr (.inr f))))) :: (wT cI (h 9) (Λ 9) ++ (wS cI (h 1) (Λ 1) ++ (wS cI (h 2) (Λ 2) ++ (wS cI (h 3) (Λ 3) ++ (wS cI (h 5) (Λ 5) ++ (wS cI (h 6) (Λ 6) ++ wS cI (h 7) (Λ 7)))))))), rfl, rfl, by decide +kernel, by decide +kernel, by decide +kernel, rfl, by decide +kernel⟩
set_option maxRecDepth 20000 in
theorem ct_5_0 (cI cS : ClassId) (h : Nat → Nat → Nat) (Λ : s3_T) (f : Nat → Option Nat) : ct_ cI cS h Λ f 5 0 := ⟨[55, 56, 57, 58, 59, 60, 61, 62, 63, 64, 5, 6, 7, 8, 9, 10, 11, 12, 13, 14], [0, 1, 2, 3, 4, 15, 16, 17, 18, 19, 20, 21, 22, 23, 24, 25, 26, 27, 28, 29, 30, 31, 32, 33, 34, 35, 36, 37, 38, 39, 40, 41, 42, 43, 44, 45, 46, 47, 48, 49, 50, 51, 52, 53, 54, 65, 66, 67, 68, 69, 70, 71, 72, 73, 74, 75, 76, 77, 78, 79, 80, 81, 82, 83, 84], [0, 1, 2, 3, 4, 75, 76, 77, 78, 79, 80, 81, 82, 83, 84, 5, 6, 7, 8, 9, 10, 11, 12, 13, 14, 15, 16, 17, 18, 19, 20, 21, 22, 23, 24, 25, 26, 27, 28, 29, 30, 31, 32, 33, 34, 35, 36, 37, 38, 39, 40, 41, 42, 43, 44, 65, 66, 67, 68, 69, 70, 71, 72, 73, 74, 45, 46, 47, 48, 49, 50, 51, 52, 53, 54, 55, 56, 57, 58, 59, 60, 61, 62, 63, 64], ((h 8 0, .inr (3, [.ref (h 0 0), .ref (h 1 0), .ref (h 8 1), .ref (h 9 0), .int (Λ 8 0 0)])) :: (h 8 1, .inr (1, [.ref (h 8 2), .int (Λ 8 0 1)])) :: (h 8 2, .inl (cS, 6, .inr (.inr (.inr (.inr f))))) :: (wT cI (h 9) (Λ 9) ++ (wS cI (h 1) (Λ 1) ++ (wS cI (h 2) (Λ 2) ++ (wS cI (h 3) (Λ 3) ++ (wS cI (h 4) (Λ 4) ++ (wS cI (h 6) (Λ 6) ++ wS cI (h 7) (Λ 7)))))))), rfl, rfl, by decide +kernel, by decide +kernel, by decide +kernel, rfl, by decide +kernel⟩
set_option maxRecDepth 20000 in
theorem ct_6_0 (cI cS : ClassId) (h : Nat → Nat → Nat) (Λ : s3_T) (f : Nat → Option Nat) : ct_ cI cS h Λ f 6 0 := ⟨[65, 66, 67, 68, 69, 70, 71, 72, 73, 74, 5, 6, 7, 8, 9, 10, 11, 12, 13, 14], [0, 1, 2, 3, 4, 15, 16, 17, 18, 19, 20, 21, 22, 23, 24, 25, 26, 27, 28, 29, 30, 31, 32, 33, 34, 35, 36, 37, 38, 39, 40, 41, 42, 43, 44, 45, 46, 47, 48, 49, 50, 51, 52, 53, 54, 55, 56, 57, 58, 59, 60, 61, 62, 63, 64, 75, 76, 77, 78, 79, 80, 81, 82, 83, 84], [0, 1, 2, 3, 4, 75, 76, 77, 78, 79, 80, 81, 82, 83, 84, 5, 6, 7, 8, 9, 10, 11, 12, 13, 14, 15, 16, 17, 18, 19, 20, 21, 22, 23, 24, 25, 26, 27, 28, 29, 30, 31, 32, 33, 34, 35, 36, 37, 38, 39, 40, 41, 42, 43, 44, 45, 46, 47, 48, 49, 50, 51, 52, 53, 54, 65, 66, 67, 68, 69, 70, 71, 72, 73, 74, 55, 56, 57, 58, 59, 60, 61, 62, 63, 64], ((h 8 0, .inr (3, [.ref (h 0 0), .ref (h 1 0), .ref (h 8 1), .ref (h 9 0), .int (Λ 8 0 0)])) :: (h 8 1, .inr (1, [.ref (h 8 2), .int (Λ 8 0 1)])) :: (h 8 2, .inl (cS, 6, .inr (.inr (.inr (.inr f))))) :: (wT cI (h 9) (Λ 9) ++ (wS cI (h 1) (Λ 1) ++ (wS cI (h 2) (Λ 2) ++ (wS cI (h 3) (Λ 3) ++ (wS cI (h 4) (Λ 4) ++ (wS cI (h 5) (Λ 5) ++ wS cI (h 7) (Λ 7)))))))), rfl, rfl, by decide +kernel, by decide +kernel, by decide +kernel, rfl, by decide +kernel⟩
set_option maxRecDepth 20000 in
theorem ct_7_0 (cI cS : ClassId) (h : Nat → Nat → Nat) (Λ : s3_T) (f : Nat → Option Nat) : ct_ cI cS h Λ f 7 0 := ⟨[75, 76, 77, 78, 79, 80, 81, 82, 83, 84, 5, 6, 7, 8, 9, 10, 11, 12, 13, 14], [0, 1, 2, 3, 4, 15, 16, 17, 18, 19, 20, 21, 22, 23, 24, 25, 26, 27, 28, 29, 30, 31, 32, 33, 34, 35, 36, 37, 38, 39, 40, 41, 42, 43, 44, 45, 46, 47, 48, 49, 50, 51, 52, 53, 54, 55, 56, 57, 58, 59, 60, 61, 62, 63, 64, 65, 66, 67, 68, 69, 70, 71, 72, 73, 74], [0, 1, 2, 3, 4, 75, 76, 77, 78, 79, 80, 81, 82, 83, 84, 5, 6, 7, 8, 9, 10, 11, 12, 13, 14, 15, 16, 17, 18, 19, 20, 21, 22, 23, 24, 25, 26, 27, 28, 29, 30, 31, 32, 33, 34, 35, 36, 37, 38, 39, 40, 41, 42, 43, 44, 45, 46, 47, 48, 49, 50, 51, 52, 53, 54, 55, 56, 57, 58, 59, 60, 61, 62, 63, 64, 65, 66, 67, 68, 69, 70, 71, 72, 73, 74], ((h 8 0, .inr (3, [.ref (h 0 0), .ref (h 1 0), .ref (h 8 1), .ref (h 9 0), .int (Λ 8 0 0)])) :: (h 8 1, .inr (1, [.ref (h 8 2), .int (Λ 8 0 1)])) :: (h 8 2, .inl (cS, 6, .inr (.inr (.inr (.inr f))))) :: (wT cI (h 9) (Λ 9) ++ (wS cI (h 1) (Λ 1) ++ (wS cI (h 2) (Λ 2) ++ (wS cI (h 3) (Λ 3) ++ (wS cI (h 4) (Λ 4) ++ (wS cI (h 5) (Λ 5) ++ wS cI (h 6) (Λ 6)))))))), rfl, rfl, by decide +kernel, by decide +kernel, by decide +kernel, rfl, by decide +kernel⟩
set_option maxRecDepth 20000 in
theorem ct_0_2 (cI cS : ClassId) (h : Nat → Nat → Nat) (Λ : s3_T) (f : Nat → Option Nat) : ct_ cI cS h Λ f 0 2 := ⟨[5, 6, 7, 8, 9, 10, 11, 12, 13, 14, 25, 26, 27, 28, 29, 30, 31, 32, 33, 34], [0, 1, 2, 3, 4, 15, 16, 17, 18, 19, 20, 21, 22, 23, 24, 35, 36, 37, 38, 39, 40, 41, 42, 43, 44, 45, 46, 47, 48, 49, 50, 51, 52, 53, 54, 55, 56, 57, 58, 59, 60, 61, 62, 63, 64, 65, 66, 67, 68, 69, 70, 71, 72, 73, 74, 75, 76, 77, 78, 79, 80, 81, 82, 83, 84], [0, 1, 2, 3, 4, 65, 66, 67, 68, 69, 70, 71, 72, 73, 74, 5, 6, 7, 8, 9, 10, 11, 12, 13, 14, 75, 76, 77, 78, 79, 80, 81, 82, 83, 84, 15, 16, 17, 18, 19, 20, 21, 22, 23, 24, 25, 26, 27, 28, 29, 30, 31, 32, 33, 34, 35, 36, 37, 38, 39, 40, 41, 42, 43, 44, 45, 46, 47, 48, 49, 50, 51, 52, 53, 54, 55, 56, 57, 58, 59, 60, 61, 62, 63, 64], ((h 8 0, .inr (3, [.ref (h 0 0), .ref (h 1 0), .ref (h 8 1), .ref (h 9 0), .int (Λ 8 0 0)])) :: (h 8 1, .inr (1, [.ref (h 8 2), .int (Λ 8 0 1)])) :: (h 8 2, .inl (cS, 6, .inr (.inr (.inr (.inr f))))) :: (wT cI (h 9) (Λ 9) ++ (wS cI (h 1) (Λ 1) ++ (wS cI (h 3) (Λ 3) ++ (wS cI (h 4) (Λ 4) ++ (wS cI (h 5) (Λ 5) ++ (wS cI (h 6) (Λ 6) ++ wS cI (h 7) (Λ 7)))))))), rfl, rfl, by decide +kernel, by decide +kernel, by decide +kernel, rfl, by decide +kernel⟩
set_option maxRecDepth 20000 in
theorem ct_0_3 (cI cS : ClassId) (h : Nat → Nat → Nat) (Λ : s3_T) (f : Nat → Option Nat) : ct_ cI cS h Λ f 0 3 := ⟨[5, 6, 7, 8, 9, 10, 11, 12, 13, 14, 35, 36, 37, 38, 39, 40, 41, 42, 43, 44], [0, 1, 2, 3, 4, 15, 16, 17, 18, 19, 20, 21, 22, 23, 24, 25, 26, 27, 28, 29, 30, 31, 32, 33, 34, 45, 46, 47, 48, 49, 50, 51, 52, 53, 54, 55, 56, 57, 58, 59, 60, 61, 62, 63, 64, 65, 66, 67, 68, 69, 70, 71, 72, 73, 74, 75, 76, 77, 78, 79, 80, 81, 82, 83, 84], [0, 1, 2, 3, 4, 65, 66, 67, 68, 69, 70, 71, 72, 73, 74, 5, 6, 7, 8, 9, 10, 11, 12, 13, 14, 15, 16, 17, 18, 19, 20, 21, 22, 23, 24, 75, 76, 77, 78, 79, 80, 81, 82, 83, 84, 25, 26, 27, 28, 29, 30, 31, 32, 33, 34, 35, 36, 37, 38, 39, 40, 41, 42, 43, 44, 45, 46, 47, 48, 49, 50, 51, 52, 53, 54, 55, 56, 57, 58, 59, 60, 61, 62, 63, 64], ((h 8 0, .inr (3, [.ref (h 0 0), .ref (h 1 0), .ref (h 8 1), .ref (h 9 0), .int (Λ 8 0 0)])) :: (h 8 1, .inr (1, [.ref (h 8 2), .int (Λ 8 0 1)])) :: (h 8 2, .inl (cS, 6, .inr (.inr (.inr (.inr f))))) :: (wT cI (h 9) (Λ 9) ++ (wS cI (h 1) (Λ 1) ++ (wS cI (h 2) (Λ 2) ++ (wS cI (h 4) (Λ 4) ++ (wS cI (h 5) (Λ 5) ++ (wS cI (h 6) (Λ 6) ++ wS cI (h 7) (Λ 7)))))))), rfl, rfl, by decide +kernel, by decide +kernel, by decide +kernel, rfl, by decide +kernel⟩
set_option maxRecDepth 20000 in
theorem ct_0_4 (cI cS : ClassId) (h : Nat → Nat → Nat) (Λ : s3_T) (f : Nat → Option Nat) : ct_ cI cS h Λ f 0 4 := ⟨[5, 6, 7, 8, 9, 10, 11, 12, 13, 14, 45, 46, 47, 48, 49, 50, 51, 52, 53, 54], [0, 1, 2, 3, 4, 15, 16, 17, 18, 19, 20, 21, 22, 23, 24, 25, 26, 27, 28, 29, 30, 31, 32, 33, 34, 35, 36, 37, 38, 39, 40, 41, 42, 43, 44, 55, 56, 57, 58, 59, 60, 61, 62, 63, 64, 65, 66, 67, 68, 69, 70, 71, 72, 73, 74, 75, 76, 77, 78, 79, 80, 81, 82, 83, 84], [0, 1, 2, 3, 4, 65, 66, 67, 68, 69, 70, 71, 72, 73, 74, 5, 6, 7, 8, 9, 10, 11, 12, 13, 14, 15, 16, 17, 18, 19, 20, 21, 22, 23, 24, 25, 26, 27, 28, 29, 30, 31, 32, 33, 34, 75, 76, 77, 78, 79, 80, 81, 82, 83, 84, 35, 36, 37, 38, 39, 40, 41, 42, 43, 44, 45, 46, 47, 48, 49, 50, 51, 52, 53, 54, 55, 56, 57, 58, 59, 60, 61, 62, 63, 64], ((h 8 0, .inr (3, [.ref (h 0 0), .ref (h 1 0), .ref (h 8 1), .ref (h 9 0), .int (Λ 8 0 0)])) :: (h 8 1, .inr (1, [.ref (h 8 2), .int (Λ 8 0 1)])) :: (h 8 2, .inl (cS, 6, .inr (.inr (.inr (.inr f))))) :: (wT cI (h 9) (Λ 9) ++ (wS cI (h 1) (Λ 1) ++ (wS cI (h 2) (Λ 2) ++ (wS cI (h 3) (Λ 3) ++ (wS cI (h 5) (Λ 5) ++ (wS cI (h 6) (Λ 6) ++ wS cI (h 7) (Λ 7)))))))), rfl, rfl, by decide +kernel, by decide +kernel, by decide +kernel, rfl, by decide +kernel⟩
set_option maxRecDepth 20000 in
theorem ct_0_5 (cI cS : ClassId) (h : Nat → Nat → Nat) (Λ : s3_T) (f : Nat → Option Nat) : ct_ cI cS h Λ f 0 5 := ⟨[5, 6, 7, 8, 9, 10, 11, 12, 13, 14, 55, 56, 57, 58, 59, 60, 61, 62, 63, 64], [0, 1, 2, 3, 4, 15, 16, 17, 18, 19, 20, 21, 22, 23, 24, 25, 26, 27, 28, 29, 30, 31, 32, 33, 34, 35, 36, 37, 38, 39, 40, 41, 42, 43, 44, 45, 46, 47, 48, 49, 50, 51, 52, 53, 54, 65, 66, 67, 68, 69, 70, 71, 72, 73, 74, 75, 76, 77, 78, 79, 80, 81, 82, 83, 84], [0, 1, 2, 3, 4, 65, 66, 67, 68, 69, 70, 71, 72, 73, 74, 5, 6, 7, 8, 9, 10, 11, 12, 13, 14, 15, 16, 17, 18, 19, 20, 21, 22, 23, 24, 25, 26, 27, 28, 29, 30, 31, 32, 33, 34, 35, 36, 37, 38, 39, 40, 41, 42, 43, 44, 75, 76, 77, 78, 79, 80, 81, 82, 83, 84, 45, 46, 47, 48, 49, 50, 51, 52, 53, 54, 55, 56, 57, 58, 59, 60, 61, 62, 63, 64], ((h 8 0, .inr (3, [.ref (h 0 0), .ref (h 1 0), .ref (h 8 1), .ref (h 9 0), .int (Λ 8 0 0)])) :: (h 8 1, .inr (1, [.ref (h 8 2), .int (Λ 8 0 1)])) :: (h 8 2, .inl (cS, 6, .inr (.inr (.inr (.inr f))))) :: (wT cI (h 9) (Λ 9) ++ (wS cI (h 1) (Λ 1) ++ (wS cI (h 2) (Λ 2) ++ (wS cI (h 3) (Λ 3) ++ (wS cI (h 4) (Λ 4) ++ (wS cI (h 6) (Λ 6) ++ wS cI (h 7) (Λ 7)))))))), rfl, rfl, by decide +kernel, by decide +kernel, by decide +kernel, rfl, by decide +kernel⟩
set_option maxRecDepth 20000 in
theorem ct_0_6 (cI cS : ClassId) (h : Nat → Nat → Nat) (Λ : s3_T) (f : Nat → Option Nat) : ct_ cI cS h Λ f 0 6 := ⟨[5, 6, 7, 8, 9, 10, 11, 12, 13, 14, 65, 66, 67, 68, 69, 70, 71, 72, 73, 74], [0, 1, 2, 3, 4, 15, 16, 17, 18, 19, 20, 21, 22, 23, 24, 25, 26, 27, 28, 29, 30, 31, 32, 33, 34, 35, 36, 37, 38, 39, 40, 41, 42, 43, 44, 45, 46, 47, 48, 49, 50, 51, 52, 53, 54, 55, 56, 57, 58, 59, 60, 61, 62, 63, 64, 75, 76, 77, 78, 79, 80, 81, 82, 83, 84], [0, 1, 2, 3, 4, 65, 66, 67, 68, 69, 70, 71, 72, 73, 74, 5, 6, 7, 8, 9, 10, 11, 12, 13, 14, 15, 16, 17, 18, 19, 20, 21, 22, 23, 24, 25, 26, 27, 28, 29, 30, 31, 32, 33, 34, 35, 36, 37, 38, 39, 40, 41, 42, 43, 44, 45, 46, 47, 48, 49, 50, 51, 52, 53, 54, 75, 76, 77, 78, 79, 80, 81, 82, 83, 84, 55, 56, 57, 58, 59, 60, 61, 62, 63, 64], ((h 8 0, .inr (3, [.ref (h 0 0), .ref (h 1 0), .ref (h 8 1), .ref (h 9 0), .int (Λ 8 0 0)])) :: (h 8 1, .inr (1, [.ref (h 8 2), .int (Λ 8 0 1)])) :: (h 8 2, .inl (cS, 6, .inr (.inr (.inr (.inr f))))) :: (wT cI (h 9) (Λ 9) ++ (wS cI (h 1) (Λ 1) ++ (wS cI (h 2) (Λ 2) ++ (wS cI (h 3) (Λ 3) ++ (wS cI (h 4) (Λ 4) ++ (wS cI (h 5) (Λ 5) ++ wS cI (h 7) (Λ 7)))))))), rfl, rfl, by decide +kernel, by decide +kernel, by decide +kernel, rfl, by decide +kernel⟩
set_option maxRecDepth 20000 in
theorem ct_0_7 (cI cS : ClassId) (h : Nat → Nat → Nat) (Λ : s3_T) (f : Nat → Option Nat) : ct_ cI cS h Λ f 0 7 := ⟨[5, 6, 7, 8, 9, 10, 11, 12, 13, 14, 75, 76, 77, 78, 79, 80, 81, 82, 83, 84], [0, 1, 2, 3, 4, 15, 16, 17, 18, 19, 20, 21, 22, 23, 24, 25, 26, 27, 28, 29, 30, 31, 32, 33, 34, 35, 36, 37, 38, 39, 40, 41, 42, 43, 44, 45, 46, 47, 48, 49, 50, 51, 52, 53, 54, 55, 56, 57, 58, 59, 60, 61, 62, 63, 64, 65, 66, 67, 68, 69, 70, 71, 72, 73, 74], [0, 1, 2, 3, 4, 65, 66, 67, 68, 69, 70, 71, 72, 73, 74, 5, 6, 7, 8, 9, 10, 11, 12, 13, 14, 15, 16, 17, 18, 19, 20, 21, 22, 23, 24, 25, 26, 27, 28, 29, 30, 31, 32, 33, 34, 35, 36, 37, 38, 39, 40, 41, 42, 43, 44, 45, 46, 47, 48, 49, 50, 51, 52, 53, 54, 55, 56, 57, 58, 59, 60, 61, 62, 63, 64, 75, 76, 77, 78, 79, 80, 81, 82, 83, 84], ((h 8 0, .inr (3, [.ref (h 0 0), .ref (h 1 0), .ref (h 8 1), .ref (h 9 0), .int (Λ 8 0 0)])) :: (h 8 1, .inr (1, [.ref (h 8 2), .int (Λ 8 0 1)])) :: (h 8 2, .inl (cS, 6, .inr (.inr (.inr (.inr f))))) :: (wT cI (h 9) (Λ 9) ++ (wS cI (h 1) (Λ 1) ++ (wS cI (h 2) (Λ 2) ++ (wS cI (h 3) (Λ 3) ++ (wS cI (h 4) (Λ 4) ++ (wS cI (h 5) (Λ 5) ++ wS cI (h 6) (Λ 6)))))))), rfl, rfl, by decide +kernel, by decide +kernel, by decide +kernel, rfl, by decide +kernel⟩
theorem ct_i (cI cS : ClassId) (h : Nat → Nat → Nat) (Λ : s3_T) (f : Nat → Option Nat) (k : Nat) (hk : 2 ≤ k ∧ k < 8) : ct_ cI cS h Λ f k 0 := by
  obtain ⟨h1, h2⟩ := hk
  rcases (show k = 2 ∨ k = 3 ∨ k = 4 ∨ k = 5 ∨ k = 6 ∨ k = 7 by omega) with rfl | rfl | rfl | rfl | rfl | rfl
  · exact ct_2_0 cI cS h Λ f
  · exact ct_3_0 cI cS h Λ f
  · exact ct_4_0 cI cS h Λ f
  · exact ct_5_0 cI cS h Λ f
  · exact ct_6_0 cI cS h Λ f
  · exact ct_7_0 cI cS h Λ f
theorem ct_j (cI cS : ClassId) (h : Nat → Nat → Nat) (Λ : s3_T) (f : Nat → Option Nat) (k : Nat) (hk : 2 ≤ k ∧ k < 8) : ct_ cI cS h Λ f 0 k := by
  obtain ⟨h1, h2⟩ := hk
  rcases (show k = 2 ∨ k = 3 ∨ k = 4 ∨ k = 5 ∨ k = 6 ∨ k = 7 by omega) with rfl | rfl | rfl | rfl | rfl | rfl
  · exact ct_0_2 cI cS h Λ f
  · exact ct_0_3 cI cS h Λ f
  · exact ct_0_4 cI cS h Λ f
  · exact ct_0_5 cI cS h Λ f
  · exact ct_0_6 cI cS h Λ f
  · exact ct_0_7 cI cS h Λ f
section LQ
variable {p : Program} {l : Launch} {e : Env} {R : Room} {s : State} {m : MethodId} {args : Array Value} {below : List Frame} {meth : Method} {c : Code} {H : Heap} {locs : List Loc} {cells slots : Nat} {Q : State → Prop}
variable {cc : ByteArray} {nL pc : Nat} {ls : Array Slot} {rest : List Value} {D : va_G} {A : Nat → Prop} {tys : List (ClassId × FieldType)} {ws : va_W} {own : String} {c0 : Cond}
theorem iaq (S : CallFix p m c cc nL s args (c0 :: uw_) own) (hK : va_K D vwCl tys s) (Y : dy_ D A s ws H locs) (q0 t0 : Nat) {a : Nat} {cA : ClassId} {C : String} {n x : Nat} {f : Nat → Option Nat} (ha : ws[q0]? = some (a, .inl (cA, n, .inr (.inr (.inr (.inr f)))))) (ht : tys[t0]? = some (cA, .object C)) {i : Int32} (hin : vp_in i n) (hv : f i.toNatClampNeg = some x) (hdg : decode cc pc = .ok (.aaload, 1))
    (kk : W p l e R s m args below meth c H locs cells slots Q (F0 m (pc + 1) ls (.ref x :: rest))) : W p l e R s m args below meth c H locs cells slots Q (F0 m pc ls (.int i :: .ref a :: rest)) :=
  va_aldq S.1 S.2.1 hK Y.1 q0 t0 ha ht hin hdg (by rw [hv]; exact kk)
theorem iwq (S : CallFix p m c cc nL s args (c0 :: uw_) own) (hK : va_K D vwCl tys s) (Y : dy_ D A s ws H locs) (q0 t0 qk ci : Nat) {a : Nat} {cA : ClassId} {r : vw_C} {n v : Nat} {vs : List Value} {f : Nat → Option Nat} (ha : ws[q0]? = some (a, .inl (cA, n, .inr (.inr (.inr (.inr f)))))) (ht : tys[t0]? = some (cA, .object r.1)) (hv : ws[qk]? = some (v, .inr (ci, vs))) (hc : vwCl[ci]? = some r) {i : Int32} (hin : vp_in i n) {ws' : va_W} (hw : ws.set q0 (a, .inl (cA, n, .inr (.inr (.inr (.inr (va_up f i.toNatClampNeg (some v))))))) = ws') (hdg : decode cc pc = .ok (.aastore, 1))
    (kk : ∀ (H1 : Heap) (locs1 : List Loc), dy_ D A s ws' H1 locs1 → W p l e R s m args below meth c H1 locs1 cells slots Q (F0 m (pc + 1) ls rest)) : W p l e R s m args below meth c H locs cells slots Q (F0 m pc ls (.ref v :: .int i :: .ref a :: rest)) := by
  subst hw
  exact va_astq S.1 S.2.1 hK Y.1 Y.2.1 Y.2.2 q0 t0 qk ci ha ht hv hc hin hdg (fun H1 l1 h1 h2 h3 => kk H1 l1 ⟨h1, h2, h3⟩)
end LQ
/-- the ring behind a discard -/
def dp_ (π : Nat → Nat) : Nat → Nat := fun k => if k < 5 then π (k + 1) else if k = 5 then π 0 else π k
theorem dp_eq (h : Nat → Nat → Nat) (π : Nat → Nat) : va_up (va_up (va_up (va_up (va_up (va_up (rL h π) 0 (some (h (π 1) 0))) 1 (some (h (π 2) 0))) 2 (some (h (π 3) 0))) 3 (some (h (π 4) 0))) 4 (some (h (π 5) 0))) 5 (some (h (π 0) 0)) = rL h (dp_ π) := by
  funext k
  unfold va_up rL dp_
  rcases Nat.lt_or_ge k 6 with hk | hk
  · rcases (show k = 0 ∨ k = 1 ∨ k = 2 ∨ k = 3 ∨ k = 4 ∨ k = 5 by omega) with rfl | rfl | rfl | rfl | rfl | rfl <;> rfl
  · rw [if_neg (by omega), if_neg (by omega), if_neg (by omega), if_neg (by omega), if_neg (by omega), if_neg (by omega), if_neg (by omega), if_neg (by omega)]
end
section
def fX7_setting (p1 : Int32) (Λ : s3_T) (π : Nat → Nat) : Option (Int32) := ((fX5_isSetting p1).bind fun r_1 => (if r_1 = 0 then (some (-10002 : Int32)) else (o_x p1 4 (some (((Λ 0) 1) (p1).toNatClampNeg)))))
set_option maxRecDepth 100000 in
set_option maxHeartbeats 4000000 in
theorem mX7_setting (l : Launch) (D : va_G) (cI cS : ClassId) (h : Nat → Nat → Nat) (Λ : s3_T) (π : Nat → Nat) (p1 : Int32) (r : Int32) (hrun : fX7_setting p1 Λ π = some r) : me_I l D (tL cI cS) yX7_setting cX7_setting 2 .int 1 20 (wL cI cS h Λ π) [.ref (h 8 0), .int p1] r (wL cI cS h Λ π) := by
  refine me_ofI (plainFor_of_name (by decide)) (Nat.le_of_ble_eq_true rfl) ?_
  intro p e s m args below meth c A ls S hK Y hA hl hr hlk hZ
  have hx := S.1
  have hb := S.2.1
  have hl : lv_has ls 2 [(0, .ref (h 8 0)), (1, .int p1)] := hl
  unfold fX7_setting at hrun
  refine lv_iload_n hx hb dX7_setting_0 rfl (lv_at hl 1 rfl) ?_
  obtain ⟨r_1, e_2, hrun⟩ := o_bh hrun
  refine cp_s (As := [.int p1]) (rest := []) S hK hA hZ Y hl.1 (mX5_isSetting l D p1 r_1 e_2) kX7_51 ⟨Nat.le_of_ble_eq_true rfl, Nat.le_of_ble_eq_true rfl⟩ rfl rfl (Nat.le_of_ble_eq_true rfl) ⟨Nat.le_of_ble_eq_true rfl, Nat.le_of_ble_eq_true rfl⟩ dX7_setting_1 (fun H locs Y => ?_)
  refine lv_if_ne (tgt := 11) hx hb dX7_setting_4 (by decide) (fun c_3 => ?_) (fun c_3 => ?_)
  · have hrun := o_f hrun c_3
    refine lv_aload_n hx hb dX7_setting_11 rfl (lv_at hl 0 rfl) ?_
    refine ig S hK Y fX7_10 0 rfl (v := .ref (h 0 0)) rfl dX7_setting_12 ?_
    refine ig S hK Y fX7_55 5 rfl (v := .ref (h 0 1)) rfl dX7_setting_15 ?_
    refine lv_iload_n hx hb dX7_setting_18 rfl (lv_at hl 1 rfl) ?_
    obtain ⟨b_4, hrun⟩ := o_xh hrun
    refine ia S hK Y 6 0 (f := ((Λ 0) 1)) rfl rfl b_4 dX7_setting_19 ?_
    cases hrun
    exact me_ri S hK Y hr hlk rfl dX7_setting_20
  · have hrun := o_t hrun c_3
    refine lv_sipush (v := (-10002 : Int32)) hx hb dX7_setting_7 (by decide) ?_
    cases hrun
    exact me_ri S hK Y hr hlk rfl dX7_setting_10
def fX7_player (p1 p2 : Int32) (Λ : s3_T) (π : Nat → Nat) : Option (Int32) := ((fX5_isPlayer p1 (Λ 0)).bind fun r_1 => (if r_1 = 0 then (some (-10001 : Int32)) else (if p2 = (0 : Int32) then (o_x p1 8 (some (((Λ 0) 2) (p1).toNatClampNeg))) else (if p2 = (1 : Int32) then (o_x p1 8 (some (((Λ 0) 3) (p1).toNatClampNeg))) else (if p2 = (2 : Int32) then (o_x p1 8 (some (((Λ 0) 4) (p1).toNatClampNeg))) else (if p2 = (3 : Int32) then (o_x p1 8 (some (((Λ 0) 5) (p1).toNatClampNeg))) else (if p2 = (4 : Int32) then (o_x p1 8 (some (((Λ 0) 6) (p1).toNatClampNeg))) else (if p2 = (5 : Int32) then ((fX4_placeOf p1 (Λ 0)).bind fun r_15 => (some r_15)) else (if p2 = (6 : Int32) then (o_x p1 8 (some (((Λ 0) 7) (p1).toNatClampNeg))) else (some (-10002 : Int32)))))))))))
set_option maxRecDepth 100000 in
set_option maxHeartbeats 4000000 in
theorem mX7_player (l : Launch) (D : va_G) (cI cS : ClassId) (h : Nat → Nat → Nat) (Λ : s3_T) (π : Nat → Nat) (p1 p2 : Int32) (r : Int32) (hrun : fX7_player p1 p2 Λ π = some r) : me_I l D (tL cI cS) yX7_player cX7_player 3 .int 2 45 (wL cI cS h Λ π) [.ref (h 8 0), .int p1, .int p2] r (wL cI cS h Λ π) := by
  refine me_ofI (plainFor_of_name (by decide)) (Nat.le_of_ble_eq_true rfl) ?_
  intro p e s m args below meth c A ls S hK Y hA hl hr hlk hZ
  have hx := S.1
  have hb := S.2.1
  have hl : lv_has ls 3 [(0, .ref (h 8 0)), (1, .int p1), (2, .int p2)] := hl
  unfold fX7_player at hrun
  refine lv_aload_n hx hb dX7_player_0 rfl (lv_at hl 0 rfl) ?_
  refine ig S hK Y fX7_10 0 rfl (v := .ref (h 0 0)) rfl dX7_player_1 ?_
  refine lv_iload_n hx hb dX7_player_4 rfl (lv_at hl 1 rfl) ?_
  obtain ⟨r_1, e_2, hrun⟩ := o_bh hrun
  refine cg_v (ws2 := (wLr cI cS h (sg_3 Λ 0 (Λ 0)) (rL h π))) (it := [0]) (As := [.int p1]) (rest := []) S hK hA hZ Y hl.1 (mX5_isPlayer l D cI (h 0) (Λ 0) p1 r_1 e_2) (cNC h Λ (rL h π)) (cNR h Λ (rL h π)) nNC nNR dN_ (cNP h Λ (rL h π) (Λ 0)) nNP rfl kX7_82 (T := TX5) (N := 16) rfl (q0 := 5) rfl ⟨Nat.le_of_ble_eq_true rfl, Nat.le_of_ble_eq_true rfl⟩ rfl rfl (Nat.le_of_ble_eq_true rfl) ⟨Nat.le_of_ble_eq_true rfl, Nat.le_of_ble_eq_true rfl⟩ dX7_player_5 (fun H locs Y => ?_)
  have Y : dy_ D A s (wLr cI cS h Λ (rL h π)) H locs := Y
  refine lv_if_ne (tgt := 15) hx hb dX7_player_8 (by decide) (fun c_3 => ?_) (fun c_3 => ?_)
  · have hrun := o_f hrun c_3
    refine lv_iload_n hx hb dX7_player_15 rfl (lv_at hl 2 rfl) ?_
    rcases Decidable.em (p2 = (0 : Int32)) with c_4 | c_4
    · have hrun := o_t hrun c_4
      refine lv_tableIn (off := 44) (tgt := 60) hx hb dX7_player_16 (by rw [c_4]; decide) (by rw [c_4]; decide) (by rw [c_4]; rfl) (by decide) ?_
      refine lv_aload_n hx hb dX7_player_60 rfl (lv_at hl 0 rfl) ?_
      refine ig S hK Y fX7_10 0 rfl (v := .ref (h 0 0)) rfl dX7_player_61 ?_
      refine ig S hK Y fX7_85 5 rfl (v := .ref (h 0 2)) rfl dX7_player_64 ?_
      refine lv_iload_n hx hb dX7_player_67 rfl (lv_at hl 1 rfl) ?_
      obtain ⟨b_5, hrun⟩ := o_xh hrun
      refine ia S hK Y 7 0 (f := ((Λ 0) 2)) rfl rfl b_5 dX7_player_68 ?_
      cases hrun
      exact me_ri S hK Y hr hlk rfl dX7_player_69
    · have hrun := o_f hrun c_4
      rcases Decidable.em (p2 = (1 : Int32)) with c_6 | c_6
      · have hrun := o_t hrun c_6
        refine lv_tableIn (off := 54) (tgt := 70) hx hb dX7_player_16 (by rw [c_6]; decide) (by rw [c_6]; decide) (by rw [c_6]; rfl) (by decide) ?_
        refine lv_aload_n hx hb dX7_player_70 rfl (lv_at hl 0 rfl) ?_
        refine ig S hK Y fX7_10 0 rfl (v := .ref (h 0 0)) rfl dX7_player_71 ?_
        refine ig S hK Y fX7_88 5 rfl (v := .ref (h 0 3)) rfl dX7_player_74 ?_
        refine lv_iload_n hx hb dX7_player_77 rfl (lv_at hl 1 rfl) ?_
        obtain ⟨b_7, hrun⟩ := o_xh hrun
        refine ia S hK Y 8 0 (f := ((Λ 0) 3)) rfl rfl b_7 dX7_player_78 ?_
        cases hrun
        exact me_ri S hK Y hr hlk rfl dX7_player_79
      · have hrun := o_f hrun c_6
        rcases Decidable.em (p2 = (2 : Int32)) with c_8 | c_8
        · have hrun := o_t hrun c_8
          refine lv_tableIn (off := 64) (tgt := 80) hx hb dX7_player_16 (by rw [c_8]; decide) (by rw [c_8]; decide) (by rw [c_8]; rfl) (by decide) ?_
          refine lv_aload_n hx hb dX7_player_80 rfl (lv_at hl 0 rfl) ?_
          refine ig S hK Y fX7_10 0 rfl (v := .ref (h 0 0)) rfl dX7_player_81 ?_
          refine ig S hK Y fX7_91 5 rfl (v := .ref (h 0 4)) rfl dX7_player_84 ?_
          refine lv_iload_n hx hb dX7_player_87 rfl (lv_at hl 1 rfl) ?_
          obtain ⟨b_9, hrun⟩ := o_xh hrun
          refine ia S hK Y 9 0 (f := ((Λ 0) 4)) rfl rfl b_9 dX7_player_88 ?_
          cases hrun
          exact me_ri S hK Y hr hlk rfl dX7_player_89
        · have hrun := o_f hrun c_8
          rcases Decidable.em (p2 = (3 : Int32)) with c_10 | c_10
          · have hrun := o_t hrun c_10
            refine lv_tableIn (off := 74) (tgt := 90) hx hb dX7_player_16 (by rw [c_10]; decide) (by rw [c_10]; decide) (by rw [c_10]; rfl) (by decide) ?_
            refine lv_aload_n hx hb dX7_player_90 rfl (lv_at hl 0 rfl) ?_
            refine ig S hK Y fX7_10 0 rfl (v := .ref (h 0 0)) rfl dX7_player_91 ?_
            refine ig S hK Y fX7_94 5 rfl (v := .ref (h 0 5)) rfl dX7_player_94 ?_
            refine lv_iload_n hx hb dX7_player_97 rfl (lv_at hl 1 rfl) ?_
            obtain ⟨b_11, hrun⟩ := o_xh hrun
            refine ia S hK Y 10 0 (f := ((Λ 0) 5)) rfl rfl b_11 dX7_player_98 ?_
            cases hrun
            exact me_ri S hK Y hr hlk rfl dX7_player_99
          · have hrun := o_f hrun c_10
            rcases Decidable.em (p2 = (4 : Int32)) with c_12 | c_12
            · have hrun := o_t hrun c_12
              refine lv_tableIn (off := 84) (tgt := 100) hx hb dX7_player_16 (by rw [c_12]; decide) (by rw [c_12]; decide) (by rw [c_12]; rfl) (by decide) ?_
              refine lv_aload_n hx hb dX7_player_100 rfl (lv_at hl 0 rfl) ?_
              refine ig S hK Y fX7_10 0 rfl (v := .ref (h 0 0)) rfl dX7_player_101 ?_
              refine ig S hK Y fX7_97 5 rfl (v := .ref (h 0 6)) rfl dX7_player_104 ?_
              refine lv_iload_n hx hb dX7_player_107 rfl (lv_at hl 1 rfl) ?_
              obtain ⟨b_13, hrun⟩ := o_xh hrun
              refine ia S hK Y 11 0 (f := ((Λ 0) 6)) rfl rfl b_13 dX7_player_108 ?_
              cases hrun
              exact me_ri S hK Y hr hlk rfl dX7_player_109
            · have hrun := o_f hrun c_12
              rcases Decidable.em (p2 = (5 : Int32)) with c_14 | c_14
              · have hrun := o_t hrun c_14
                refine lv_tableIn (off := 94) (tgt := 110) hx hb dX7_player_16 (by rw [c_14]; decide) (by rw [c_14]; decide) (by rw [c_14]; rfl) (by decide) ?_
                refine lv_aload_n hx hb dX7_player_110 rfl (lv_at hl 0 rfl) ?_
                refine ig S hK Y fX7_10 0 rfl (v := .ref (h 0 0)) rfl dX7_player_111 ?_
                refine lv_iload_n hx hb dX7_player_114 rfl (lv_at hl 1 rfl) ?_
                obtain ⟨r_15, e_16, hrun⟩ := o_bh hrun
                refine cg_s (ws2 := (wLr cI cS h (sg_3 Λ 0 (Λ 0)) (rL h π))) (it := [0]) (As := [.ref (h 0 0), .int p1]) (rest := []) S hK hA hZ Y hl.1 (mX4_placeOf l D cI (h 0) (Λ 0) p1 r_15 e_16) (cNC h Λ (rL h π)) (cNR h Λ (rL h π)) nNC nNR dN_ (cNP h Λ (rL h π) (Λ 0)) nNP rfl kX7_100 ⟨Nat.le_of_ble_eq_true rfl, Nat.le_of_ble_eq_true rfl⟩ rfl rfl (Nat.le_of_ble_eq_true rfl) ⟨Nat.le_of_ble_eq_true rfl, Nat.le_of_ble_eq_true rfl⟩ dX7_player_115 (fun H locs Y => ?_)
                have Y : dy_ D A s (wLr cI cS h Λ (rL h π)) H locs := Y
                cases hrun
                exact me_ri S hK Y hr hlk rfl dX7_player_118
              · have hrun := o_f hrun c_14
                rcases Decidable.em (p2 = (6 : Int32)) with c_17 | c_17
                · have hrun := o_t hrun c_17
                  refine lv_tableIn (off := 103) (tgt := 119) hx hb dX7_player_16 (by rw [c_17]; decide) (by rw [c_17]; decide) (by rw [c_17]; rfl) (by decide) ?_
                  refine lv_aload_n hx hb dX7_player_119 rfl (lv_at hl 0 rfl) ?_
                  refine ig S hK Y fX7_10 0 rfl (v := .ref (h 0 0)) rfl dX7_player_120 ?_
                  refine ig S hK Y fX7_105 5 rfl (v := .ref (h 0 7)) rfl dX7_player_123 ?_
                  refine lv_iload_n hx hb dX7_player_126 rfl (lv_at hl 1 rfl) ?_
                  obtain ⟨b_18, hrun⟩ := o_xh hrun
                  refine ia S hK Y 12 0 (f := ((Λ 0) 7)) rfl rfl b_18 dX7_player_127 ?_
                  cases hrun
                  exact me_ri S hK Y hr hlk rfl dX7_player_128
                · have hrun := o_f hrun c_17
                  have tc_4 := lv_neT c_4 (show ((0 : Int32)).toInt = 0 by decide)
                  have tc_6 := lv_neT c_6 (show ((1 : Int32)).toInt = 1 by decide)
                  have tc_8 := lv_neT c_8 (show ((2 : Int32)).toInt = 2 by decide)
                  have tc_10 := lv_neT c_10 (show ((3 : Int32)).toInt = 3 by decide)
                  have tc_12 := lv_neT c_12 (show ((4 : Int32)).toInt = 4 by decide)
                  have tc_14 := lv_neT c_14 (show ((5 : Int32)).toInt = 5 by decide)
                  have tc_17 := lv_neT c_17 (show ((6 : Int32)).toInt = 6 by decide)
                  refine lv_tableOut (tgt := 129) hx hb dX7_player_16 (by omega) (by decide) ?_
                  refine lv_sipush (v := (-10002 : Int32)) hx hb dX7_player_129 (by decide) ?_
                  cases hrun
                  exact me_ri S hK Y hr hlk rfl dX7_player_132
  · have hrun := o_t hrun c_3
    refine lv_sipush (v := (-10001 : Int32)) hx hb dX7_player_11 (by decide) ?_
    cases hrun
    exact me_ri S hK Y hr hlk rfl dX7_player_14
def fX7_spot (p1 p2 : Int32) (Λ : s3_T) (π : Nat → Nat) : Option (Int32) := ((fX6_isSpot p1).bind fun r_1 => (if r_1 = 0 then (some (-10001 : Int32)) else (if p2 = (0 : Int32) then ((fX6_fromBase p1).bind fun r_5 => (some r_5)) else (if p2 = (1 : Int32) then (o_x p1 16 (some (((Λ 0) 8) (p1).toNatClampNeg))) else (if p2 = (2 : Int32) then ((fX5_isRetired p1 (Λ 0)).bind fun r_10 => (if r_10 = 0 then (some (0 : Int32)) else (some (1 : Int32)))) else (if p2 = (3 : Int32) then ((fX5_hidersAt p1 (Λ 0)).bind fun r_14 => (some r_14)) else (some (-10002 : Int32))))))))
set_option maxRecDepth 100000 in
set_option maxHeartbeats 4000000 in
theorem mX7_spot (l : Launch) (D : va_G) (cI cS : ClassId) (h : Nat → Nat → Nat) (Λ : s3_T) (π : Nat → Nat) (p1 p2 : Int32) (r : Int32) (hrun : fX7_spot p1 p2 Λ π = some r) : me_I l D (tL cI cS) yX7_spot cX7_spot 3 .int 3 63 (wL cI cS h Λ π) [.ref (h 8 0), .int p1, .int p2] r (wL cI cS h Λ π) := by
  refine me_ofI (plainFor_of_name (by decide)) (Nat.le_of_ble_eq_true rfl) ?_
  intro p e s m args below meth c A ls S hK Y hA hl hr hlk hZ
  have hx := S.1
  have hb := S.2.1
  have hl : lv_has ls 3 [(0, .ref (h 8 0)), (1, .int p1), (2, .int p2)] := hl
  unfold fX7_spot at hrun
  refine lv_iload_n hx hb dX7_spot_0 rfl (lv_at hl 1 rfl) ?_
  obtain ⟨r_1, e_2, hrun⟩ := o_bh hrun
  refine cp_s (As := [.int p1]) (rest := []) S hK hA hZ Y hl.1 (mX6_isSpot l D p1 r_1 e_2) kX7_108 ⟨Nat.le_of_ble_eq_true rfl, Nat.le_of_ble_eq_true rfl⟩ rfl rfl (Nat.le_of_ble_eq_true rfl) ⟨Nat.le_of_ble_eq_true rfl, Nat.le_of_ble_eq_true rfl⟩ dX7_spot_1 (fun H locs Y => ?_)
  refine lv_if_ne (tgt := 11) hx hb dX7_spot_4 (by decide) (fun c_3 => ?_) (fun c_3 => ?_)
  · have hrun := o_f hrun c_3
    refine lv_iload_n hx hb dX7_spot_11 rfl (lv_at hl 2 rfl) ?_
    rcases Decidable.em (p2 = (0 : Int32)) with c_4 | c_4
    · have hrun := o_t hrun c_4
      refine lv_tableIn (off := 32) (tgt := 44) hx hb dX7_spot_12 (by rw [c_4]; decide) (by rw [c_4]; decide) (by rw [c_4]; rfl) (by decide) ?_
      refine lv_iload_n hx hb dX7_spot_44 rfl (lv_at hl 1 rfl) ?_
      obtain ⟨r_5, e_6, hrun⟩ := o_bh hrun
      refine cp_s (As := [.int p1]) (rest := []) S hK hA hZ Y hl.1 (mX6_fromBase l D p1 r_5 e_6) kX7_113 ⟨Nat.le_of_ble_eq_true rfl, Nat.le_of_ble_eq_true rfl⟩ rfl rfl (Nat.le_of_ble_eq_true rfl) ⟨Nat.le_of_ble_eq_true rfl, Nat.le_of_ble_eq_true rfl⟩ dX7_spot_45 (fun H locs Y => ?_)
      cases hrun
      exact me_ri S hK Y hr hlk rfl dX7_spot_48
    · have hrun := o_f hrun c_4
      rcases Decidable.em (p2 = (1 : Int32)) with c_7 | c_7
      · have hrun := o_t hrun c_7
        refine lv_tableIn (off := 37) (tgt := 49) hx hb dX7_spot_12 (by rw [c_7]; decide) (by rw [c_7]; decide) (by rw [c_7]; rfl) (by decide) ?_
        refine lv_aload_n hx hb dX7_spot_49 rfl (lv_at hl 0 rfl) ?_
        refine ig S hK Y fX7_10 0 rfl (v := .ref (h 0 0)) rfl dX7_spot_50 ?_
        refine ig S hK Y fX7_116 5 rfl (v := .ref (h 0 8)) rfl dX7_spot_53 ?_
        refine lv_iload_n hx hb dX7_spot_56 rfl (lv_at hl 1 rfl) ?_
        obtain ⟨b_8, hrun⟩ := o_xh hrun
        refine ia S hK Y 13 0 (f := ((Λ 0) 8)) rfl rfl b_8 dX7_spot_57 ?_
        cases hrun
        exact me_ri S hK Y hr hlk rfl dX7_spot_58
      · have hrun := o_f hrun c_7
        rcases Decidable.em (p2 = (2 : Int32)) with c_9 | c_9
        · have hrun := o_t hrun c_9
          refine lv_tableIn (off := 47) (tgt := 59) hx hb dX7_spot_12 (by rw [c_9]; decide) (by rw [c_9]; decide) (by rw [c_9]; rfl) (by decide) ?_
          refine lv_aload_n hx hb dX7_spot_59 rfl (lv_at hl 0 rfl) ?_
          refine ig S hK Y fX7_10 0 rfl (v := .ref (h 0 0)) rfl dX7_spot_60 ?_
          refine lv_iload_n hx hb dX7_spot_63 rfl (lv_at hl 1 rfl) ?_
          obtain ⟨r_10, e_11, hrun⟩ := o_bh hrun
          refine cg_v (ws2 := (wLr cI cS h (sg_3 Λ 0 (Λ 0)) (rL h π))) (it := [0]) (As := [.int p1]) (rest := []) S hK hA hZ Y hl.1 (mX5_isRetired l D cI (h 0) (Λ 0) p1 r_10 e_11) (cNC h Λ (rL h π)) (cNR h Λ (rL h π)) nNC nNR dN_ (cNP h Λ (rL h π) (Λ 0)) nNP rfl kX7_119 (T := TX5) (N := 16) rfl (q0 := 5) rfl ⟨Nat.le_of_ble_eq_true rfl, Nat.le_of_ble_eq_true rfl⟩ rfl rfl (Nat.le_of_ble_eq_true rfl) ⟨Nat.le_of_ble_eq_true rfl, Nat.le_of_ble_eq_true rfl⟩ dX7_spot_64 (fun H locs Y => ?_)
          have Y : dy_ D A s (wLr cI cS h Λ (rL h π)) H locs := Y
          refine lv_if_eq (tgt := 74) hx hb dX7_spot_67 (by decide) (fun c_12 => ?_) (fun c_12 => ?_)
          · have hrun := o_t hrun c_12
            refine lv_iconst (v := (0 : Int32)) hx hb dX7_spot_74 (by decide) ?_
            cases hrun
            exact me_ri S hK Y hr hlk rfl dX7_spot_75
          · have hrun := o_f hrun c_12
            refine lv_iconst (v := (1 : Int32)) hx hb dX7_spot_70 (by decide) ?_
            refine lv_goto (tgt := 75) hx hb dX7_spot_71 (by decide) ?_
            cases hrun
            exact me_ri S hK Y hr hlk rfl dX7_spot_75
        · have hrun := o_f hrun c_9
          rcases Decidable.em (p2 = (3 : Int32)) with c_13 | c_13
          · have hrun := o_t hrun c_13
            refine lv_tableIn (off := 64) (tgt := 76) hx hb dX7_spot_12 (by rw [c_13]; decide) (by rw [c_13]; decide) (by rw [c_13]; rfl) (by decide) ?_
            refine lv_aload_n hx hb dX7_spot_76 rfl (lv_at hl 0 rfl) ?_
            refine ig S hK Y fX7_10 0 rfl (v := .ref (h 0 0)) rfl dX7_spot_77 ?_
            refine lv_iload_n hx hb dX7_spot_80 rfl (lv_at hl 1 rfl) ?_
            obtain ⟨r_14, e_15, hrun⟩ := o_bh hrun
            refine cg_v (ws2 := (wLr cI cS h (sg_3 Λ 0 (Λ 0)) (rL h π))) (it := [0]) (As := [.int p1]) (rest := []) S hK hA hZ Y hl.1 (mX5_hidersAt l D cI (h 0) (Λ 0) p1 r_14 e_15) (cNC h Λ (rL h π)) (cNR h Λ (rL h π)) nNC nNR dN_ (cNP h Λ (rL h π) (Λ 0)) nNP rfl kX7_122 (T := TX5) (N := 16) rfl (q0 := 5) rfl ⟨Nat.le_of_ble_eq_true rfl, Nat.le_of_ble_eq_true rfl⟩ rfl rfl (Nat.le_of_ble_eq_true rfl) ⟨Nat.le_of_ble_eq_true rfl, Nat.le_of_ble_eq_true rfl⟩ dX7_spot_81 (fun H locs Y => ?_)
            have Y : dy_ D A s (wLr cI cS h Λ (rL h π)) H locs := Y
            cases hrun
            exact me_ri S hK Y hr hlk rfl dX7_spot_84
          · have hrun := o_f hrun c_13
            have tc_4 := lv_neT c_4 (show ((0 : Int32)).toInt = 0 by decide)
            have tc_7 := lv_neT c_7 (show ((1 : Int32)).toInt = 1 by decide)
            have tc_9 := lv_neT c_9 (show ((2 : Int32)).toInt = 2 by decide)
            have tc_13 := lv_neT c_13 (show ((3 : Int32)).toInt = 3 by decide)
            refine lv_tableOut (tgt := 85) hx hb dX7_spot_12 (by omega) (by decide) ?_
            refine lv_sipush (v := (-10002 : Int32)) hx hb dX7_spot_85 (by decide) ?_
            cases hrun
            exact me_ri S hK Y hr hlk rfl dX7_spot_88
  · have hrun := o_t hrun c_3
    refine lv_sipush (v := (-10001 : Int32)) hx hb dX7_spot_7 (by decide) ?_
    cases hrun
    exact me_ri S hK Y hr hlk rfl dX7_spot_10
def fX7_ranked (p1 : Int32) (Λ : s3_T) (π : Nat → Nat) : Option (Int32) := ((fX4_playerAt p1 (Λ 0)).bind fun r_1 => (some r_1))
set_option maxRecDepth 100000 in
set_option maxHeartbeats 4000000 in
theorem mX7_ranked (l : Launch) (D : va_G) (cI cS : ClassId) (h : Nat → Nat → Nat) (Λ : s3_T) (π : Nat → Nat) (p1 : Int32) (r : Int32) (hrun : fX7_ranked p1 Λ π = some r) : me_I l D (tL cI cS) yX7_ranked cX7_ranked 2 .int 3 67 (wL cI cS h Λ π) [.ref (h 8 0), .int p1] r (wL cI cS h Λ π) := by
  refine me_ofI (plainFor_of_name (by decide)) (Nat.le_of_ble_eq_true rfl) ?_
  intro p e s m args below meth c A ls S hK Y hA hl hr hlk hZ
  have hx := S.1
  have hb := S.2.1
  have hl : lv_has ls 2 [(0, .ref (h 8 0)), (1, .int p1)] := hl
  unfold fX7_ranked at hrun
  refine lv_aload_n hx hb dX7_ranked_0 rfl (lv_at hl 0 rfl) ?_
  refine ig S hK Y fX7_10 0 rfl (v := .ref (h 0 0)) rfl dX7_ranked_1 ?_
  refine lv_iload_n hx hb dX7_ranked_4 rfl (lv_at hl 1 rfl) ?_
  obtain ⟨r_1, e_2, hrun⟩ := o_bh hrun
  refine cg_s (ws2 := (wLr cI cS h (sg_3 Λ 0 (Λ 0)) (rL h π))) (it := [0]) (As := [.ref (h 0 0), .int p1]) (rest := []) S hK hA hZ Y hl.1 (mX4_playerAt l D cI (h 0) (Λ 0) p1 r_1 e_2) (cNC h Λ (rL h π)) (cNR h Λ (rL h π)) nNC nNR dN_ (cNP h Λ (rL h π) (Λ 0)) nNP rfl kX7_125 ⟨Nat.le_of_ble_eq_true rfl, Nat.le_of_ble_eq_true rfl⟩ rfl rfl (Nat.le_of_ble_eq_true rfl) ⟨Nat.le_of_ble_eq_true rfl, Nat.le_of_ble_eq_true rfl⟩ dX7_ranked_5 (fun H locs Y => ?_)
  have Y : dy_ D A s (wLr cI cS h Λ (rL h π)) H locs := Y
  cases hrun
  exact me_ri S hK Y hr hlk rfl dX7_ranked_8
def fX7_nextSeeker (Λ : s3_T) (π : Nat → Nat) : Option (Int32) := ((fX4_seekerOfNextRound (Λ 0)).bind fun r_1 => (some r_1))
set_option maxRecDepth 100000 in
set_option maxHeartbeats 4000000 in
theorem mX7_nextSeeker (l : Launch) (D : va_G) (cI cS : ClassId) (h : Nat → Nat → Nat) (Λ : s3_T) (π : Nat → Nat) (r : Int32) (hrun : fX7_nextSeeker Λ π = some r) : me_I l D (tL cI cS) yX7_nextSeeker cX7_nextSeeker 1 .int 3 66 (wL cI cS h Λ π) [.ref (h 8 0)] r (wL cI cS h Λ π) := by
  refine me_ofI (plainFor_of_name (by decide)) (Nat.le_of_ble_eq_true rfl) ?_
  intro p e s m args below meth c A ls S hK Y hA hl hr hlk hZ
  have hx := S.1
  have hb := S.2.1
  have hl : lv_has ls 1 [(0, .ref (h 8 0))] := hl
  unfold fX7_nextSeeker at hrun
  refine lv_aload_n hx hb dX7_nextSeeker_0 rfl (lv_at hl 0 rfl) ?_
  refine ig S hK Y fX7_10 0 rfl (v := .ref (h 0 0)) rfl dX7_nextSeeker_1 ?_
  obtain ⟨r_1, e_2, hrun⟩ := o_bh hrun
  refine cg_s (ws2 := (wLr cI cS h (sg_3 Λ 0 (Λ 0)) (rL h π))) (it := [0]) (As := [.ref (h 0 0)]) (rest := []) S hK hA hZ Y hl.1 (mX4_seekerOfNextRound l D cI (h 0) (Λ 0) r_1 e_2) (cNC h Λ (rL h π)) (cNR h Λ (rL h π)) nNC nNR dN_ (cNP h Λ (rL h π) (Λ 0)) nNP rfl kX7_128 ⟨Nat.le_of_ble_eq_true rfl, Nat.le_of_ble_eq_true rfl⟩ rfl rfl (Nat.le_of_ble_eq_true rfl) ⟨Nat.le_of_ble_eq_true rfl, Nat.le_of_ble_eq_true rfl⟩ dX7_nextSeeker_4 (fun H locs Y => ?_)
  have Y : dy_ D A s (wLr cI cS h Λ (rL h π)) H locs := Y
  cases hrun
  exact me_ri S hK Y hr hlk rfl dX7_nextSeeker_7
def fX7_total (p1 : Int32) (Λ : s3_T) (π : Nat → Nat) : Option (Int32) := (if p1 = (0 : Int32) then (some ((Λ 0) 0 0)) else (if p1 = (1 : Int32) then (some ((Λ 0) 0 1)) else (if p1 = (2 : Int32) then (some ((Λ 0) 0 2)) else (if p1 = (3 : Int32) then (some ((Λ 0) 0 3)) else (if p1 = (4 : Int32) then (some ((Λ 0) 0 4)) else (if p1 = (5 : Int32) then (some ((Λ 0) 0 5)) else (if p1 = (6 : Int32) then (some ((Λ 0) 0 6)) else (if p1 = (7 : Int32) then ((fX5_hiddenCount (Λ 0)).bind fun r_9 => (some r_9)) else (if p1 = (8 : Int32) then ((fX5_retiredCount (Λ 0)).bind fun r_12 => (some r_12)) else (if p1 = (9 : Int32) then ((fX5_sumOfPoints (Λ 0)).bind fun r_15 => (some r_15)) else (some (-10002 : Int32))))))))))))
set_option maxRecDepth 100000 in
set_option maxHeartbeats 4000000 in
theorem mX7_total (l : Launch) (D : va_G) (cI cS : ClassId) (h : Nat → Nat → Nat) (Λ : s3_T) (π : Nat → Nat) (p1 : Int32) (r : Int32) (hrun : fX7_total p1 Λ π = some r) : me_I l D (tL cI cS) yX7_total cX7_total 2 .int 3 64 (wL cI cS h Λ π) [.ref (h 8 0), .int p1] r (wL cI cS h Λ π) := by
  refine me_ofI (plainFor_of_name (by decide)) (Nat.le_of_ble_eq_true rfl) ?_
  intro p e s m args below meth c A ls S hK Y hA hl hr hlk hZ
  have hx := S.1
  have hb := S.2.1
  have hl : lv_has ls 2 [(0, .ref (h 8 0)), (1, .int p1)] := hl
  unfold fX7_total at hrun
  refine lv_iload_n hx hb dX7_total_0 rfl (lv_at hl 1 rfl) ?_
  rcases Decidable.em (p1 = (0 : Int32)) with c_1 | c_1
  · have hrun := o_t hrun c_1
    refine lv_tableIn (off := 55) (tgt := 56) hx hb dX7_total_1 (by rw [c_1]; decide) (by rw [c_1]; decide) (by rw [c_1]; rfl) (by decide) ?_
    refine lv_aload_n hx hb dX7_total_56 rfl (lv_at hl 0 rfl) ?_
    refine ig S hK Y fX7_10 0 rfl (v := .ref (h 0 0)) rfl dX7_total_57 ?_
    refine ig S hK Y fX7_131 5 rfl (v := .int ((Λ 0) 0 0)) rfl dX7_total_60 ?_
    cases hrun
    exact me_ri S hK Y hr hlk rfl dX7_total_63
  · have hrun := o_f hrun c_1
    rcases Decidable.em (p1 = (1 : Int32)) with c_2 | c_2
    · have hrun := o_t hrun c_2
      refine lv_tableIn (off := 63) (tgt := 64) hx hb dX7_total_1 (by rw [c_2]; decide) (by rw [c_2]; decide) (by rw [c_2]; rfl) (by decide) ?_
      refine lv_aload_n hx hb dX7_total_64 rfl (lv_at hl 0 rfl) ?_
      refine ig S hK Y fX7_10 0 rfl (v := .ref (h 0 0)) rfl dX7_total_65 ?_
      refine ig S hK Y fX7_135 5 rfl (v := .int ((Λ 0) 0 1)) rfl dX7_total_68 ?_
      cases hrun
      exact me_ri S hK Y hr hlk rfl dX7_total_71
    · have hrun := o_f hrun c_2
      rcases Decidable.em (p1 = (2 : Int32)) with c_3 | c_3
      · have hrun := o_t hrun c_3
        refine lv_tableIn (off := 71) (tgt := 72) hx hb dX7_total_1 (by rw [c_3]; decide) (by rw [c_3]; decide) (by rw [c_3]; rfl) (by decide) ?_
        refine lv_aload_n hx hb dX7_total_72 rfl (lv_at hl 0 rfl) ?_
        refine ig S hK Y fX7_10 0 rfl (v := .ref (h 0 0)) rfl dX7_total_73 ?_
        refine ig S hK Y fX7_138 5 rfl (v := .int ((Λ 0) 0 2)) rfl dX7_total_76 ?_
        cases hrun
        exact me_ri S hK Y hr hlk rfl dX7_total_79
      · have hrun := o_f hrun c_3
        rcases Decidable.em (p1 = (3 : Int32)) with c_4 | c_4
        · have hrun := o_t hrun c_4
          refine lv_tableIn (off := 79) (tgt := 80) hx hb dX7_total_1 (by rw [c_4]; decide) (by rw [c_4]; decide) (by rw [c_4]; rfl) (by decide) ?_
          refine lv_aload_n hx hb dX7_total_80 rfl (lv_at hl 0 rfl) ?_
          refine ig S hK Y fX7_10 0 rfl (v := .ref (h 0 0)) rfl dX7_total_81 ?_
          refine ig S hK Y fX7_141 5 rfl (v := .int ((Λ 0) 0 3)) rfl dX7_total_84 ?_
          cases hrun
          exact me_ri S hK Y hr hlk rfl dX7_total_87
        · have hrun := o_f hrun c_4
          rcases Decidable.em (p1 = (4 : Int32)) with c_5 | c_5
          · have hrun := o_t hrun c_5
            refine lv_tableIn (off := 87) (tgt := 88) hx hb dX7_total_1 (by rw [c_5]; decide) (by rw [c_5]; decide) (by rw [c_5]; rfl) (by decide) ?_
            refine lv_aload_n hx hb dX7_total_88 rfl (lv_at hl 0 rfl) ?_
            refine ig S hK Y fX7_10 0 rfl (v := .ref (h 0 0)) rfl dX7_total_89 ?_
            refine ig S hK Y fX7_144 5 rfl (v := .int ((Λ 0) 0 4)) rfl dX7_total_92 ?_
            cases hrun
            exact me_ri S hK Y hr hlk rfl dX7_total_95
          · have hrun := o_f hrun c_5
            rcases Decidable.em (p1 = (5 : Int32)) with c_6 | c_6
            · have hrun := o_t hrun c_6
              refine lv_tableIn (off := 95) (tgt := 96) hx hb dX7_total_1 (by rw [c_6]; decide) (by rw [c_6]; decide) (by rw [c_6]; rfl) (by decide) ?_
              refine lv_aload_n hx hb dX7_total_96 rfl (lv_at hl 0 rfl) ?_
              refine ig S hK Y fX7_10 0 rfl (v := .ref (h 0 0)) rfl dX7_total_97 ?_
              refine ig S hK Y fX7_147 5 rfl (v := .int ((Λ 0) 0 5)) rfl dX7_total_100 ?_
              cases hrun
              exact me_ri S hK Y hr hlk rfl dX7_total_103
            · have hrun := o_f hrun c_6
              rcases Decidable.em (p1 = (6 : Int32)) with c_7 | c_7
              · have hrun := o_t hrun c_7
                refine lv_tableIn (off := 103) (tgt := 104) hx hb dX7_total_1 (by rw [c_7]; decide) (by rw [c_7]; decide) (by rw [c_7]; rfl) (by decide) ?_
                refine lv_aload_n hx hb dX7_total_104 rfl (lv_at hl 0 rfl) ?_
                refine ig S hK Y fX7_10 0 rfl (v := .ref (h 0 0)) rfl dX7_total_105 ?_
                refine ig S hK Y fX7_150 5 rfl (v := .int ((Λ 0) 0 6)) rfl dX7_total_108 ?_
                cases hrun
                exact me_ri S hK Y hr hlk rfl dX7_total_111
              · have hrun := o_f hrun c_7
                rcases Decidable.em (p1 = (7 : Int32)) with c_8 | c_8
                · have hrun := o_t hrun c_8
                  refine lv_tableIn (off := 111) (tgt := 112) hx hb dX7_total_1 (by rw [c_8]; decide) (by rw [c_8]; decide) (by rw [c_8]; rfl) (by decide) ?_
                  refine lv_aload_n hx hb dX7_total_112 rfl (lv_at hl 0 rfl) ?_
                  refine ig S hK Y fX7_10 0 rfl (v := .ref (h 0 0)) rfl dX7_total_113 ?_
                  obtain ⟨r_9, e_10, hrun⟩ := o_bh hrun
                  refine cg_v (ws2 := (wLr cI cS h (sg_3 Λ 0 (Λ 0)) (rL h π))) (it := [0]) (As := []) (rest := []) S hK hA hZ Y hl.1 (mX5_hiddenCount l D cI (h 0) (Λ 0) r_9 e_10) (cNC h Λ (rL h π)) (cNR h Λ (rL h π)) nNC nNR dN_ (cNP h Λ (rL h π) (Λ 0)) nNP rfl kX7_153 (T := TX5) (N := 16) rfl (q0 := 5) rfl ⟨Nat.le_of_ble_eq_true rfl, Nat.le_of_ble_eq_true rfl⟩ rfl rfl (Nat.le_of_ble_eq_true rfl) ⟨Nat.le_of_ble_eq_true rfl, Nat.le_of_ble_eq_true rfl⟩ dX7_total_116 (fun H locs Y => ?_)
                  have Y : dy_ D A s (wLr cI cS h Λ (rL h π)) H locs := Y
                  cases hrun
                  exact me_ri S hK Y hr hlk rfl dX7_total_119
                · have hrun := o_f hrun c_8
                  rcases Decidable.em (p1 = (8 : Int32)) with c_11 | c_11
                  · have hrun := o_t hrun c_11
                    refine lv_tableIn (off := 119) (tgt := 120) hx hb dX7_total_1 (by rw [c_11]; decide) (by rw [c_11]; decide) (by rw [c_11]; rfl) (by decide) ?_
                    refine lv_aload_n hx hb dX7_total_120 rfl (lv_at hl 0 rfl) ?_
                    refine ig S hK Y fX7_10 0 rfl (v := .ref (h 0 0)) rfl dX7_total_121 ?_
                    obtain ⟨r_12, e_13, hrun⟩ := o_bh hrun
                    refine cg_v (ws2 := (wLr cI cS h (sg_3 Λ 0 (Λ 0)) (rL h π))) (it := [0]) (As := []) (rest := []) S hK hA hZ Y hl.1 (mX5_retiredCount l D cI (h 0) (Λ 0) r_12 e_13) (cNC h Λ (rL h π)) (cNR h Λ (rL h π)) nNC nNR dN_ (cNP h Λ (rL h π) (Λ 0)) nNP rfl kX7_157 (T := TX5) (N := 16) rfl (q0 := 5) rfl ⟨Nat.le_of_ble_eq_true rfl, Nat.le_of_ble_eq_true rfl⟩ rfl rfl (Nat.le_of_ble_eq_true rfl) ⟨Nat.le_of_ble_eq_true rfl, Nat.le_of_ble_eq_true rfl⟩ dX7_total_124 (fun H locs Y => ?_)
                    have Y : dy_ D A s (wLr cI cS h Λ (rL h π)) H locs := Y
                    cases hrun
                    exact me_ri S hK Y hr hlk rfl dX7_total_127
                  · have hrun := o_f hrun c_11
                    rcases Decidable.em (p1 = (9 : Int32)) with c_14 | c_14
                    · have hrun := o_t hrun c_14
                      refine lv_tableIn (off := 127) (tgt := 128) hx hb dX7_total_1 (by rw [c_14]; decide) (by rw [c_14]; decide) (by rw [c_14]; rfl) (by decide) ?_
                      refine lv_aload_n hx hb dX7_total_128 rfl (lv_at hl 0 rfl) ?_
                      refine ig S hK Y fX7_10 0 rfl (v := .ref (h 0 0)) rfl dX7_total_129 ?_
                      obtain ⟨r_15, e_16, hrun⟩ := o_bh hrun
                      refine cg_v (ws2 := (wLr cI cS h (sg_3 Λ 0 (Λ 0)) (rL h π))) (it := [0]) (As := []) (rest := []) S hK hA hZ Y hl.1 (mX5_sumOfPoints l D cI (h 0) (Λ 0) r_15 e_16) (cNC h Λ (rL h π)) (cNR h Λ (rL h π)) nNC nNR dN_ (cNP h Λ (rL h π) (Λ 0)) nNP rfl kX7_160 (T := TX5) (N := 16) rfl (q0 := 5) rfl ⟨Nat.le_of_ble_eq_true rfl, Nat.le_of_ble_eq_true rfl⟩ rfl rfl (Nat.le_of_ble_eq_true rfl) ⟨Nat.le_of_ble_eq_true rfl, Nat.le_of_ble_eq_true rfl⟩ dX7_total_132 (fun H locs Y => ?_)
                      have Y : dy_ D A s (wLr cI cS h Λ (rL h π)) H locs := Y
                      cases hrun
                      exact me_ri S hK Y hr hlk rfl dX7_total_135
                    · have hrun := o_f hrun c_14
                      have tc_1 := lv_neT c_1 (show ((0 : Int32)).toInt = 0 by decide)
                      have tc_2 := lv_neT c_2 (show ((1 : Int32)).toInt = 1 by decide)
                      have tc_3 := lv_neT c_3 (show ((2 : Int32)).toInt = 2 by decide)
                      have tc_4 := lv_neT c_4 (show ((3 : Int32)).toInt = 3 by decide)
                      have tc_5 := lv_neT c_5 (show ((4 : Int32)).toInt = 4 by decide)
                      have tc_6 := lv_neT c_6 (show ((5 : Int32)).toInt = 5 by decide)
                      have tc_7 := lv_neT c_7 (show ((6 : Int32)).toInt = 6 by decide)
                      have tc_8 := lv_neT c_8 (show ((7 : Int32)).toInt = 7 by decide)
                      have tc_11 := lv_neT c_11 (show ((8 : Int32)).toInt = 8 by decide)
                      have tc_14 := lv_neT c_14 (show ((9 : Int32)).toInt = 9 by decide)
                      refine lv_tableOut (tgt := 136) hx hb dX7_total_1 (by omega) (by decide) ?_
                      refine lv_sipush (v := (-10002 : Int32)) hx hb dX7_total_136 (by decide) ?_
                      cases hrun
                      exact me_ri S hK Y hr hlk rfl dX7_total_139
def fX7_inSight (Λ : s3_T) (π : Nat → Nat) : Option (Int32) := ((fX0_spotsInSight (Λ 0)).bind fun r_1 => (some r_1))
set_option maxRecDepth 100000 in
set_option maxHeartbeats 4000000 in
theorem mX7_inSight (l : Launch) (D : va_G) (cI cS : ClassId) (h : Nat → Nat → Nat) (Λ : s3_T) (π : Nat → Nat) (r : Int32) (hrun : fX7_inSight Λ π = some r) : me_I l D (tL cI cS) yX7_inSight cX7_inSight 1 .int 5 107 (wL cI cS h Λ π) [.ref (h 8 0)] r (wL cI cS h Λ π) := by
  refine me_ofI (plainFor_of_name (by decide)) (Nat.le_of_ble_eq_true rfl) ?_
  intro p e s m args below meth c A ls S hK Y hA hl hr hlk hZ
  have hx := S.1
  have hb := S.2.1
  have hl : lv_has ls 1 [(0, .ref (h 8 0))] := hl
  unfold fX7_inSight at hrun
  refine lv_aload_n hx hb dX7_inSight_0 rfl (lv_at hl 0 rfl) ?_
  refine ig S hK Y fX7_10 0 rfl (v := .ref (h 0 0)) rfl dX7_inSight_1 ?_
  obtain ⟨r_1, e_2, hrun⟩ := o_bh hrun
  refine cg_s (ws2 := (wLr cI cS h (sg_3 Λ 0 (Λ 0)) (rL h π))) (it := [0]) (As := [.ref (h 0 0)]) (rest := []) S hK hA hZ Y hl.1 (mX0_spotsInSight l D cI (h 0) (Λ 0) r_1 e_2) (cNC h Λ (rL h π)) (cNR h Λ (rL h π)) nNC nNR dN_ (cNP h Λ (rL h π) (Λ 0)) nNP rfl kX7_163 ⟨Nat.le_of_ble_eq_true rfl, Nat.le_of_ble_eq_true rfl⟩ rfl rfl (Nat.le_of_ble_eq_true rfl) ⟨Nat.le_of_ble_eq_true rfl, Nat.le_of_ble_eq_true rfl⟩ dX7_inSight_4 (fun H locs Y => ?_)
  have Y : dy_ D A s (wLr cI cS h Λ (rL h π)) H locs := Y
  cases hrun
  exact me_ri S hK Y hr hlk rfl dX7_inSight_7
def fX7_couldDash (Λ : s3_T) (π : Nat → Nat) : Option (Int32) := ((fX0_playersWhoWouldEscape (Λ 0)).bind fun r_1 => (some r_1))
set_option maxRecDepth 100000 in
set_option maxHeartbeats 4000000 in
theorem mX7_couldDash (l : Launch) (D : va_G) (cI cS : ClassId) (h : Nat → Nat → Nat) (Λ : s3_T) (π : Nat → Nat) (r : Int32) (hrun : fX7_couldDash Λ π = some r) : me_I l D (tL cI cS) yX7_couldDash cX7_couldDash 1 .int 5 106 (wL cI cS h Λ π) [.ref (h 8 0)] r (wL cI cS h Λ π) := by
  refine me_ofI (plainFor_of_name (by decide)) (Nat.le_of_ble_eq_true rfl) ?_
  intro p e s m args below meth c A ls S hK Y hA hl hr hlk hZ
  have hx := S.1
  have hb := S.2.1
  have hl : lv_has ls 1 [(0, .ref (h 8 0))] := hl
  unfold fX7_couldDash at hrun
  refine lv_aload_n hx hb dX7_couldDash_0 rfl (lv_at hl 0 rfl) ?_
  refine ig S hK Y fX7_10 0 rfl (v := .ref (h 0 0)) rfl dX7_couldDash_1 ?_
  obtain ⟨r_1, e_2, hrun⟩ := o_bh hrun
  refine cg_s (ws2 := (wLr cI cS h (sg_3 Λ 0 (Λ 0)) (rL h π))) (it := [0]) (As := [.ref (h 0 0)]) (rest := []) S hK hA hZ Y hl.1 (mX0_playersWhoWouldEscape l D cI (h 0) (Λ 0) r_1 e_2) (cNC h Λ (rL h π)) (cNR h Λ (rL h π)) nNC nNR dN_ (cNP h Λ (rL h π) (Λ 0)) nNP rfl kX7_168 ⟨Nat.le_of_ble_eq_true rfl, Nat.le_of_ble_eq_true rfl⟩ rfl rfl (Nat.le_of_ble_eq_true rfl) ⟨Nat.le_of_ble_eq_true rfl, Nat.le_of_ble_eq_true rfl⟩ dX7_couldDash_4 (fun H locs Y => ?_)
  have Y : dy_ D A s (wLr cI cS h Λ (rL h π)) H locs := Y
  cases hrun
  exact me_ri S hK Y hr hlk rfl dX7_couldDash_7
def fX7_bestSpot (Λ : s3_T) (π : Nat → Nat) : Option (Int32) := ((fX0_bestHidingSpot (Λ 0)).bind fun r_1 => (some r_1))
set_option maxRecDepth 100000 in
set_option maxHeartbeats 4000000 in
theorem mX7_bestSpot (l : Launch) (D : va_G) (cI cS : ClassId) (h : Nat → Nat → Nat) (Λ : s3_T) (π : Nat → Nat) (r : Int32) (hrun : fX7_bestSpot Λ π = some r) : me_I l D (tL cI cS) yX7_bestSpot cX7_bestSpot 1 .int 6 127 (wL cI cS h Λ π) [.ref (h 8 0)] r (wL cI cS h Λ π) := by
  refine me_ofI (plainFor_of_name (by decide)) (Nat.le_of_ble_eq_true rfl) ?_
  intro p e s m args below meth c A ls S hK Y hA hl hr hlk hZ
  have hx := S.1
  have hb := S.2.1
  have hl : lv_has ls 1 [(0, .ref (h 8 0))] := hl
  unfold fX7_bestSpot at hrun
  refine lv_aload_n hx hb dX7_bestSpot_0 rfl (lv_at hl 0 rfl) ?_
  refine ig S hK Y fX7_10 0 rfl (v := .ref (h 0 0)) rfl dX7_bestSpot_1 ?_
  obtain ⟨r_1, e_2, hrun⟩ := o_bh hrun
  refine cg_s (ws2 := (wLr cI cS h (sg_3 Λ 0 (Λ 0)) (rL h π))) (it := [0]) (As := [.ref (h 0 0)]) (rest := []) S hK hA hZ Y hl.1 (mX0_bestHidingSpot l D cI (h 0) (Λ 0) r_1 e_2) (cNC h Λ (rL h π)) (cNR h Λ (rL h π)) nNC nNR dN_ (cNP h Λ (rL h π) (Λ 0)) nNP rfl kX7_171 ⟨Nat.le_of_ble_eq_true rfl, Nat.le_of_ble_eq_true rfl⟩ rfl rfl (Nat.le_of_ble_eq_true rfl) ⟨Nat.le_of_ble_eq_true rfl, Nat.le_of_ble_eq_true rfl⟩ dX7_bestSpot_4 (fun H locs Y => ?_)
  have Y : dy_ D A s (wLr cI cS h Λ (rL h π)) H locs := Y
  cases hrun
  exact me_ri S hK Y hr hlk rfl dX7_bestSpot_7
def fX7_fewestSteps (Λ : s3_T) (π : Nat → Nat) : Option (Int32) := ((fX0_stepsToSeeAll (Λ 0)).bind fun r_1 => (some r_1))
set_option maxRecDepth 100000 in
set_option maxHeartbeats 4000000 in
theorem mX7_fewestSteps (l : Launch) (D : va_G) (cI cS : ClassId) (h : Nat → Nat → Nat) (Λ : s3_T) (π : Nat → Nat) (r : Int32) (hrun : fX7_fewestSteps Λ π = some r) : me_I l D (tL cI cS) yX7_fewestSteps cX7_fewestSteps 1 .int 6 133 (wL cI cS h Λ π) [.ref (h 8 0)] r (wL cI cS h Λ π) := by
  refine me_ofI (plainFor_of_name (by decide)) (Nat.le_of_ble_eq_true rfl) ?_
  intro p e s m args below meth c A ls S hK Y hA hl hr hlk hZ
  have hx := S.1
  have hb := S.2.1
  have hl : lv_has ls 1 [(0, .ref (h 8 0))] := hl
  unfold fX7_fewestSteps at hrun
  refine lv_aload_n hx hb dX7_fewestSteps_0 rfl (lv_at hl 0 rfl) ?_
  refine ig S hK Y fX7_10 0 rfl (v := .ref (h 0 0)) rfl dX7_fewestSteps_1 ?_
  obtain ⟨r_1, e_2, hrun⟩ := o_bh hrun
  refine cg_s (ws2 := (wLr cI cS h (sg_3 Λ 0 (Λ 0)) (rL h π))) (it := [0]) (As := [.ref (h 0 0)]) (rest := []) S hK hA hZ Y hl.1 (mX0_stepsToSeeAll l D cI (h 0) (Λ 0) r_1 e_2) (cNC h Λ (rL h π)) (cNR h Λ (rL h π)) nNC nNR dN_ (cNP h Λ (rL h π) (Λ 0)) nNP rfl kX7_174 ⟨Nat.le_of_ble_eq_true rfl, Nat.le_of_ble_eq_true rfl⟩ rfl rfl (Nat.le_of_ble_eq_true rfl) ⟨Nat.le_of_ble_eq_true rfl, Nat.le_of_ble_eq_true rfl⟩ dX7_fewestSteps_4 (fun H locs Y => ?_)
  have Y : dy_ D A s (wLr cI cS h Λ (rL h π)) H locs := Y
  cases hrun
  exact me_ri S hK Y hr hlk rfl dX7_fewestSteps_7
def fX3_draft (Λ : s3_T) (π : Nat → Nat) : Option (s3_T × (Nat → Nat)) := (o_x (Λ 8 0 1) 6 (o_k (2 ≤ π ((Λ 8 0 1)).toNatClampNeg ∧ π ((Λ 8 0 1)).toNatClampNeg < 8) (some ((sg_3 Λ (π ((Λ 8 0 1)).toNatClampNeg) (Λ (0))), π))))
set_option maxRecDepth 100000 in
set_option maxHeartbeats 4000000 in
theorem mX3_draft (l : Launch) (D : va_G) (cI cS : ClassId) (h : Nat → Nat → Nat) (Λ : s3_T) (π : Nat → Nat) (Λ' : s3_T) (π' : Nat → Nat) (hrun : fX3_draft Λ π = some (Λ', π')) : me_V l D (tL cI cS) yX3_draft cX3_draft 2 2 39 (wL cI cS h Λ π) [.ref (h 8 1), .ref (h 0 0)] (wL cI cS h Λ' π') := by
  refine me_ofV (plainFor_of_name (by decide)) (Nat.le_of_ble_eq_true rfl) ?_
  intro p e s m args below meth c A ls S hK Y hA hl hr hlk hZ
  have hx := S.1
  have hb := S.2.1
  have hl : lv_has ls 2 [(0, .ref (h 8 1)), (1, .ref (h 0 0))] := hl
  unfold fX3_draft at hrun
  refine lv_aload_n hx hb dX3_draft_0 rfl (lv_at hl 0 rfl) ?_
  refine ig S hK Y fX3_11 1 rfl (v := .ref (h 8 2)) rfl dX3_draft_1 ?_
  refine lv_aload_n hx hb dX3_draft_4 rfl (lv_at hl 0 rfl) ?_
  refine ig S hK Y fX3_17 1 rfl (v := .int (Λ 8 0 1)) rfl dX3_draft_5 ?_
  obtain ⟨b_1, hrun⟩ := o_xh hrun
  refine iaq S hK Y 2 1 (x := h (π ((Λ 8 0 1)).toNatClampNeg) 0) (f := (rL h π)) rfl rfl b_1 rfl dX3_draft_8 ?_
  refine lv_aload_n hx hb dX3_draft_9 rfl (lv_at hl 1 rfl) ?_
  obtain ⟨c_2, hrun⟩ := o_kh hrun
  obtain ⟨isC, isR, ps, wr, x1, x2, x3, x4, x5, x6, x7⟩ := ct_i cI cS h Λ (rL h π) _ c_2
  refine cg_vv (it := [0]) (As := [.ref (h 0 0)]) (rest := []) S hK hA hZ Y hl.1 (mX5_copyFrom l D cI (h (π ((Λ 8 0 1)).toNatClampNeg)) (h (0)) (Λ (π ((Λ 8 0 1)).toNatClampNeg)) (Λ (0))) x1 x2 x3 x4 x5 x6 x7 rfl kX3_22 (T := TX5) (N := 16) rfl (q0 := 5 + 10 * (π ((Λ 8 0 1)).toNatClampNeg)) (wL_st _ _ _ _ (by omega)) ⟨Nat.le_of_ble_eq_true rfl, Nat.le_of_ble_eq_true rfl⟩ rfl rfl (Nat.le_of_ble_eq_true rfl) ⟨Nat.le_of_ble_eq_true rfl, Nat.le_of_ble_eq_true rfl⟩ dX3_draft_10 (fun H locs Y => ?_)
  cases hrun
  exact me_rv S hK Y hr hlk dX3_draft_13
def fX3_discardOldest (Λ : s3_T) (π : Nat → Nat) : Option (s3_T × (Nat → Nat)) := (o_k (π 1 < 8) (o_k (π 2 < 8) (o_k (π 3 < 8) (o_k (π 4 < 8) (o_k (π 5 < 8) (o_k (π 0 < 8) (some (Λ, (dp_ π)))))))))
set_option maxRecDepth 100000 in
set_option maxHeartbeats 4000000 in
theorem mX3_discardOldest (l : Launch) (D : va_G) (cI cS : ClassId) (h : Nat → Nat → Nat) (Λ : s3_T) (π : Nat → Nat) (Λ' : s3_T) (π' : Nat → Nat) (hrun : fX3_discardOldest Λ π = some (Λ', π')) : me_V l D (tL cI cS) yX3_discardOldest cX3_discardOldest 3 0 0 (wL cI cS h Λ π) [.ref (h 8 1)] (wL cI cS h Λ' π') := by
  refine me_ofV (plainFor_of_name (by decide)) (Nat.le_of_ble_eq_true rfl) ?_
  intro p e s m args below meth c A ls S hK Y hA hl hr hlk hZ
  have hx := S.1
  have hb := S.2.1
  have hl : lv_has ls 3 [(0, .ref (h 8 1))] := hl
  unfold fX3_discardOldest at hrun
  refine lv_aload_n hx hb dX3_discardOldest_0 rfl (lv_at hl 0 rfl) ?_
  refine ig S hK Y fX3_11 1 rfl (v := .ref (h 8 2)) rfl dX3_discardOldest_1 ?_
  refine lv_iconst (v := (0 : Int32)) hx hb dX3_discardOldest_4 (by decide) ?_
  refine iaq S hK Y 2 1 (x := h (π 0) 0) (f := (rL h π)) rfl rfl (show ¬ ((0 : Int32) < 0 ∨ 6 ≤ ((0 : Int32)).toNatClampNeg) by decide) rfl dX3_discardOldest_5 ?_
  refine lv_astore_n (lv' := [(1, .ref (h (π 0) 0)), (0, .ref (h 8 1))]) hx hb dX3_discardOldest_6 rfl hl (Nat.le_of_ble_eq_true rfl) rfl (fun ls hl => ?_)
  refine lv_iconst (v := (0 : Int32)) hx hb dX3_discardOldest_7 (by decide) ?_
  refine lv_istore_n (lv' := [(2, .int (0 : Int32)), (1, .ref (h (π 0) 0)), (0, .ref (h 8 1))]) hx hb dX3_discardOldest_8 rfl hl (Nat.le_of_ble_eq_true rfl) rfl (fun ls hl => ?_)
  refine lv_iload_n hx hb dX3_discardOldest_9 rfl (lv_at hl 0 rfl) ?_
  refine lv_iconst (v := (5 : Int32)) hx hb dX3_discardOldest_10 (by decide) ?_
  refine lv_icmp_ge (tgt := 34) hx hb dX3_discardOldest_11 (by decide) (fun q => absurd q (by decide)) (fun _ => ?_)
  refine lv_aload_n hx hb dX3_discardOldest_14 rfl (lv_at hl 2 rfl) ?_
  refine ig S hK Y fX3_11 1 rfl (v := .ref (h 8 2)) rfl dX3_discardOldest_15 ?_
  refine lv_iload_n hx hb dX3_discardOldest_18 rfl (lv_at hl 0 rfl) ?_
  refine lv_aload_n hx hb dX3_discardOldest_19 rfl (lv_at hl 2 rfl) ?_
  refine ig S hK Y fX3_11 1 rfl (v := .ref (h 8 2)) rfl dX3_discardOldest_20 ?_
  refine lv_iload_n hx hb dX3_discardOldest_23 rfl (lv_at hl 0 rfl) ?_
  refine lv_iconst (v := (1 : Int32)) hx hb dX3_discardOldest_24 (by decide) ?_
  refine lv_iadd hx hb dX3_discardOldest_25 ?_
  rw [show ((0 : Int32) + (1 : Int32)) = (1 : Int32) by decide]
  refine iaq S hK Y 2 1 (x := h (π 1) 0) (f := (rL h π)) rfl rfl (show ¬ ((1 : Int32) < 0 ∨ 6 ≤ ((1 : Int32)).toNatClampNeg) by decide) rfl dX3_discardOldest_26 ?_
  obtain ⟨c_1, hrun⟩ := o_kh hrun
  refine iwq (r := (RX5, TX5, 16)) S hK Y 2 1 (5 + 10 * (π 1)) 2 (f := (rL h π)) rfl rfl (wL_st _ _ _ _ c_1) rfl (show ¬ ((0 : Int32) < 0 ∨ 6 ≤ ((0 : Int32)).toNatClampNeg) by decide) (ws' := (wLr cI cS h Λ (va_up (rL h π) 0 (some (h (π 1) 0))))) (wL_a _ _ _ _) dX3_discardOldest_27 (fun H locs Y => ?_)
  refine lv_iinc (v := (1 : Int32)) (lv' := [(2, .int (1 : Int32)), (1, .ref (h (π 0) 0)), (0, .ref (h 8 1))]) hx hb dX3_discardOldest_28 hl (k := 0) rfl (by decide) (Nat.le_of_ble_eq_true rfl) rfl (fun ls hl => ?_)
  refine lv_goto (tgt := 9) hx hb dX3_discardOldest_31 (by decide) ?_
  refine lv_iload_n hx hb dX3_discardOldest_9 rfl (lv_at hl 0 rfl) ?_
  refine lv_iconst (v := (5 : Int32)) hx hb dX3_discardOldest_10 (by decide) ?_
  refine lv_icmp_ge (tgt := 34) hx hb dX3_discardOldest_11 (by decide) (fun q => absurd q (by decide)) (fun _ => ?_)
  refine lv_aload_n hx hb dX3_discardOldest_14 rfl (lv_at hl 2 rfl) ?_
  refine ig S hK Y fX3_11 1 rfl (v := .ref (h 8 2)) rfl dX3_discardOldest_15 ?_
  refine lv_iload_n hx hb dX3_discardOldest_18 rfl (lv_at hl 0 rfl) ?_
  refine lv_aload_n hx hb dX3_discardOldest_19 rfl (lv_at hl 2 rfl) ?_
  refine ig S hK Y fX3_11 1 rfl (v := .ref (h 8 2)) rfl dX3_discardOldest_20 ?_
  refine lv_iload_n hx hb dX3_discardOldest_23 rfl (lv_at hl 0 rfl) ?_
  refine lv_iconst (v := (1 : Int32)) hx hb dX3_discardOldest_24 (by decide) ?_
  refine lv_iadd hx hb dX3_discardOldest_25 ?_
  rw [show ((1 : Int32) + (1 : Int32)) = (2 : Int32) by decide]
  refine iaq S hK Y 2 1 (x := h (π 2) 0) (f := (va_up (rL h π) 0 (some (h (π 1) 0)))) rfl rfl (show ¬ ((2 : Int32) < 0 ∨ 6 ≤ ((2 : Int32)).toNatClampNeg) by decide) rfl dX3_discardOldest_26 ?_
  obtain ⟨c_2, hrun⟩ := o_kh hrun
  refine iwq (r := (RX5, TX5, 16)) S hK Y 2 1 (5 + 10 * (π 2)) 2 (f := (va_up (rL h π) 0 (some (h (π 1) 0)))) rfl rfl (wL_st _ _ _ _ c_2) rfl (show ¬ ((1 : Int32) < 0 ∨ 6 ≤ ((1 : Int32)).toNatClampNeg) by decide) (ws' := (wLr cI cS h Λ (va_up (va_up (rL h π) 0 (some (h (π 1) 0))) 1 (some (h (π 2) 0))))) (wL_a _ _ _ _) dX3_discardOldest_27 (fun H locs Y => ?_)
  refine lv_iinc (v := (2 : Int32)) (lv' := [(2, .int (2 : Int32)), (1, .ref (h (π 0) 0)), (0, .ref (h 8 1))]) hx hb dX3_discardOldest_28 hl (k := 0) rfl (by decide) (Nat.le_of_ble_eq_true rfl) rfl (fun ls hl => ?_)
  refine lv_goto (tgt := 9) hx hb dX3_discardOldest_31 (by decide) ?_
  refine lv_iload_n hx hb dX3_discardOldest_9 rfl (lv_at hl 0 rfl) ?_
  refine lv_iconst (v := (5 : Int32)) hx hb dX3_discardOldest_10 (by decide) ?_
  refine lv_icmp_ge (tgt := 34) hx hb dX3_discardOldest_11 (by decide) (fun q => absurd q (by decide)) (fun _ => ?_)
  refine lv_aload_n hx hb dX3_discardOldest_14 rfl (lv_at hl 2 rfl) ?_
  refine ig S hK Y fX3_11 1 rfl (v := .ref (h 8 2)) rfl dX3_discardOldest_15 ?_
  refine lv_iload_n hx hb dX3_discardOldest_18 rfl (lv_at hl 0 rfl) ?_
  refine lv_aload_n hx hb dX3_discardOldest_19 rfl (lv_at hl 2 rfl) ?_
  refine ig S hK Y fX3_11 1 rfl (v := .ref (h 8 2)) rfl dX3_discardOldest_20 ?_
  refine lv_iload_n hx hb dX3_discardOldest_23 rfl (lv_at hl 0 rfl) ?_
  refine lv_iconst (v := (1 : Int32)) hx hb dX3_discardOldest_24 (by decide) ?_
  refine lv_iadd hx hb dX3_discardOldest_25 ?_
  rw [show ((2 : Int32) + (1 : Int32)) = (3 : Int32) by decide]
  refine iaq S hK Y 2 1 (x := h (π 3) 0) (f := (va_up (va_up (rL h π) 0 (some (h (π 1) 0))) 1 (some (h (π 2) 0)))) rfl rfl (show ¬ ((3 : Int32) < 0 ∨ 6 ≤ ((3 : Int32)).toNatClampNeg) by decide) rfl dX3_discardOldest_26 ?_
  obtain ⟨c_3, hrun⟩ := o_kh hrun
  refine iwq (r := (RX5, TX5, 16)) S hK Y 2 1 (5 + 10 * (π 3)) 2 (f := (va_up (va_up (rL h π) 0 (some (h (π 1) 0))) 1 (some (h (π 2) 0)))) rfl rfl (wL_st _ _ _ _ c_3) rfl (show ¬ ((2 : Int32) < 0 ∨ 6 ≤ ((2 : Int32)).toNatClampNeg) by decide) (ws' := (wLr cI cS h Λ (va_up (va_up (va_up (rL h π) 0 (some (h (π 1) 0))) 1 (some (h (π 2) 0))) 2 (some (h (π 3) 0))))) (wL_a _ _ _ _) dX3_discardOldest_27 (fun H locs Y => ?_)
  refine lv_iinc (v := (3 : Int32)) (lv' := [(2, .int (3 : Int32)), (1, .ref (h (π 0) 0)), (0, .ref (h 8 1))]) hx hb dX3_discardOldest_28 hl (k := 0) rfl (by decide) (Nat.le_of_ble_eq_true rfl) rfl (fun ls hl => ?_)
  refine lv_goto (tgt := 9) hx hb dX3_discardOldest_31 (by decide) ?_
  refine lv_iload_n hx hb dX3_discardOldest_9 rfl (lv_at hl 0 rfl) ?_
  refine lv_iconst (v := (5 : Int32)) hx hb dX3_discardOldest_10 (by decide) ?_
  refine lv_icmp_ge (tgt := 34) hx hb dX3_discardOldest_11 (by decide) (fun q => absurd q (by decide)) (fun _ => ?_)
  refine lv_aload_n hx hb dX3_discardOldest_14 rfl (lv_at hl 2 rfl) ?_
  refine ig S hK Y fX3_11 1 rfl (v := .ref (h 8 2)) rfl dX3_discardOldest_15 ?_
  refine lv_iload_n hx hb dX3_discardOldest_18 rfl (lv_at hl 0 rfl) ?_
  refine lv_aload_n hx hb dX3_discardOldest_19 rfl (lv_at hl 2 rfl) ?_
  refine ig S hK Y fX3_11 1 rfl (v := .ref (h 8 2)) rfl dX3_discardOldest_20 ?_
  refine lv_iload_n hx hb dX3_discardOldest_23 rfl (lv_at hl 0 rfl) ?_
  refine lv_iconst (v := (1 : Int32)) hx hb dX3_discardOldest_24 (by decide) ?_
  refine lv_iadd hx hb dX3_discardOldest_25 ?_
  rw [show ((3 : Int32) + (1 : Int32)) = (4 : Int32) by decide]
  refine iaq S hK Y 2 1 (x := h (π 4) 0) (f := (va_up (va_up (va_up (rL h π) 0 (some (h (π 1) 0))) 1 (some (h (π 2) 0))) 2 (some (h (π 3) 0)))) rfl rfl (show ¬ ((4 : Int32) < 0 ∨ 6 ≤ ((4 : Int32)).toNatClampNeg) by decide) rfl dX3_discardOldest_26 ?_
  obtain ⟨c_4, hrun⟩ := o_kh hrun
  refine iwq (r := (RX5, TX5, 16)) S hK Y 2 1 (5 + 10 * (π 4)) 2 (f := (va_up (va_up (va_up (rL h π) 0 (some (h (π 1) 0))) 1 (some (h (π 2) 0))) 2 (some (h (π 3) 0)))) rfl rfl (wL_st _ _ _ _ c_4) rfl (show ¬ ((3 : Int32) < 0 ∨ 6 ≤ ((3 : Int32)).toNatClampNeg) by decide) (ws' := (wLr cI cS h Λ (va_up (va_up (va_up (va_up (rL h π) 0 (some (h (π 1) 0))) 1 (some (h (π 2) 0))) 2 (some (h (π 3) 0))) 3 (some (h (π 4) 0))))) (wL_a _ _ _ _) dX3_discardOldest_27 (fun H locs Y => ?_)
  refine lv_iinc (v := (4 : Int32)) (lv' := [(2, .int (4 : Int32)), (1, .ref (h (π 0) 0)), (0, .ref (h 8 1))]) hx hb dX3_discardOldest_28 hl (k := 0) rfl (by decide) (Nat.le_of_ble_eq_true rfl) rfl (fun ls hl => ?_)
  refine lv_goto (tgt := 9) hx hb dX3_discardOldest_31 (by decide) ?_
  refine lv_iload_n hx hb dX3_discardOldest_9 rfl (lv_at hl 0 rfl) ?_
  refine lv_iconst (v := (5 : Int32)) hx hb dX3_discardOldest_10 (by decide) ?_
  refine lv_icmp_ge (tgt := 34) hx hb dX3_discardOldest_11 (by decide) (fun q => absurd q (by decide)) (fun _ => ?_)
  refine lv_aload_n hx hb dX3_discardOldest_14 rfl (lv_at hl 2 rfl) ?_
  refine ig S hK Y fX3_11 1 rfl (v := .ref (h 8 2)) rfl dX3_discardOldest_15 ?_
  refine lv_iload_n hx hb dX3_discardOldest_18 rfl (lv_at hl 0 rfl) ?_
  refine lv_aload_n hx hb dX3_discardOldest_19 rfl (lv_at hl 2 rfl) ?_
  refine ig S hK Y fX3_11 1 rfl (v := .ref (h 8 2)) rfl dX3_discardOldest_20 ?_
  refine lv_iload_n hx hb dX3_discardOldest_23 rfl (lv_at hl 0 rfl) ?_
  refine lv_iconst (v := (1 : Int32)) hx hb dX3_discardOldest_24 (by decide) ?_
  refine lv_iadd hx hb dX3_discardOldest_25 ?_
  rw [show ((4 : Int32) + (1 : Int32)) = (5 : Int32) by decide]
  refine iaq S hK Y 2 1 (x := h (π 5) 0) (f := (va_up (va_up (va_up (va_up (rL h π) 0 (some (h (π 1) 0))) 1 (some (h (π 2) 0))) 2 (some (h (π 3) 0))) 3 (some (h (π 4) 0)))) rfl rfl (show ¬ ((5 : Int32) < 0 ∨ 6 ≤ ((5 : Int32)).toNatClampNeg) by decide) rfl dX3_discardOldest_26 ?_
  obtain ⟨c_5, hrun⟩ := o_kh hrun
  refine iwq (r := (RX5, TX5, 16)) S hK Y 2 1 (5 + 10 * (π 5)) 2 (f := (va_up (va_up (va_up (va_up (rL h π) 0 (some (h (π 1) 0))) 1 (some (h (π 2) 0))) 2 (some (h (π 3) 0))) 3 (some (h (π 4) 0)))) rfl rfl (wL_st _ _ _ _ c_5) rfl (show ¬ ((4 : Int32) < 0 ∨ 6 ≤ ((4 : Int32)).toNatClampNeg) by decide) (ws' := (wLr cI cS h Λ (va_up (va_up (va_up (va_up (va_up (rL h π) 0 (some (h (π 1) 0))) 1 (some (h (π 2) 0))) 2 (some (h (π 3) 0))) 3 (some (h (π 4) 0))) 4 (some (h (π 5) 0))))) (wL_a _ _ _ _) dX3_discardOldest_27 (fun H locs Y => ?_)
  refine lv_iinc (v := (5 : Int32)) (lv' := [(2, .int (5 : Int32)), (1, .ref (h (π 0) 0)), (0, .ref (h 8 1))]) hx hb dX3_discardOldest_28 hl (k := 0) rfl (by decide) (Nat.le_of_ble_eq_true rfl) rfl (fun ls hl => ?_)
  refine lv_goto (tgt := 9) hx hb dX3_discardOldest_31 (by decide) ?_
  refine lv_iload_n hx hb dX3_discardOldest_9 rfl (lv_at hl 0 rfl) ?_
  refine lv_iconst (v := (5 : Int32)) hx hb dX3_discardOldest_10 (by decide) ?_
  refine lv_icmp_ge (tgt := 34) hx hb dX3_discardOldest_11 (by decide) (fun _ => ?_) (fun q => absurd (by decide) q)
  refine lv_aload_n hx hb dX3_discardOldest_34 rfl (lv_at hl 2 rfl) ?_
  refine ig S hK Y fX3_11 1 rfl (v := .ref (h 8 2)) rfl dX3_discardOldest_35 ?_
  refine lv_iconst (v := (5 : Int32)) hx hb dX3_discardOldest_38 (by decide) ?_
  refine lv_aload_n hx hb dX3_discardOldest_39 rfl (lv_at hl 1 rfl) ?_
  obtain ⟨c_6, hrun⟩ := o_kh hrun
  refine iwq (r := (RX5, TX5, 16)) S hK Y 2 1 (5 + 10 * (π 0)) 2 (f := (va_up (va_up (va_up (va_up (va_up (rL h π) 0 (some (h (π 1) 0))) 1 (some (h (π 2) 0))) 2 (some (h (π 3) 0))) 3 (some (h (π 4) 0))) 4 (some (h (π 5) 0)))) rfl rfl (wL_st _ _ _ _ c_6) rfl (show ¬ ((5 : Int32) < 0 ∨ 6 ≤ ((5 : Int32)).toNatClampNeg) by decide) (ws' := (wLr cI cS h Λ (va_up (va_up (va_up (va_up (va_up (va_up (rL h π) 0 (some (h (π 1) 0))) 1 (some (h (π 2) 0))) 2 (some (h (π 3) 0))) 3 (some (h (π 4) 0))) 4 (some (h (π 5) 0))) 5 (some (h (π 0) 0))))) (wL_a _ _ _ _) dX3_discardOldest_40 (fun H locs Y => ?_)
  rw [dp_eq] at Y
  cases hrun
  exact me_rv S hK Y hr hlk dX3_discardOldest_41
def fX3_keep (p1 : Int32) (Λ : s3_T) (π : Nat → Nat) : Option (Int32 × s3_T × (Nat → Nat)) := (if 0 ≤ p1 then (if (5 : Int32) ≤ (Λ 8 0 1) then ((fX3_discardOldest Λ π).bind fun q_3 => (some (p1, q_3.1, q_3.2))) else (some (p1, (sg_3 Λ 8 (sg_a (Λ 8) 0 (sg_u (Λ 8 0) 1 ((Λ 8 0 1) + (1 : Int32))))), π))) else (some (p1, Λ, π)))
set_option maxRecDepth 100000 in
set_option maxHeartbeats 4000000 in
theorem mX3_keep (l : Launch) (D : va_G) (cI cS : ClassId) (h : Nat → Nat → Nat) (Λ : s3_T) (π : Nat → Nat) (p1 : Int32) (r : Int32) (Λ' : s3_T) (π' : Nat → Nat) (hrun : fX3_keep p1 Λ π = some (r, Λ', π')) : me_I l D (tL cI cS) yX3_keep cX3_keep 2 .int 1 22 (wL cI cS h Λ π) [.ref (h 8 1), .int p1] r (wL cI cS h Λ' π') := by
  refine me_ofI (plainFor_of_name (by decide)) (Nat.le_of_ble_eq_true rfl) ?_
  intro p e s m args below meth c A ls S hK Y hA hl hr hlk hZ
  have hx := S.1
  have hb := S.2.1
  have hl : lv_has ls 2 [(0, .ref (h 8 1)), (1, .int p1)] := hl
  unfold fX3_keep at hrun
  refine lv_iload_n hx hb dX3_keep_0 rfl (lv_at hl 1 rfl) ?_
  refine lv_if_ge (tgt := 6) hx hb dX3_keep_1 (by decide) (fun c_1 => ?_) (fun c_1 => ?_)
  · have hrun := o_t hrun c_1
    refine lv_aload_n hx hb dX3_keep_6 rfl (lv_at hl 0 rfl) ?_
    refine ig S hK Y fX3_17 1 rfl (v := .int (Λ 8 0 1)) rfl dX3_keep_7 ?_
    refine lv_iconst (v := (5 : Int32)) hx hb dX3_keep_10 (by decide) ?_
    refine lv_icmp_ge (tgt := 27) hx hb dX3_keep_11 (by decide) (fun c_2 => ?_) (fun c_2 => ?_)
    · have hrun := o_t hrun c_2
      refine lv_aload_n hx hb dX3_keep_27 rfl (lv_at hl 0 rfl) ?_
      obtain ⟨q_3, e_4, hrun⟩ := o_bh hrun
      refine cf_vv (As := []) (rest := []) S hK hA hZ Y hl.1 (mX3_discardOldest l D cI cS h Λ π q_3.1 q_3.2 e_4) kX3_26 (T := TX3) (N := 2) rfl (q0 := 1) rfl ⟨Nat.le_of_ble_eq_true rfl, Nat.le_of_ble_eq_true rfl⟩ rfl rfl (Nat.le_of_ble_eq_true rfl) ⟨Nat.le_of_ble_eq_true rfl, Nat.le_of_ble_eq_true rfl⟩ dX3_keep_28 (fun H locs Y => ?_)
      refine lv_iload_n hx hb dX3_keep_31 rfl (lv_at hl 1 rfl) ?_
      cases hrun
      exact me_ri S hK Y hr hlk rfl dX3_keep_32
    · have hrun := o_f hrun c_2
      refine lv_aload_n hx hb dX3_keep_14 rfl (lv_at hl 0 rfl) ?_
      refine lv_dup hx hb dX3_keep_15 rfl ?_
      refine ig S hK Y fX3_17 1 rfl (v := .int (Λ 8 0 1)) rfl dX3_keep_16 ?_
      refine lv_iconst (v := (1 : Int32)) hx hb dX3_keep_19 (by decide) ?_
      refine lv_iadd hx hb dX3_keep_20 ?_
      refine ip S hK Y fX3_17 fpX3 rfl 1 (fs := [.ref (h 8 2), .int (Λ 8 0 1)]) rfl rfl rfl (Nat.le_of_ble_eq_true rfl) (ws' := (wLr cI cS h (sg_3 Λ 8 (sg_a (Λ 8) 0 (sg_u (Λ 8 0) 1 ((Λ 8 0 1) + (1 : Int32))))) (rL h π))) (wL_f1 _ _ _ _) dX3_keep_21 (fun H locs Y => ?_)
      refine lv_goto (tgt := 31) hx hb dX3_keep_24 (by decide) ?_
      refine lv_iload_n hx hb dX3_keep_31 rfl (lv_at hl 1 rfl) ?_
      cases hrun
      exact me_ri S hK Y hr hlk rfl dX3_keep_32
  · have hrun := o_f hrun c_1
    refine lv_iload_n hx hb dX3_keep_4 rfl (lv_at hl 1 rfl) ?_
    cases hrun
    exact me_ri S hK Y hr hlk rfl dX3_keep_5
def fX7_set (p1 p2 : Int32) (Λ : s3_T) (π : Nat → Nat) : Option (Int32 × s3_T × (Nat → Nat)) := ((fX3_draft Λ π).bind fun q_1 => ((fX2_changeSetting p1 p2 (q_1.1 0)).bind fun q_3 => ((fX3_keep q_3.1 (sg_3 q_1.1 0 q_3.2) q_1.2).bind fun q_5 => (some (q_5.1, q_5.2.1, q_5.2.2)))))
set_option maxRecDepth 100000 in
set_option maxHeartbeats 4000000 in
theorem mX7_set (l : Launch) (D : va_G) (cI cS : ClassId) (h : Nat → Nat → Nat) (Λ : s3_T) (π : Nat → Nat) (p1 p2 : Int32) (r : Int32) (Λ' : s3_T) (π' : Nat → Nat) (hrun : fX7_set p1 p2 Λ π = some (r, Λ', π')) : me_I l D (tL cI cS) yX7_set cX7_set 3 .int 3 60 (wL cI cS h Λ π) [.ref (h 8 0), .int p1, .int p2] r (wL cI cS h Λ' π') := by
  refine me_ofI (plainFor_of_name (by decide)) (Nat.le_of_ble_eq_true rfl) ?_
  intro p e s m args below meth c A ls S hK Y hA hl hr hlk hZ
  have hx := S.1
  have hb := S.2.1
  have hl : lv_has ls 3 [(0, .ref (h 8 0)), (1, .int p1), (2, .int p2)] := hl
  unfold fX7_set at hrun
  refine lv_aload_n hx hb dX7_set_0 rfl (lv_at hl 0 rfl) ?_
  refine ig S hK Y fX7_22 0 rfl (v := .ref (h 8 1)) rfl dX7_set_1 ?_
  refine lv_aload_n hx hb dX7_set_4 rfl (lv_at hl 0 rfl) ?_
  refine ig S hK Y fX7_10 0 rfl (v := .ref (h 0 0)) rfl dX7_set_5 ?_
  obtain ⟨q_1, e_2, hrun⟩ := o_bh hrun
  refine cf_vv (As := [.ref (h 0 0)]) (rest := []) S hK hA hZ Y hl.1 (mX3_draft l D cI cS h Λ π q_1.1 q_1.2 e_2) kX7_37 (T := TX3) (N := 2) rfl (q0 := 1) rfl ⟨Nat.le_of_ble_eq_true rfl, Nat.le_of_ble_eq_true rfl⟩ rfl rfl (Nat.le_of_ble_eq_true rfl) ⟨Nat.le_of_ble_eq_true rfl, Nat.le_of_ble_eq_true rfl⟩ dX7_set_8 (fun H locs Y => ?_)
  refine lv_aload_n hx hb dX7_set_11 rfl (lv_at hl 0 rfl) ?_
  refine ig S hK Y fX7_22 0 rfl (v := .ref (h 8 1)) rfl dX7_set_12 ?_
  refine lv_aload_n hx hb dX7_set_15 rfl (lv_at hl 0 rfl) ?_
  refine ig S hK Y fX7_10 0 rfl (v := .ref (h 0 0)) rfl dX7_set_16 ?_
  refine lv_iload_n hx hb dX7_set_19 rfl (lv_at hl 1 rfl) ?_
  refine lv_iload_n hx hb dX7_set_20 rfl (lv_at hl 2 rfl) ?_
  obtain ⟨q_3, e_4, hrun⟩ := o_bh hrun
  refine cg_s (ws2 := (wLr cI cS h (sg_3 q_1.1 0 q_3.2) (rL h q_1.2))) (it := [0]) (As := [.ref (h 0 0), .int p1, .int p2]) (rest := [.ref (h 8 1)]) S hK hA hZ Y hl.1 (mX2_changeSetting l D cI (h 0) (q_1.1 0) p1 p2 q_3.1 q_3.2 e_4) (cNC h q_1.1 (rL h q_1.2)) (cNR h q_1.1 (rL h q_1.2)) nNC nNR dN_ (cNP h q_1.1 (rL h q_1.2) q_3.2) nNP rfl kX7_41 ⟨Nat.le_of_ble_eq_true rfl, Nat.le_of_ble_eq_true rfl⟩ rfl rfl (Nat.le_of_ble_eq_true rfl) ⟨Nat.le_of_ble_eq_true rfl, Nat.le_of_ble_eq_true rfl⟩ dX7_set_21 (fun H locs Y => ?_)
  obtain ⟨q_5, e_6, hrun⟩ := o_bh hrun
  refine cf_v (As := [.int q_3.1]) (rest := []) S hK hA hZ Y hl.1 (mX3_keep l D cI cS h (sg_3 q_1.1 0 q_3.2) q_1.2 q_3.1 q_5.1 q_5.2.1 q_5.2.2 e_6) kX7_47 (T := TX3) (N := 2) rfl (q0 := 1) rfl ⟨Nat.le_of_ble_eq_true rfl, Nat.le_of_ble_eq_true rfl⟩ rfl rfl (Nat.le_of_ble_eq_true rfl) ⟨Nat.le_of_ble_eq_true rfl, Nat.le_of_ble_eq_true rfl⟩ dX7_set_24 (fun H locs Y => ?_)
  cases hrun
  exact me_ri S hK Y hr hlk rfl dX7_set_27
def fX7_join (Λ : s3_T) (π : Nat → Nat) : Option (Int32 × s3_T × (Nat → Nat)) := ((fX3_draft Λ π).bind fun q_1 => ((fX2_addPlayer (q_1.1 0)).bind fun q_3 => ((fX3_keep q_3.1 (sg_3 q_1.1 0 q_3.2) q_1.2).bind fun q_5 => (some (q_5.1, q_5.2.1, q_5.2.2)))))
set_option maxRecDepth 100000 in
set_option maxHeartbeats 4000000 in
theorem mX7_join (l : Launch) (D : va_G) (cI cS : ClassId) (h : Nat → Nat → Nat) (Λ : s3_T) (π : Nat → Nat) (r : Int32) (Λ' : s3_T) (π' : Nat → Nat) (hrun : fX7_join Λ π = some (r, Λ', π')) : me_I l D (tL cI cS) yX7_join cX7_join 1 .int 3 60 (wL cI cS h Λ π) [.ref (h 8 0)] r (wL cI cS h Λ' π') := by
  refine me_ofI (plainFor_of_name (by decide)) (Nat.le_of_ble_eq_true rfl) ?_
  intro p e s m args below meth c A ls S hK Y hA hl hr hlk hZ
  have hx := S.1
  have hb := S.2.1
  have hl : lv_has ls 1 [(0, .ref (h 8 0))] := hl
  unfold fX7_join at hrun
  refine lv_aload_n hx hb dX7_join_0 rfl (lv_at hl 0 rfl) ?_
  refine ig S hK Y fX7_22 0 rfl (v := .ref (h 8 1)) rfl dX7_join_1 ?_
  refine lv_aload_n hx hb dX7_join_4 rfl (lv_at hl 0 rfl) ?_
  refine ig S hK Y fX7_10 0 rfl (v := .ref (h 0 0)) rfl dX7_join_5 ?_
  obtain ⟨q_1, e_2, hrun⟩ := o_bh hrun
  refine cf_vv (As := [.ref (h 0 0)]) (rest := []) S hK hA hZ Y hl.1 (mX3_draft l D cI cS h Λ π q_1.1 q_1.2 e_2) kX7_37 (T := TX3) (N := 2) rfl (q0 := 1) rfl ⟨Nat.le_of_ble_eq_true rfl, Nat.le_of_ble_eq_true rfl⟩ rfl rfl (Nat.le_of_ble_eq_true rfl) ⟨Nat.le_of_ble_eq_true rfl, Nat.le_of_ble_eq_true rfl⟩ dX7_join_8 (fun H locs Y => ?_)
  refine lv_aload_n hx hb dX7_join_11 rfl (lv_at hl 0 rfl) ?_
  refine ig S hK Y fX7_22 0 rfl (v := .ref (h 8 1)) rfl dX7_join_12 ?_
  refine lv_aload_n hx hb dX7_join_15 rfl (lv_at hl 0 rfl) ?_
  refine ig S hK Y fX7_10 0 rfl (v := .ref (h 0 0)) rfl dX7_join_16 ?_
  obtain ⟨q_3, e_4, hrun⟩ := o_bh hrun
  refine cg_s (ws2 := (wLr cI cS h (sg_3 q_1.1 0 q_3.2) (rL h q_1.2))) (it := [0]) (As := [.ref (h 0 0)]) (rest := [.ref (h 8 1)]) S hK hA hZ Y hl.1 (mX2_addPlayer l D cI (h 0) (q_1.1 0) q_3.1 q_3.2 e_4) (cNC h q_1.1 (rL h q_1.2)) (cNR h q_1.1 (rL h q_1.2)) nNC nNR dN_ (cNP h q_1.1 (rL h q_1.2) q_3.2) nNP rfl kX7_59 ⟨Nat.le_of_ble_eq_true rfl, Nat.le_of_ble_eq_true rfl⟩ rfl rfl (Nat.le_of_ble_eq_true rfl) ⟨Nat.le_of_ble_eq_true rfl, Nat.le_of_ble_eq_true rfl⟩ dX7_join_19 (fun H locs Y => ?_)
  obtain ⟨q_5, e_6, hrun⟩ := o_bh hrun
  refine cf_v (As := [.int q_3.1]) (rest := []) S hK hA hZ Y hl.1 (mX3_keep l D cI cS h (sg_3 q_1.1 0 q_3.2) q_1.2 q_3.1 q_5.1 q_5.2.1 q_5.2.2 e_6) kX7_47 (T := TX3) (N := 2) rfl (q0 := 1) rfl ⟨Nat.le_of_ble_eq_true rfl, Nat.le_of_ble_eq_true rfl⟩ rfl rfl (Nat.le_of_ble_eq_true rfl) ⟨Nat.le_of_ble_eq_true rfl, Nat.le_of_ble_eq_true rfl⟩ dX7_join_22 (fun H locs Y => ?_)
  cases hrun
  exact me_ri S hK Y hr hlk rfl dX7_join_25
def fX7_start (p1 p2 : Int32) (Λ : s3_T) (π : Nat → Nat) : Option (Int32 × s3_T × (Nat → Nat)) := ((fX3_draft Λ π).bind fun q_1 => ((fX2_beginRound p1 p2 (q_1.1 0)).bind fun q_3 => ((fX3_keep q_3.1 (sg_3 q_1.1 0 q_3.2) q_1.2).bind fun q_5 => (some (q_5.1, q_5.2.1, q_5.2.2)))))
set_option maxRecDepth 100000 in
set_option maxHeartbeats 4000000 in
theorem mX7_start (l : Launch) (D : va_G) (cI cS : ClassId) (h : Nat → Nat → Nat) (Λ : s3_T) (π : Nat → Nat) (p1 p2 : Int32) (r : Int32) (Λ' : s3_T) (π' : Nat → Nat) (hrun : fX7_start p1 p2 Λ π = some (r, Λ', π')) : me_I l D (tL cI cS) yX7_start cX7_start 3 .int 7 149 (wL cI cS h Λ π) [.ref (h 8 0), .int p1, .int p2] r (wL cI cS h Λ' π') := by
  refine me_ofI (plainFor_of_name (by decide)) (Nat.le_of_ble_eq_true rfl) ?_
  intro p e s m args below meth c A ls S hK Y hA hl hr hlk hZ
  have hx := S.1
  have hb := S.2.1
  have hl : lv_has ls 3 [(0, .ref (h 8 0)), (1, .int p1), (2, .int p2)] := hl
  unfold fX7_start at hrun
  refine lv_aload_n hx hb dX7_start_0 rfl (lv_at hl 0 rfl) ?_
  refine ig S hK Y fX7_22 0 rfl (v := .ref (h 8 1)) rfl dX7_start_1 ?_
  refine lv_aload_n hx hb dX7_start_4 rfl (lv_at hl 0 rfl) ?_
  refine ig S hK Y fX7_10 0 rfl (v := .ref (h 0 0)) rfl dX7_start_5 ?_
  obtain ⟨q_1, e_2, hrun⟩ := o_bh hrun
  refine cf_vv (As := [.ref (h 0 0)]) (rest := []) S hK hA hZ Y hl.1 (mX3_draft l D cI cS h Λ π q_1.1 q_1.2 e_2) kX7_37 (T := TX3) (N := 2) rfl (q0 := 1) rfl ⟨Nat.le_of_ble_eq_true rfl, Nat.le_of_ble_eq_true rfl⟩ rfl rfl (Nat.le_of_ble_eq_true rfl) ⟨Nat.le_of_ble_eq_true rfl, Nat.le_of_ble_eq_true rfl⟩ dX7_start_8 (fun H locs Y => ?_)
  refine lv_aload_n hx hb dX7_start_11 rfl (lv_at hl 0 rfl) ?_
  refine ig S hK Y fX7_22 0 rfl (v := .ref (h 8 1)) rfl dX7_start_12 ?_
  refine lv_aload_n hx hb dX7_start_15 rfl (lv_at hl 0 rfl) ?_
  refine ig S hK Y fX7_10 0 rfl (v := .ref (h 0 0)) rfl dX7_start_16 ?_
  refine lv_iload_n hx hb dX7_start_19 rfl (lv_at hl 1 rfl) ?_
  refine lv_iload_n hx hb dX7_start_20 rfl (lv_at hl 2 rfl) ?_
  obtain ⟨q_3, e_4, hrun⟩ := o_bh hrun
  refine cg_s (ws2 := (wLr cI cS h (sg_3 q_1.1 0 q_3.2) (rL h q_1.2))) (it := [0]) (As := [.ref (h 0 0), .int p1, .int p2]) (rest := [.ref (h 8 1)]) S hK hA hZ Y hl.1 (mX2_beginRound l D cI (h 0) (q_1.1 0) p1 p2 q_3.1 q_3.2 e_4) (cNC h q_1.1 (rL h q_1.2)) (cNR h q_1.1 (rL h q_1.2)) nNC nNR dN_ (cNP h q_1.1 (rL h q_1.2) q_3.2) nNP rfl kX7_63 ⟨Nat.le_of_ble_eq_true rfl, Nat.le_of_ble_eq_true rfl⟩ rfl rfl (Nat.le_of_ble_eq_true rfl) ⟨Nat.le_of_ble_eq_true rfl, Nat.le_of_ble_eq_true rfl⟩ dX7_start_21 (fun H locs Y => ?_)
  obtain ⟨q_5, e_6, hrun⟩ := o_bh hrun
  refine cf_v (As := [.int q_3.1]) (rest := []) S hK hA hZ Y hl.1 (mX3_keep l D cI cS h (sg_3 q_1.1 0 q_3.2) q_1.2 q_3.1 q_5.1 q_5.2.1 q_5.2.2 e_6) kX7_47 (T := TX3) (N := 2) rfl (q0 := 1) rfl ⟨Nat.le_of_ble_eq_true rfl, Nat.le_of_ble_eq_true rfl⟩ rfl rfl (Nat.le_of_ble_eq_true rfl) ⟨Nat.le_of_ble_eq_true rfl, Nat.le_of_ble_eq_true rfl⟩ dX7_start_24 (fun H locs Y => ?_)
  cases hrun
  exact me_ri S hK Y hr hlk rfl dX7_start_27
def fX7_hide (p1 p2 : Int32) (Λ : s3_T) (π : Nat → Nat) : Option (Int32 × s3_T × (Nat → Nat)) := ((fX3_draft Λ π).bind fun q_1 => ((fX2_hidePlayer p1 p2 (q_1.1 0)).bind fun q_3 => ((fX3_keep q_3.1 (sg_3 q_1.1 0 q_3.2) q_1.2).bind fun q_5 => (some (q_5.1, q_5.2.1, q_5.2.2)))))
set_option maxRecDepth 100000 in
set_option maxHeartbeats 4000000 in
theorem mX7_hide (l : Launch) (D : va_G) (cI cS : ClassId) (h : Nat → Nat → Nat) (Λ : s3_T) (π : Nat → Nat) (p1 p2 : Int32) (r : Int32) (Λ' : s3_T) (π' : Nat → Nat) (hrun : fX7_hide p1 p2 Λ π = some (r, Λ', π')) : me_I l D (tL cI cS) yX7_hide cX7_hide 3 .int 5 106 (wL cI cS h Λ π) [.ref (h 8 0), .int p1, .int p2] r (wL cI cS h Λ' π') := by
  refine me_ofI (plainFor_of_name (by decide)) (Nat.le_of_ble_eq_true rfl) ?_
  intro p e s m args below meth c A ls S hK Y hA hl hr hlk hZ
  have hx := S.1
  have hb := S.2.1
  have hl : lv_has ls 3 [(0, .ref (h 8 0)), (1, .int p1), (2, .int p2)] := hl
  unfold fX7_hide at hrun
  refine lv_aload_n hx hb dX7_hide_0 rfl (lv_at hl 0 rfl) ?_
  refine ig S hK Y fX7_22 0 rfl (v := .ref (h 8 1)) rfl dX7_hide_1 ?_
  refine lv_aload_n hx hb dX7_hide_4 rfl (lv_at hl 0 rfl) ?_
  refine ig S hK Y fX7_10 0 rfl (v := .ref (h 0 0)) rfl dX7_hide_5 ?_
  obtain ⟨q_1, e_2, hrun⟩ := o_bh hrun
  refine cf_vv (As := [.ref (h 0 0)]) (rest := []) S hK hA hZ Y hl.1 (mX3_draft l D cI cS h Λ π q_1.1 q_1.2 e_2) kX7_37 (T := TX3) (N := 2) rfl (q0 := 1) rfl ⟨Nat.le_of_ble_eq_true rfl, Nat.le_of_ble_eq_true rfl⟩ rfl rfl (Nat.le_of_ble_eq_true rfl) ⟨Nat.le_of_ble_eq_true rfl, Nat.le_of_ble_eq_true rfl⟩ dX7_hide_8 (fun H locs Y => ?_)
  refine lv_aload_n hx hb dX7_hide_11 rfl (lv_at hl 0 rfl) ?_
  refine ig S hK Y fX7_22 0 rfl (v := .ref (h 8 1)) rfl dX7_hide_12 ?_
  refine lv_aload_n hx hb dX7_hide_15 rfl (lv_at hl 0 rfl) ?_
  refine ig S hK Y fX7_10 0 rfl (v := .ref (h 0 0)) rfl dX7_hide_16 ?_
  refine lv_iload_n hx hb dX7_hide_19 rfl (lv_at hl 1 rfl) ?_
  refine lv_iload_n hx hb dX7_hide_20 rfl (lv_at hl 2 rfl) ?_
  obtain ⟨q_3, e_4, hrun⟩ := o_bh hrun
  refine cg_s (ws2 := (wLr cI cS h (sg_3 q_1.1 0 q_3.2) (rL h q_1.2))) (it := [0]) (As := [.ref (h 0 0), .int p1, .int p2]) (rest := [.ref (h 8 1)]) S hK hA hZ Y hl.1 (mX2_hidePlayer l D cI (h 0) (q_1.1 0) p1 p2 q_3.1 q_3.2 e_4) (cNC h q_1.1 (rL h q_1.2)) (cNR h q_1.1 (rL h q_1.2)) nNC nNR dN_ (cNP h q_1.1 (rL h q_1.2) q_3.2) nNP rfl kX7_66 ⟨Nat.le_of_ble_eq_true rfl, Nat.le_of_ble_eq_true rfl⟩ rfl rfl (Nat.le_of_ble_eq_true rfl) ⟨Nat.le_of_ble_eq_true rfl, Nat.le_of_ble_eq_true rfl⟩ dX7_hide_21 (fun H locs Y => ?_)
  obtain ⟨q_5, e_6, hrun⟩ := o_bh hrun
  refine cf_v (As := [.int q_3.1]) (rest := []) S hK hA hZ Y hl.1 (mX3_keep l D cI cS h (sg_3 q_1.1 0 q_3.2) q_1.2 q_3.1 q_5.1 q_5.2.1 q_5.2.2 e_6) kX7_47 (T := TX3) (N := 2) rfl (q0 := 1) rfl ⟨Nat.le_of_ble_eq_true rfl, Nat.le_of_ble_eq_true rfl⟩ rfl rfl (Nat.le_of_ble_eq_true rfl) ⟨Nat.le_of_ble_eq_true rfl, Nat.le_of_ble_eq_true rfl⟩ dX7_hide_24 (fun H locs Y => ?_)
  cases hrun
  exact me_ri S hK Y hr hlk rfl dX7_hide_27
def fX7_seek (Λ : s3_T) (π : Nat → Nat) : Option (Int32 × s3_T × (Nat → Nat)) := ((fX3_draft Λ π).bind fun q_1 => ((fX2_beginSeeking (q_1.1 0)).bind fun q_3 => ((fX3_keep q_3.1 (sg_3 q_1.1 0 q_3.2) q_1.2).bind fun q_5 => (some (q_5.1, q_5.2.1, q_5.2.2)))))
set_option maxRecDepth 100000 in
set_option maxHeartbeats 4000000 in
theorem mX7_seek (l : Launch) (D : va_G) (cI cS : ClassId) (h : Nat → Nat → Nat) (Λ : s3_T) (π : Nat → Nat) (r : Int32) (Λ' : s3_T) (π' : Nat → Nat) (hrun : fX7_seek Λ π = some (r, Λ', π')) : me_I l D (tL cI cS) yX7_seek cX7_seek 1 .int 5 105 (wL cI cS h Λ π) [.ref (h 8 0)] r (wL cI cS h Λ' π') := by
  refine me_ofI (plainFor_of_name (by decide)) (Nat.le_of_ble_eq_true rfl) ?_
  intro p e s m args below meth c A ls S hK Y hA hl hr hlk hZ
  have hx := S.1
  have hb := S.2.1
  have hl : lv_has ls 1 [(0, .ref (h 8 0))] := hl
  unfold fX7_seek at hrun
  refine lv_aload_n hx hb dX7_seek_0 rfl (lv_at hl 0 rfl) ?_
  refine ig S hK Y fX7_22 0 rfl (v := .ref (h 8 1)) rfl dX7_seek_1 ?_
  refine lv_aload_n hx hb dX7_seek_4 rfl (lv_at hl 0 rfl) ?_
  refine ig S hK Y fX7_10 0 rfl (v := .ref (h 0 0)) rfl dX7_seek_5 ?_
  obtain ⟨q_1, e_2, hrun⟩ := o_bh hrun
  refine cf_vv (As := [.ref (h 0 0)]) (rest := []) S hK hA hZ Y hl.1 (mX3_draft l D cI cS h Λ π q_1.1 q_1.2 e_2) kX7_37 (T := TX3) (N := 2) rfl (q0 := 1) rfl ⟨Nat.le_of_ble_eq_true rfl, Nat.le_of_ble_eq_true rfl⟩ rfl rfl (Nat.le_of_ble_eq_true rfl) ⟨Nat.le_of_ble_eq_true rfl, Nat.le_of_ble_eq_true rfl⟩ dX7_seek_8 (fun H locs Y => ?_)
  refine lv_aload_n hx hb dX7_seek_11 rfl (lv_at hl 0 rfl) ?_
  refine ig S hK Y fX7_22 0 rfl (v := .ref (h 8 1)) rfl dX7_seek_12 ?_
  refine lv_aload_n hx hb dX7_seek_15 rfl (lv_at hl 0 rfl) ?_
  refine ig S hK Y fX7_10 0 rfl (v := .ref (h 0 0)) rfl dX7_seek_16 ?_
  obtain ⟨q_3, e_4, hrun⟩ := o_bh hrun
  refine cg_s (ws2 := (wLr cI cS h (sg_3 q_1.1 0 q_3.2) (rL h q_1.2))) (it := [0]) (As := [.ref (h 0 0)]) (rest := [.ref (h 8 1)]) S hK hA hZ Y hl.1 (mX2_beginSeeking l D cI (h 0) (q_1.1 0) q_3.1 q_3.2 e_4) (cNC h q_1.1 (rL h q_1.2)) (cNR h q_1.1 (rL h q_1.2)) nNC nNR dN_ (cNP h q_1.1 (rL h q_1.2) q_3.2) nNP rfl kX7_69 ⟨Nat.le_of_ble_eq_true rfl, Nat.le_of_ble_eq_true rfl⟩ rfl rfl (Nat.le_of_ble_eq_true rfl) ⟨Nat.le_of_ble_eq_true rfl, Nat.le_of_ble_eq_true rfl⟩ dX7_seek_19 (fun H locs Y => ?_)
  obtain ⟨q_5, e_6, hrun⟩ := o_bh hrun
  refine cf_v (As := [.int q_3.1]) (rest := []) S hK hA hZ Y hl.1 (mX3_keep l D cI cS h (sg_3 q_1.1 0 q_3.2) q_1.2 q_3.1 q_5.1 q_5.2.1 q_5.2.2 e_6) kX7_47 (T := TX3) (N := 2) rfl (q0 := 1) rfl ⟨Nat.le_of_ble_eq_true rfl, Nat.le_of_ble_eq_true rfl⟩ rfl rfl (Nat.le_of_ble_eq_true rfl) ⟨Nat.le_of_ble_eq_true rfl, Nat.le_of_ble_eq_true rfl⟩ dX7_seek_22 (fun H locs Y => ?_)
  cases hrun
  exact me_ri S hK Y hr hlk rfl dX7_seek_25
def fX7_walk (p1 : Int32) (Λ : s3_T) (π : Nat → Nat) : Option (Int32 × s3_T × (Nat → Nat)) := ((fX3_draft Λ π).bind fun q_1 => ((fX2_moveSeeker p1 (q_1.1 0)).bind fun q_3 => ((fX3_keep q_3.1 (sg_3 q_1.1 0 q_3.2) q_1.2).bind fun q_5 => (some (q_5.1, q_5.2.1, q_5.2.2)))))
set_option maxRecDepth 100000 in
set_option maxHeartbeats 4000000 in
theorem mX7_walk (l : Launch) (D : va_G) (cI cS : ClassId) (h : Nat → Nat → Nat) (Λ : s3_T) (π : Nat → Nat) (p1 : Int32) (r : Int32) (Λ' : s3_T) (π' : Nat → Nat) (hrun : fX7_walk p1 Λ π = some (r, Λ', π')) : me_I l D (tL cI cS) yX7_walk cX7_walk 2 .int 3 64 (wL cI cS h Λ π) [.ref (h 8 0), .int p1] r (wL cI cS h Λ' π') := by
  refine me_ofI (plainFor_of_name (by decide)) (Nat.le_of_ble_eq_true rfl) ?_
  intro p e s m args below meth c A ls S hK Y hA hl hr hlk hZ
  have hx := S.1
  have hb := S.2.1
  have hl : lv_has ls 2 [(0, .ref (h 8 0)), (1, .int p1)] := hl
  unfold fX7_walk at hrun
  refine lv_aload_n hx hb dX7_walk_0 rfl (lv_at hl 0 rfl) ?_
  refine ig S hK Y fX7_22 0 rfl (v := .ref (h 8 1)) rfl dX7_walk_1 ?_
  refine lv_aload_n hx hb dX7_walk_4 rfl (lv_at hl 0 rfl) ?_
  refine ig S hK Y fX7_10 0 rfl (v := .ref (h 0 0)) rfl dX7_walk_5 ?_
  obtain ⟨q_1, e_2, hrun⟩ := o_bh hrun
  refine cf_vv (As := [.ref (h 0 0)]) (rest := []) S hK hA hZ Y hl.1 (mX3_draft l D cI cS h Λ π q_1.1 q_1.2 e_2) kX7_37 (T := TX3) (N := 2) rfl (q0 := 1) rfl ⟨Nat.le_of_ble_eq_true rfl, Nat.le_of_ble_eq_true rfl⟩ rfl rfl (Nat.le_of_ble_eq_true rfl) ⟨Nat.le_of_ble_eq_true rfl, Nat.le_of_ble_eq_true rfl⟩ dX7_walk_8 (fun H locs Y => ?_)
  refine lv_aload_n hx hb dX7_walk_11 rfl (lv_at hl 0 rfl) ?_
  refine ig S hK Y fX7_22 0 rfl (v := .ref (h 8 1)) rfl dX7_walk_12 ?_
  refine lv_aload_n hx hb dX7_walk_15 rfl (lv_at hl 0 rfl) ?_
  refine ig S hK Y fX7_10 0 rfl (v := .ref (h 0 0)) rfl dX7_walk_16 ?_
  refine lv_iload_n hx hb dX7_walk_19 rfl (lv_at hl 1 rfl) ?_
  obtain ⟨q_3, e_4, hrun⟩ := o_bh hrun
  refine cg_s (ws2 := (wLr cI cS h (sg_3 q_1.1 0 q_3.2) (rL h q_1.2))) (it := [0]) (As := [.ref (h 0 0), .int p1]) (rest := [.ref (h 8 1)]) S hK hA hZ Y hl.1 (mX2_moveSeeker l D cI (h 0) (q_1.1 0) p1 q_3.1 q_3.2 e_4) (cNC h q_1.1 (rL h q_1.2)) (cNR h q_1.1 (rL h q_1.2)) nNC nNR dN_ (cNP h q_1.1 (rL h q_1.2) q_3.2) nNP rfl kX7_72 ⟨Nat.le_of_ble_eq_true rfl, Nat.le_of_ble_eq_true rfl⟩ rfl rfl (Nat.le_of_ble_eq_true rfl) ⟨Nat.le_of_ble_eq_true rfl, Nat.le_of_ble_eq_true rfl⟩ dX7_walk_20 (fun H locs Y => ?_)
  obtain ⟨q_5, e_6, hrun⟩ := o_bh hrun
  refine cf_v (As := [.int q_3.1]) (rest := []) S hK hA hZ Y hl.1 (mX3_keep l D cI cS h (sg_3 q_1.1 0 q_3.2) q_1.2 q_3.1 q_5.1 q_5.2.1 q_5.2.2 e_6) kX7_47 (T := TX3) (N := 2) rfl (q0 := 1) rfl ⟨Nat.le_of_ble_eq_true rfl, Nat.le_of_ble_eq_true rfl⟩ rfl rfl (Nat.le_of_ble_eq_true rfl) ⟨Nat.le_of_ble_eq_true rfl, Nat.le_of_ble_eq_true rfl⟩ dX7_walk_23 (fun H locs Y => ?_)
  cases hrun
  exact me_ri S hK Y hr hlk rfl dX7_walk_26
def fX7_cry (p1 p2 : Int32) (Λ : s3_T) (π : Nat → Nat) : Option (Int32 × s3_T × (Nat → Nat)) := ((fX3_draft Λ π).bind fun q_1 => ((fX2_cryName p1 p2 (q_1.1 0)).bind fun q_3 => ((fX3_keep q_3.1 (sg_3 q_1.1 0 q_3.2) q_1.2).bind fun q_5 => (some (q_5.1, q_5.2.1, q_5.2.2)))))
set_option maxRecDepth 100000 in
set_option maxHeartbeats 4000000 in
theorem mX7_cry (l : Launch) (D : va_G) (cI cS : ClassId) (h : Nat → Nat → Nat) (Λ : s3_T) (π : Nat → Nat) (p1 p2 : Int32) (r : Int32) (Λ' : s3_T) (π' : Nat → Nat) (hrun : fX7_cry p1 p2 Λ π = some (r, Λ', π')) : me_I l D (tL cI cS) yX7_cry cX7_cry 3 .int 6 128 (wL cI cS h Λ π) [.ref (h 8 0), .int p1, .int p2] r (wL cI cS h Λ' π') := by
  refine me_ofI (plainFor_of_name (by decide)) (Nat.le_of_ble_eq_true rfl) ?_
  intro p e s m args below meth c A ls S hK Y hA hl hr hlk hZ
  have hx := S.1
  have hb := S.2.1
  have hl : lv_has ls 3 [(0, .ref (h 8 0)), (1, .int p1), (2, .int p2)] := hl
  unfold fX7_cry at hrun
  refine lv_aload_n hx hb dX7_cry_0 rfl (lv_at hl 0 rfl) ?_
  refine ig S hK Y fX7_22 0 rfl (v := .ref (h 8 1)) rfl dX7_cry_1 ?_
  refine lv_aload_n hx hb dX7_cry_4 rfl (lv_at hl 0 rfl) ?_
  refine ig S hK Y fX7_10 0 rfl (v := .ref (h 0 0)) rfl dX7_cry_5 ?_
  obtain ⟨q_1, e_2, hrun⟩ := o_bh hrun
  refine cf_vv (As := [.ref (h 0 0)]) (rest := []) S hK hA hZ Y hl.1 (mX3_draft l D cI cS h Λ π q_1.1 q_1.2 e_2) kX7_37 (T := TX3) (N := 2) rfl (q0 := 1) rfl ⟨Nat.le_of_ble_eq_true rfl, Nat.le_of_ble_eq_true rfl⟩ rfl rfl (Nat.le_of_ble_eq_true rfl) ⟨Nat.le_of_ble_eq_true rfl, Nat.le_of_ble_eq_true rfl⟩ dX7_cry_8 (fun H locs Y => ?_)
  refine lv_aload_n hx hb dX7_cry_11 rfl (lv_at hl 0 rfl) ?_
  refine ig S hK Y fX7_22 0 rfl (v := .ref (h 8 1)) rfl dX7_cry_12 ?_
  refine lv_aload_n hx hb dX7_cry_15 rfl (lv_at hl 0 rfl) ?_
  refine ig S hK Y fX7_10 0 rfl (v := .ref (h 0 0)) rfl dX7_cry_16 ?_
  refine lv_iload_n hx hb dX7_cry_19 rfl (lv_at hl 1 rfl) ?_
  refine lv_iload_n hx hb dX7_cry_20 rfl (lv_at hl 2 rfl) ?_
  obtain ⟨q_3, e_4, hrun⟩ := o_bh hrun
  refine cg_s (ws2 := (wLr cI cS h (sg_3 q_1.1 0 q_3.2) (rL h q_1.2))) (it := [0]) (As := [.ref (h 0 0), .int p1, .int p2]) (rest := [.ref (h 8 1)]) S hK hA hZ Y hl.1 (mX2_cryName l D cI (h 0) (q_1.1 0) p1 p2 q_3.1 q_3.2 e_4) (cNC h q_1.1 (rL h q_1.2)) (cNR h q_1.1 (rL h q_1.2)) nNC nNR dN_ (cNP h q_1.1 (rL h q_1.2) q_3.2) nNP rfl kX7_76 ⟨Nat.le_of_ble_eq_true rfl, Nat.le_of_ble_eq_true rfl⟩ rfl rfl (Nat.le_of_ble_eq_true rfl) ⟨Nat.le_of_ble_eq_true rfl, Nat.le_of_ble_eq_true rfl⟩ dX7_cry_21 (fun H locs Y => ?_)
  obtain ⟨q_5, e_6, hrun⟩ := o_bh hrun
  refine cf_v (As := [.int q_3.1]) (rest := []) S hK hA hZ Y hl.1 (mX3_keep l D cI cS h (sg_3 q_1.1 0 q_3.2) q_1.2 q_3.1 q_5.1 q_5.2.1 q_5.2.2 e_6) kX7_47 (T := TX3) (N := 2) rfl (q0 := 1) rfl ⟨Nat.le_of_ble_eq_true rfl, Nat.le_of_ble_eq_true rfl⟩ rfl rfl (Nat.le_of_ble_eq_true rfl) ⟨Nat.le_of_ble_eq_true rfl, Nat.le_of_ble_eq_true rfl⟩ dX7_cry_24 (fun H locs Y => ?_)
  cases hrun
  exact me_ri S hK Y hr hlk rfl dX7_cry_27
def fX7_dash (p1 : Int32) (Λ : s3_T) (π : Nat → Nat) : Option (Int32 × s3_T × (Nat → Nat)) := ((fX3_draft Λ π).bind fun q_1 => ((fX2_dashHome p1 (q_1.1 0)).bind fun q_3 => ((fX3_keep q_3.1 (sg_3 q_1.1 0 q_3.2) q_1.2).bind fun q_5 => (some (q_5.1, q_5.2.1, q_5.2.2)))))
set_option maxRecDepth 100000 in
set_option maxHeartbeats 4000000 in
theorem mX7_dash (l : Launch) (D : va_G) (cI cS : ClassId) (h : Nat → Nat → Nat) (Λ : s3_T) (π : Nat → Nat) (p1 : Int32) (r : Int32) (Λ' : s3_T) (π' : Nat → Nat) (hrun : fX7_dash p1 Λ π = some (r, Λ', π')) : me_I l D (tL cI cS) yX7_dash cX7_dash 2 .int 6 127 (wL cI cS h Λ π) [.ref (h 8 0), .int p1] r (wL cI cS h Λ' π') := by
  refine me_ofI (plainFor_of_name (by decide)) (Nat.le_of_ble_eq_true rfl) ?_
  intro p e s m args below meth c A ls S hK Y hA hl hr hlk hZ
  have hx := S.1
  have hb := S.2.1
  have hl : lv_has ls 2 [(0, .ref (h 8 0)), (1, .int p1)] := hl
  unfold fX7_dash at hrun
  refine lv_aload_n hx hb dX7_dash_0 rfl (lv_at hl 0 rfl) ?_
  refine ig S hK Y fX7_22 0 rfl (v := .ref (h 8 1)) rfl dX7_dash_1 ?_
  refine lv_aload_n hx hb dX7_dash_4 rfl (lv_at hl 0 rfl) ?_
  refine ig S hK Y fX7_10 0 rfl (v := .ref (h 0 0)) rfl dX7_dash_5 ?_
  obtain ⟨q_1, e_2, hrun⟩ := o_bh hrun
  refine cf_vv (As := [.ref (h 0 0)]) (rest := []) S hK hA hZ Y hl.1 (mX3_draft l D cI cS h Λ π q_1.1 q_1.2 e_2) kX7_37 (T := TX3) (N := 2) rfl (q0 := 1) rfl ⟨Nat.le_of_ble_eq_true rfl, Nat.le_of_ble_eq_true rfl⟩ rfl rfl (Nat.le_of_ble_eq_true rfl) ⟨Nat.le_of_ble_eq_true rfl, Nat.le_of_ble_eq_true rfl⟩ dX7_dash_8 (fun H locs Y => ?_)
  refine lv_aload_n hx hb dX7_dash_11 rfl (lv_at hl 0 rfl) ?_
  refine ig S hK Y fX7_22 0 rfl (v := .ref (h 8 1)) rfl dX7_dash_12 ?_
  refine lv_aload_n hx hb dX7_dash_15 rfl (lv_at hl 0 rfl) ?_
  refine ig S hK Y fX7_10 0 rfl (v := .ref (h 0 0)) rfl dX7_dash_16 ?_
  refine lv_iload_n hx hb dX7_dash_19 rfl (lv_at hl 1 rfl) ?_
  obtain ⟨q_3, e_4, hrun⟩ := o_bh hrun
  refine cg_s (ws2 := (wLr cI cS h (sg_3 q_1.1 0 q_3.2) (rL h q_1.2))) (it := [0]) (As := [.ref (h 0 0), .int p1]) (rest := [.ref (h 8 1)]) S hK hA hZ Y hl.1 (mX2_dashHome l D cI (h 0) (q_1.1 0) p1 q_3.1 q_3.2 e_4) (cNC h q_1.1 (rL h q_1.2)) (cNR h q_1.1 (rL h q_1.2)) nNC nNR dN_ (cNP h q_1.1 (rL h q_1.2) q_3.2) nNP rfl kX7_79 ⟨Nat.le_of_ble_eq_true rfl, Nat.le_of_ble_eq_true rfl⟩ rfl rfl (Nat.le_of_ble_eq_true rfl) ⟨Nat.le_of_ble_eq_true rfl, Nat.le_of_ble_eq_true rfl⟩ dX7_dash_20 (fun H locs Y => ?_)
  obtain ⟨q_5, e_6, hrun⟩ := o_bh hrun
  refine cf_v (As := [.int q_3.1]) (rest := []) S hK hA hZ Y hl.1 (mX3_keep l D cI cS h (sg_3 q_1.1 0 q_3.2) q_1.2 q_3.1 q_5.1 q_5.2.1 q_5.2.2 e_6) kX7_47 (T := TX3) (N := 2) rfl (q0 := 1) rfl ⟨Nat.le_of_ble_eq_true rfl, Nat.le_of_ble_eq_true rfl⟩ rfl rfl (Nat.le_of_ble_eq_true rfl) ⟨Nat.le_of_ble_eq_true rfl, Nat.le_of_ble_eq_true rfl⟩ dX7_dash_23 (fun H locs Y => ?_)
  cases hrun
  exact me_ri S hK Y hr hlk rfl dX7_dash_26
end
section
/-! constructors: contracts that make cells -/
def rmc_ (f lo mc ms : Nat) : Room := { frames := f, cells := mc, slots := ms, locals := lo }
def me_Qc {S : Type} (D : va_G) (tys : List (ClassId × FieldType)) (A : Nat → Prop) (post : S → Prop) (w' : S → va_W) : Array Value → State → Outcome → State → Prop := va_Qv post (fun u t => va_P D vwCl (w' u) t.heap ∧ va_K D vwCl tys t ∧ va_D A (w' u)) A
def me_C {S : Type} (l : Launch) (D : va_G) (tys : List (ClassId × FieldType)) (y : MethodName) (b : ByteArray) (n : Nat) (f lo mc ms : Nat) (w : va_W) (av : List Value) (post : S → Prop) (w' : S → va_W) : Prop :=
  ∀ sz, Met l y (wu_ y b n none) (rmc_ f lo mc ms) (me_P D tys w sz av) (me_Qc D tys (va_A w sz) post w') mc ms (va_A w sz)
theorem me_ofC {S : Type} {l : Launch} {D : va_G} {tys : List (ClassId × FieldType)} {y : MethodName} {b : ByteArray} {n : Nat} {f lo mc ms : Nat} {w : va_W} {av : List Value} {post : S → Prop} {w' : S → va_W} (hpl : plainFor y = true) (hfit : (lg_sl av).length ≤ n) (hy : y.name = "<init>")
    (body : ∀ (p : Program) (e : Env) (s : State) (m : MethodId) (args : Array Value) (below : List Frame) (meth : Method) (c : Code) (A : Nat → Prop) (ls : Array Slot), CallFix p m c b n s args (wu_ y b n none) y.cls → va_K D vwCl tys s → dy_ D A s w s.heap [] → (∀ q, s.heap.size ≤ q → A q) → lv_has ls n (lv_args 0 av) → meth.sig.returnType = none → meth.locks = false → zs_ A s → meth.name = "<init>" →
      W p l e (rmc_ f lo mc ms) s m args below meth c s.heap [] 0 0 (MQ below (me_Qc D tys A post w') args s mc ms A) (F0 m 0 ls [])) : me_C l D tys y b n f lo mc ms w av post w' := by
  intro sz
  refine met_F (cc := b) (maxL := n) (ret := none) hpl rfl ?_
  intro p e s m args below meth c s₁ B hml hv
  obtain ⟨rfl, hsz, hP, hK, hD0, hZ⟩ := hv
  subst hsz
  have hD := hD0.self (sz := s.heap.size)
  rw [lg_entry_eq]
  exact body p e s m _ below meth c _ _ ⟨B.exec, B.bytes, hml, findClass_of_methodNamed B.named, atoms_spec (ws := wu_ y b n none) B.pre⟩ hK ⟨hP, hD, va_S.rf⟩ (fun q h => Or.inr h) (lv_entry av hfit) B.returns B.notSynchronized hZ ((name_of_methodNamed B.named B.method).1.trans hy)
section CTOR
variable {p : Program} {l : Launch} {e : Env} {R : Room} {s : State} {m : MethodId} {args : Array Value} {below : List Frame} {meth : Method} {c : Code} {H : Heap} {locs : List Loc} {cells slots : Nat} {Q : State → Prop}
variable {cc : ByteArray} {nL pc : Nat} {ls : Array Slot} {rest : List Value} {D : va_G} {A : Nat → Prop} {tys : List (ClassId × FieldType)} {ws : va_W} {own : String} {c0 : Cond}
theorem me_rc {S : Type} {b : ByteArray} {post : S → Prop} {w' : S → va_W} (u : S) (hp : post u) (hw : w' u = ws) (S0 : CallFix p m c b nL s args (c0 :: uw_) own) (hK : va_K D vwCl tys s) (Y : dy_ D A s ws H locs) (hr : meth.sig.returnType = none) (hlk : meth.locks = false) (hdg : decode b pc = .ok (.return_, 1)) :
    W p l e R s m args below meth c H locs cells slots (MQ below (me_Qc D tys A post w') args s cells slots A) (F0 m pc ls []) :=
  W.vret S0.1 S0.2.1 hr (fun t ht hW => ⟨⟨u, rfl, hp, by rw [ht, hw]; exact Y.1, va_K.moved hW.alike hK, by rw [hw]; exact Y.2.1⟩, Y.2.2.F ht⟩) Y.2.2.2.2 hdg hlk
theorem ioi (S : CallFix p m c cc nL s args (c0 :: uw_) own) {idx : Nat} (h1 : Cond.methodLink own idx Lib.objectInit ∈ uw_) (h2 : Cond.instanceMethod Lib.objectInit ∈ uw_) (h3 : Cond.code Lib.objectInit ⟨#[0xb1]⟩ 1 none ∈ uw_) (hl : ls.size = nL) (hm : (rest.map fun v => v.category).sum + 12 ≤ R.locals) (hf : 1 ≤ R.frames) {a : Nat} (hdg : decode cc pc = .ok (.invokespecial idx, 3))
    (kk : W p l e R s m args below meth c H locs cells slots Q (F0 m (pc + 3) ls rest)) : W p l e R s m args below meth c H locs cells slots Q (F0 m pc ls (.ref a :: rest)) :=
  W.objInit S.1 S.2.1 S.2.2.2.1 (S.2.2.2.2 _ (List.mem_cons_of_mem _ h1)) (S.2.2.2.2 _ (List.mem_cons_of_mem _ h2)) (S.2.2.2.2 _ (List.mem_cons_of_mem _ h3)) rfl (hl.trans S.2.2.1.symm) rfl hdg hf (by show 2 * 0 + _ + 12 ≤ _; omega) kk
theorem ty_eq {cA cI : ClassId} {ty : FieldType} (hp : ∀ C, ty ≠ .object C) (hK : va_K D vwCl tys s) {t0 : Nat} (ht : tys[t0]? = some (cI, ty)) (hK1 : va_K D vwCl (tys ++ [(cA, ty)]) s) : cA = cI := by
  have h1 := (hK.2 t0 _ ht).2
  have h2 := (hK1.2 tys.length (cA, ty) (by simp)).2
  cases ty with
  | object C => exact absurd rfl (hp C)
  | _ => exact Option.some.inj (h2.symm.trans h1)
theorem ty_eqo {cA cI : ClassId} {C : String} (hK : va_K D vwCl tys s) {t0 : Nat} (ht : tys[t0]? = some (cI, .object C)) (hK1 : va_K D vwCl (tys ++ [(cA, .object C)]) s) : cA = cI := by
  obtain ⟨_, _, _, _, _, h1⟩ := (hK.2 t0 _ ht).2
  obtain ⟨_, _, _, _, _, h2⟩ := (hK1.2 tys.length (cA, .object C) (by simp)).2
  exact Option.some.inj (h2.symm.trans h1)
theorem inwi (S : CallFix p m c cc nL s args (c0 :: uw_) own) (hK : va_K D vwCl tys s) (hA : ∀ q, s.heap.size ≤ q → A q) (Y : dy_ D A s ws H locs) {cI : ClassId} (t0 : Nat) (ht : tys[t0]? = some (cI, .int)) (harr : Cond.arrayClass .int ∈ uw_) {n : Int32} {N' : Nat} (hn : ¬ n < 0) (hN : n.toNatClampNeg = N') (hbytes : N' * 4 ≤ 536870912) (hcells : cells + 1 ≤ R.cells) (hslots : slots + N' ≤ R.slots) (hdg : decode cc pc = .ok (.newarray .int, 2))
    (kk : ∀ (q : Nat) (H1 : Heap), dy_ D A s (ws ++ [(q, .inl (cI, N', .inl (fun _ => 0)))]) H1 locs → W p l e R s m args below meth c H1 locs (cells + 1) (slots + N') Q (F0 m (pc + 2) ls (.ref q :: rest))) : W p l e R s m args below meth c H locs cells slots Q (F0 m pc ls (.int n :: rest)) := by
  refine va_newa (atype := .int) (ty := .int) S.1 S.2.1 (S.2.2.2.2 _ (List.mem_cons_of_mem _ harr)) rfl hK Y.1 Y.2.1 Y.2.2 hA (a0 := (N', .inl (fun _ => 0))) (fun cA => rfl) hn hN hbytes hcells hslots hdg (fun q cA H1 h1 h2 h3 h4 => ?_)
  have e := ty_eq (fun C h => by cases h) hK ht h1
  subst e
  exact kk q H1 ⟨h2, h3, h4⟩
theorem inwc (S : CallFix p m c cc nL s args (c0 :: uw_) own) (hK : va_K D vwCl tys s) (hA : ∀ q, s.heap.size ≤ q → A q) (Y : dy_ D A s ws H locs) {cI : ClassId} (t0 : Nat) (ht : tys[t0]? = some (cI, .char)) (harr : Cond.arrayClass .char ∈ uw_) {n : Int32} {N' : Nat} (hn : ¬ n < 0) (hN : n.toNatClampNeg = N') (hbytes : N' * 2 ≤ 536870912) (hcells : cells + 1 ≤ R.cells) (hslots : slots + N' ≤ R.slots) (hdg : decode cc pc = .ok (.newarray .char, 2))
    (kk : ∀ (q : Nat) (H1 : Heap), dy_ D A s (ws ++ [(q, .inl (cI, N', .inl (fun _ => 0)))]) H1 locs → W p l e R s m args below meth c H1 locs (cells + 1) (slots + N') Q (F0 m (pc + 2) ls (.ref q :: rest))) : W p l e R s m args below meth c H locs cells slots Q (F0 m pc ls (.int n :: rest)) := by
  refine va_newa (atype := .char) (ty := .char) S.1 S.2.1 (S.2.2.2.2 _ (List.mem_cons_of_mem _ harr)) rfl hK Y.1 Y.2.1 Y.2.2 hA (a0 := (N', .inl (fun _ => 0))) (fun cA => rfl) hn hN hbytes hcells hslots hdg (fun q cA H1 h1 h2 h3 h4 => ?_)
  have e := ty_eq (fun C h => by cases h) hK ht h1
  subst e
  exact kk q H1 ⟨h2, h3, h4⟩
theorem inwo (S : CallFix p m c cc nL s args (c0 :: uw_) own) (hK : va_K D vwCl tys s) (hA : ∀ q, s.heap.size ≤ q → A q) (hZ : zs_ A s) (Y : dy_ D A s ws H locs) {cS : ClassId} (t0 : Nat) (ht : tys[t0]? = some (cS, .object RX5)) {idx : Nat} (hcl : Cond.classLink own idx RX5 ∈ uw_) {n : Int32} {N' : Nat} (hn : ¬ n < 0) (hN : n.toNatClampNeg = N') (hbytes : N' * 4 ≤ 536870912) (hcells : cells + 1 ≤ R.cells) (hslots : slots + N' ≤ R.slots) (hdg : decode cc pc = .ok (.anewarray idx, 3))
    (kk : ∀ (q : Nat) (H1 : Heap), dy_ D A s (ws ++ [(q, .inl (cS, N', .inr (.inr (.inr (.inr (fun _ => none))))))]) H1 locs → W p l e R s m args below meth c H1 locs (cells + 1) (slots + N') Q (F0 m (pc + 3) ls (.ref q :: rest))) : W p l e R s m args below meth c H locs cells slots Q (F0 m pc ls (.int n :: rest)) := by
  refine va_newq S.1 S.2.1 S.2.2.2.1 (S.2.2.2.2 _ (List.mem_cons_of_mem _ hcl)) hZ.1 hK Y.1 Y.2.1 Y.2.2 hA hn hN hbytes hcells hslots hdg (fun q cA H1 h1 h2 h3 h4 => ?_)
  have e := ty_eqo hK ht h1
  subst e
  exact kk q H1 ⟨h2, h3, h4⟩
theorem ino (S : CallFix p m c cc nL s args (c0 :: uw_) own) (hK : va_K D vwCl tys s) (hA : ∀ q, s.heap.size ≤ q → A q) (Y : dy_ D A s ws H locs) {idx : Nat} {C : String} {T : u_T} {N ci : Nat} {ty0 : Nat → FieldType} (h1 : Cond.classLink own idx C ∈ uw_) (h2 : Cond.instantiable C N ∈ uw_) (h3 : Cond.initialized C ∈ uw_) (h4 : ∀ w ∈ u_ws C T N, w ∈ uw_) (G : fp_ T N ty0) (hc : vwCl[ci]? = some (C, T, N)) {fs : List Value} (hfs : (List.range N).all (fun j => decide (defaultValue (ty0 j) = vp_V fs j)) = true) (hcells : cells + 1 ≤ R.cells) (hslots : slots + N ≤ R.slots) (hdg : decode cc pc = .ok (.new idx, 3))
    (kk : ∀ (q : Nat) (H1 : Heap), dy_ D A s (ws ++ [(q, .inr (ci, fs))]) H1 locs → W p l e R s m args below meth c H1 locs (cells + 1) (slots + N) Q (F0 m (pc + 3) ls (.ref q :: rest))) : W p l e R s m args below meth c H locs cells slots Q (F0 m pc ls rest) :=
  va_new S.1 S.2.1 S.2.2.2.2 (fun w h => List.mem_cons_of_mem _ (h4 w h)) ty0 G.1 S.2.2.2.1 (S.2.2.2.2 _ (List.mem_cons_of_mem _ h1)) (S.2.2.2.2 _ (List.mem_cons_of_mem _ h2)) (S.2.2.2.2 _ (List.mem_cons_of_mem _ h3)) hK Y.1 Y.2.1 Y.2.2 hA hc (fun j hj => of_decide_eq_true (List.all_eq_true.mp hfs j (List.mem_range.mpr hj))) hcells hslots hdg (fun q H1 a b c => kk q H1 ⟨a, b, c⟩)
theorem ipF (S : CallFix p m c cc nL s args (c0 :: uw_) own) (hK : va_K D vwCl tys s) (Y : dy_ D A s ws H locs) (hin : meth.name = "<init>") {idx : Nat} {C : String} {T : u_T} {N ci k : Nat} (F : fl_ own idx C T N ci k) {ty0 : Nat → FieldType} (G : fp_ T N ty0) (hfin : (T k).2.2.2 = true) (hown : C = own) (q0 : Nat) {a : Nat} {fs : List Value} (he : ws[q0]? = some (a, .inr (ci, fs))) {v : Value} (hn : narrow (ty0 k) v = v) (hfit : fits (ty0 k) v = true) (hl : k < fs.length) {ws' : va_W} (hw : ws.set q0 (a, .inr (ci, fs.set k v)) = ws') (hdg : decode cc pc = .ok (.putfield idx, 3))
    (kk : ∀ (H1 : Heap) (locs1 : List Loc), dy_ D A s ws' H1 locs1 → W p l e R s m args below meth c H1 locs1 cells slots Q (F0 m (pc + 3) ls rest)) : W p l e R s m args below meth c H locs cells slots Q (F0 m pc ls (v :: .ref a :: rest)) := by
  subst hw
  exact va_putF (D := D) (T := T) (N := N) S.1 S.2.1 S.2.2.2.2 (fun w h => List.mem_cons_of_mem _ (F.1 w h)) ty0 G.1 G.2 S.2.2.2.1 hK Y.1 Y.2.1 Y.2.2 q0 he F.2.1 k F.2.2.1 (S.2.2.2.2 _ (List.mem_cons_of_mem _ F.2.2.2.1)) (fun x h => by rw [F.2.2.2.2] at h; exact h) hfin hin (F.2.2.2.2.trans hown) (G.1 k F.2.2.1) hn hfit hl hdg (fun H1 l1 h1 h2 h3 => kk H1 l1 ⟨h1, h2, h3⟩)
variable {y : MethodName} {b : ByteArray} {n kA : Nat} {f lo : Nat} {w w' : va_W} {As : List Value} {idx : Nat} {tys' : List (ClassId × FieldType)} {wr : va_W}
/-- a constructor's call -/
theorem cgi {S0 : Type} {post : S0 → Prop} {w1 : S0 → va_W} {mc ms a : Nat} {isC isR it : List Nat} (S : CallFix p m c cc nL s args (c0 :: uw_) own) (hK : va_K D vwCl tys s) (hA : ∀ q, s.heap.size ≤ q → A q) (hZ : zs_ A s) (Y : dy_ D A s ws H locs) (hl : ls.size = nL) (hM : me_C l D tys' y b n f lo mc ms w (.ref a :: As) post w1) (hC : isC.map (fun i => ws[i]?) = w.map some) (hRr : isR.map (fun i => ws[i]?) = wr.map some) (hnC : va_nd isC = true) (hnR : va_nd isR = true) (hdis : ∀ i ∈ isR, i ∉ isC) (hty : it.filterMap (fun i => tys[i]?) = tys') (k1 : Cond.methodLink own idx y ∈ uw_) (k2 : Cond.instanceMethod y ∈ uw_) (k3 : Cond.initialized y.cls ∈ uw_) (k4 : Cond.code y b n none ∈ uw_) (k5 : yd_ y kA) (k6 : y.name = "<init>") (hR : f + 1 ≤ R.frames ∧ 8 + (n + 11) + lo ≤ R.locals) {st : List Value} (hst : st = As.reverse ++ .ref a :: rest) (hn : As.length = kA) (hm : (rest.map fun v => v.category).sum ≤ 8) (hf : cells + mc ≤ R.cells ∧ slots + ms ≤ R.slots) (hdg : decode cc pc = .ok (.invokespecial idx, 3))
    (kk : ∀ (u : S0) (H1 : Heap) (locs1 : List Loc), post u → dy_ D A s (wr ++ w1 u) H1 locs1 → W p l e R s m args below meth c H1 locs1 (cells + mc) (slots + ms) Q (F0 m (pc + 3) ls rest)) : W p l e R s m args below meth c H locs cells slots Q (F0 m pc ls st) := by
  have hfr := va_free Y.2.1 Y.2.2 hA isC hC
  refine va_callv (va_runI (rest := rest) S (hM H.size) ⟨callB_of kA S.2.2.2.2 (uw_gi k4) rfl rfl rfl (S.2.2.2.2 _ (List.mem_cons_of_mem _ k3)) (S.2.2.2.2 _ (List.mem_cons_of_mem _ k1)) k5 hR, k6, S.2.2.2.2 _ (List.mem_cons_of_mem _ k2)⟩ ⟨me_bl D tys' w H.size _, fun U hU hW => ⟨rfl, by rw [hU], by rw [hU]; exact Y.1.sub isC (cg_f hC), va_K.moved hW.alike (hK.sub it hty), (Y.2.1.sub isC hnC hC).weaken (fun _ _ _ _ => trivial), zs_mv hZ hW hU Y.2.2 hfr⟩⟩ rfl hn hl hst (lv_room hm) hdg hf) Y.2.2 (fun q _ h => hfr q h) hfr (fun u t H1 locs1 ht hvm hw hB hz hk hS => ?_)
  obtain ⟨hP1, hK1, hD1⟩ := hB
  rw [ht] at hP1
  obtain ⟨g1, g2⟩ := va_join Y.1 Y.2.1 isC isR hC hRr hnR hdis hk hfr hP1 hD1
  exact kk u H1 locs1 hw ⟨g1, g2, hS⟩
/-- a static void call whose world is a part -/
theorem cg_sv {isC isR ps it : List Nat} {ws2 : va_W} (S : CallFix p m c cc nL s args (c0 :: uw_) own) (hK : va_K D vwCl tys s) (hA : ∀ q, s.heap.size ≤ q → A q) (hZ : zs_ A s) (Y : dy_ D A s ws H locs) (hl : ls.size = nL) (hM : me_V l D tys' y b n f lo w As w') (hC : isC.map (fun i => ws[i]?) = w.map some) (hRr : isR.map (fun i => ws[i]?) = wr.map some) (hnC : va_nd isC = true) (hnR : va_nd isR = true) (hdis : ∀ i ∈ isR, i ∉ isC) (hps : ps.map (fun i => (wr ++ w')[i]?) = ws2.map some) (hnp : va_nd ps = true) (hty : it.filterMap (fun i => tys[i]?) = tys') (K : cs_ own idx y b n none kA) (hR : f + 1 ≤ R.frames ∧ 8 + (n + 11) + lo ≤ R.locals) {st : List Value} (hst : st = As.reverse ++ rest) (hn : As.length = kA) (hm : (rest.map fun v => v.category).sum ≤ 8) (hf : cells ≤ R.cells ∧ slots ≤ R.slots) (hdg : decode cc pc = .ok (.invokestatic idx, 3))
    (kk : ∀ (H1 : Heap) (locs1 : List Loc), dy_ D A s ws2 H1 locs1 → W p l e R s m args below meth c H1 locs1 cells slots Q (F0 m (pc + 3) ls rest)) : W p l e R s m args below meth c H locs cells slots Q (F0 m pc ls st) := by
  obtain ⟨k1, k2, k3, k4, k5⟩ := K
  have hfr := va_free Y.2.1 Y.2.2 hA isC hC
  refine va_callv (va_runS (rest := rest) S (hM H.size) ⟨cb_ S k1 k3 k4 k5 hR, S.2.2.2.2 _ (List.mem_cons_of_mem _ k2)⟩ ⟨me_bl D tys' w H.size As, fun U hU hW => ⟨rfl, by rw [hU], by rw [hU]; exact Y.1.sub isC (cg_f hC), va_K.moved hW.alike (hK.sub it hty), (Y.2.1.sub isC hnC hC).weaken (fun _ _ _ _ => trivial), zs_mv hZ hW hU Y.2.2 hfr⟩⟩ rfl hn hl hst (lv_room hm) hdg hf) Y.2.2 (fun q _ h => hfr q h) hfr (fun u t H1 locs1 ht hvm hw hB hz hk hS => ?_)
  obtain ⟨hP1, hK1, hD1⟩ := hB
  rw [ht] at hP1
  exact kk H1 locs1 (cg_j hA Y hC hRr hnR hdis hps hnp hk hP1 hD1 hS)
end CTOR
end
section
set_option maxRecDepth 20000 in
theorem fX1_15 : fl_ RX1 15 RX1 TX1 2 0 1 := ⟨iuX1, rfl, Nat.le_of_ble_eq_true rfl, uw_in 145 rfl rfl, rfl⟩
set_option maxRecDepth 20000 in
theorem fX1_9 : fl_ RX1 9 RX1 TX1 2 0 0 := ⟨iuX1, rfl, Nat.le_of_ble_eq_true rfl, uw_in 144 rfl rfl, rfl⟩
set_option maxRecDepth 20000 in
theorem fX7_16 : fl_ RX7 16 RX7 TX7 5 3 1 := ⟨iuX7, rfl, Nat.le_of_ble_eq_true rfl, uw_in 152 rfl rfl, rfl⟩
set_option maxRecDepth 20000 in
theorem fX7_29 : fl_ RX7 29 RX7 TX7 5 3 3 := ⟨iuX7, rfl, Nat.le_of_ble_eq_true rfl, uw_in 154 rfl rfl, rfl⟩
set_option maxRecDepth 20000 in
theorem fX7_33 : fl_ RX7 33 RX7 TX7 5 3 4 := ⟨iuX7, rfl, Nat.le_of_ble_eq_true rfl, uw_in 155 rfl rfl, rfl⟩
set_option maxRecDepth 20000 in
theorem kX5_63 : cs_ RX5 63 yJ7_fill_53178 cJ7_fill_53178 4 none 2 := ⟨uw_in 28 rfl rfl, uw_in 29 rfl rfl, uw_in 4 rfl rfl, uw_in 30 rfl rfl, ⟨by decide, by decide, by decide +kernel⟩⟩
def fil_ (f : Nat → Int32) (v : Int32) (i : Nat) : Nat → Int32 := fun k => if k < i then v else f k
theorem fil_s (f : Nat → Int32) (v : Int32) {i n : Nat} (hi : i < n) (hn : n < 2 ^ 31) : upd (fil_ f v i) (nI i).toNatClampNeg v = fil_ f v (i + 1) := by
  rw [nI_clamp (by omega)]
  funext k
  unfold upd fil_
  by_cases h1 : k = i
  · rw [if_pos h1, if_pos (by omega)]
  · rw [if_neg h1]
    by_cases h2 : k < i
    · rw [if_pos h2, if_pos (by omega)]
    · rw [if_neg h2, if_neg (by omega)]
set_option maxRecDepth 100000 in
set_option maxHeartbeats 4000000 in
theorem mJ7_fill_53178 (l : Launch) (D : va_G) (cI : ClassId) (n : Nat) (hn : n < 2 ^ 31) (q : Nat) (f : Nat → Int32) (v : Int32) : me_V l D [(cI, .int)] yJ7_fill_53178 cJ7_fill_53178 4 0 0 [(q, .inl (cI, n, .inl f))] [.ref q, .int v] [(q, .inl (cI, n, .inl (fil_ f v n)))] := by
  refine me_ofV (plainFor_of_name (by decide)) (Nat.le_of_ble_eq_true rfl) ?_
  intro p e s m args below meth c A ls S hK Y hA hl hr hlk hZ
  have hx := S.1
  have hb := S.2.1
  have hl : lv_has ls 4 [(0, .ref q), (1, .int v)] := hl
  have lp : ∀ (d i : Nat), i + d = n → ∀ (H : Heap) (locs : List Loc) (ls : Array Slot), dy_ D A s [(q, .inl (cI, n, .inl (fil_ f v i)))] H locs → lv_has ls 4 [(0, .ref q), (1, .int v), (2, .int (nI i)), (3, .int (nI n))] → W p l e (rm_ 0 0) s m args below meth c H locs 0 0 (MQ below (me_Qv D [(cI, .int)] A [(q, .inl (cI, n, .inl (fil_ f v n)))]) args s 0 0 A) (F0 m 5 ls []) := by
    intro d
    induction d with
    | zero =>
      intro i hi H locs ls Y hl
      have hi : i = n := by omega
      subst hi
      refine lv_iload_n hx hb dJ7_fill_53178_5 rfl (lv_at hl 2 rfl) ?_
      refine lv_iload_n hx hb dJ7_fill_53178_6 rfl (lv_at hl 3 rfl) ?_
      refine lv_icmp_ge (tgt := 20) hx hb dJ7_fill_53178_7 (by decide) (fun q1 => ?_) (fun q1 => absurd (nI_le (Nat.le_refl i) hn) q1)
      exact me_rv S hK Y hr hlk dJ7_fill_53178_20
    | succ d ih =>
      intro i hi H locs ls Y hl
      refine lv_iload_n hx hb dJ7_fill_53178_5 rfl (lv_at hl 2 rfl) ?_
      refine lv_iload_n hx hb dJ7_fill_53178_6 rfl (lv_at hl 3 rfl) ?_
      refine lv_icmp_ge (tgt := 20) hx hb dJ7_fill_53178_7 (by decide) (fun q1 => absurd q1 (nI_ge (by omega) hn)) (fun q1 => ?_)
      refine lv_aload_n hx hb dJ7_fill_53178_10 rfl (lv_at hl 0 rfl) ?_
      refine lv_iload_n hx hb dJ7_fill_53178_11 rfl (lv_at hl 2 rfl) ?_
      refine lv_iload_n hx hb dJ7_fill_53178_12 rfl (lv_at hl 1 rfl) ?_
      refine iw S hK Y 0 0 (f := fil_ f v i) rfl rfl (vp_in_nI (by omega) hn) (ws' := [(q, .inl (cI, n, .inl (fil_ f v (i + 1))))]) (by rw [fil_s f v (show i < n by omega) hn]; rfl) dJ7_fill_53178_13 (fun H locs Y => ?_)
      refine lv_iinc (v := nI (i + 1)) (lv' := [(2, .int (nI (i + 1))), (0, .ref q), (1, .int v), (3, .int (nI n))]) hx hb dJ7_fill_53178_14 hl (k := 2) rfl (nI_1 i) (Nat.le_of_ble_eq_true rfl) rfl (fun ls hl => ?_)
      refine lv_goto (tgt := 5) hx hb dJ7_fill_53178_17 (by decide) ?_
      exact ih (i + 1) (by omega) _ _ _ Y (lv_sub hl [1, 2, 0, 3] rfl)
  refine lv_iconst (v := 0) hx hb dJ7_fill_53178_0 (by decide) ?_
  refine lv_istore_n (lv' := [(2, .int 0), (0, .ref q), (1, .int v)]) hx hb dJ7_fill_53178_1 rfl hl (Nat.le_of_ble_eq_true rfl) rfl (fun ls hl => ?_)
  refine lv_aload_n hx hb dJ7_fill_53178_2 rfl (lv_at hl 1 rfl) ?_
  refine va_alen (v := nI n) hx hb hK Y.1 0 0 rfl rfl rfl dJ7_fill_53178_3 ?_
  refine lv_istore_n (lv' := [(3, .int (nI n)), (2, .int 0), (0, .ref q), (1, .int v)]) hx hb dJ7_fill_53178_4 rfl hl (Nat.le_of_ble_eq_true rfl) rfl (fun ls hl => ?_)
  have e0 : fil_ f v 0 = f := by funext k; unfold fil_; rw [if_neg (Nat.not_lt_zero k)]
  exact lp n 0 (by omega) _ _ _ (by rw [e0]; exact Y) (lv_sub hl [2, 3, 1, 0] rfl)

def gS0 : sg_T := fun j => match j with
  | 0 => fun k => match k with
    | 0 => (0 : Int32)
    | 1 => (0 : Int32)
    | 2 => (0 : Int32)
    | 3 => (-10006 : Int32)
    | 4 => (-10006 : Int32)
    | 5 => (-10006 : Int32)
    | 6 => (0 : Int32)
    | _ => 0
  | 1 => (upd (upd (upd (upd (fun _ => 0) ((0 : Int32)).toNatClampNeg (1 : Int32)) ((1 : Int32)).toNatClampNeg (2 : Int32)) ((2 : Int32)).toNatClampNeg (2 : Int32)) ((3 : Int32)).toNatClampNeg (2 : Int32))
  | 2 => (fun _ => 0)
  | 3 => (fun _ => 0)
  | 4 => (fun _ => 0)
  | 5 => (fun _ => 0)
  | 6 => (fun _ => 0)
  | 7 => (fil_ (fun _ => 0) (-10006 : Int32) 8)
  | 8 => (fun _ => 0)
  | 9 => (fil_ (fun _ => 0) (-1 : Int32) 16)
  | _ => fun _ => 0
set_option maxRecDepth 100000 in
set_option maxHeartbeats 4000000 in
theorem mX5_init (l : Launch) (D : va_G) (cI : ClassId) (q0 : Nat) : me_C l D (tS cI) yX5_init cX5_init 1 1 23 9 84 [(q0, .inr (2, [.null, .null, .null, .null, .null, .null, .null, .null, .null, .int 0, .int 0, .int 0, .int 0, .int 0, .int 0, .int 0]))] [.ref q0] (fun u : Nat → Nat => u 0 = q0) (fun u => wS cI u gS0) := by
  refine me_ofC (plainFor_of_name (by decide)) (Nat.le_of_ble_eq_true rfl) rfl ?_
  intro p e s m args below meth c A ls S hK Y hA hl hr hlk hZ hin
  have hx := S.1
  have hb := S.2.1
  have hl : lv_has ls 1 [(0, .ref q0)] := hl
  refine lv_aload_n hx hb dX5_init_0 rfl (lv_at hl 0 rfl) ?_
  refine ioi S (uw_in 27 rfl rfl) (uw_in 20 rfl rfl) (uw_in 21 rfl rfl) hl.1 (Nat.le_of_ble_eq_true rfl) (Nat.le_of_ble_eq_true rfl) dX5_init_1 ?_
  refine lv_aload_n hx hb dX5_init_4 rfl (lv_at hl 0 rfl) ?_
  refine lv_iconst (v := (4 : Int32)) hx hb dX5_init_5 (by decide) ?_
  refine inwi S hK hA Y 0 rfl (uw_in 121 rfl rfl) (N' := 4) (by decide) (by decide) (Nat.le_of_ble_eq_true rfl) (Nat.le_of_ble_eq_true rfl) (Nat.le_of_ble_eq_true rfl) dX5_init_6 (fun a1 H Y => ?_)
  have Y := Y
  have Y : dy_ D A s [(q0, .inr (2, [.null, .null, .null, .null, .null, .null, .null, .null, .null, .int 0, .int 0, .int 0, .int 0, .int 0, .int 0, .int 0])), (a1, .inl (cI, 4, .inl (fun _ => 0)))] H _ := Y
  refine lv_dup hx hb dX5_init_8 rfl ?_
  refine lv_iconst (v := (0 : Int32)) hx hb dX5_init_9 (by decide) ?_
  refine lv_iconst (v := (1 : Int32)) hx hb dX5_init_10 (by decide) ?_
  refine iw S hK Y 1 0 (f := (fun _ => 0)) rfl rfl (show ¬ ((0 : Int32) < 0 ∨ 4 ≤ ((0 : Int32)).toNatClampNeg) by decide) (ws' := [(q0, .inr (2, [.null, .null, .null, .null, .null, .null, .null, .null, .null, .int 0, .int 0, .int 0, .int 0, .int 0, .int 0, .int 0])), (a1, .inl (cI, 4, .inl (upd (fun _ => 0) ((0 : Int32)).toNatClampNeg (1 : Int32))))]) rfl dX5_init_11 (fun H locs Y => ?_)
  refine lv_dup hx hb dX5_init_12 rfl ?_
  refine lv_iconst (v := (1 : Int32)) hx hb dX5_init_13 (by decide) ?_
  refine lv_iconst (v := (2 : Int32)) hx hb dX5_init_14 (by decide) ?_
  refine iw S hK Y 1 0 (f := (upd (fun _ => 0) ((0 : Int32)).toNatClampNeg (1 : Int32))) rfl rfl (show ¬ ((1 : Int32) < 0 ∨ 4 ≤ ((1 : Int32)).toNatClampNeg) by decide) (ws' := [(q0, .inr (2, [.null, .null, .null, .null, .null, .null, .null, .null, .null, .int 0, .int 0, .int 0, .int 0, .int 0, .int 0, .int 0])), (a1, .inl (cI, 4, .inl (upd (upd (fun _ => 0) ((0 : Int32)).toNatClampNeg (1 : Int32)) ((1 : Int32)).toNatClampNeg (2 : Int32))))]) rfl dX5_init_15 (fun H locs Y => ?_)
  refine lv_dup hx hb dX5_init_16 rfl ?_
  refine lv_iconst (v := (2 : Int32)) hx hb dX5_init_17 (by decide) ?_
  refine lv_iconst (v := (2 : Int32)) hx hb dX5_init_18 (by decide) ?_
  refine iw S hK Y 1 0 (f := (upd (upd (fun _ => 0) ((0 : Int32)).toNatClampNeg (1 : Int32)) ((1 : Int32)).toNatClampNeg (2 : Int32))) rfl rfl (show ¬ ((2 : Int32) < 0 ∨ 4 ≤ ((2 : Int32)).toNatClampNeg) by decide) (ws' := [(q0, .inr (2, [.null, .null, .null, .null, .null, .null, .null, .null, .null, .int 0, .int 0, .int 0, .int 0, .int 0, .int 0, .int 0])), (a1, .inl (cI, 4, .inl (upd (upd (upd (fun _ => 0) ((0 : Int32)).toNatClampNeg (1 : Int32)) ((1 : Int32)).toNatClampNeg (2 : Int32)) ((2 : Int32)).toNatClampNeg (2 : Int32))))]) rfl dX5_init_19 (fun H locs Y => ?_)
  refine lv_dup hx hb dX5_init_20 rfl ?_
  refine lv_iconst (v := (3 : Int32)) hx hb dX5_init_21 (by decide) ?_
  refine lv_iconst (v := (2 : Int32)) hx hb dX5_init_22 (by decide) ?_
  refine iw S hK Y 1 0 (f := (upd (upd (upd (fun _ => 0) ((0 : Int32)).toNatClampNeg (1 : Int32)) ((1 : Int32)).toNatClampNeg (2 : Int32)) ((2 : Int32)).toNatClampNeg (2 : Int32))) rfl rfl (show ¬ ((3 : Int32) < 0 ∨ 4 ≤ ((3 : Int32)).toNatClampNeg) by decide) (ws' := [(q0, .inr (2, [.null, .null, .null, .null, .null, .null, .null, .null, .null, .int 0, .int 0, .int 0, .int 0, .int 0, .int 0, .int 0])), (a1, .inl (cI, 4, .inl (upd (upd (upd (upd (fun _ => 0) ((0 : Int32)).toNatClampNeg (1 : Int32)) ((1 : Int32)).toNatClampNeg (2 : Int32)) ((2 : Int32)).toNatClampNeg (2 : Int32)) ((3 : Int32)).toNatClampNeg (2 : Int32))))]) rfl dX5_init_23 (fun H locs Y => ?_)
  refine ipF S hK Y hin fX5_9 fpX5 rfl rfl 0 (fs := [.null, .null, .null, .null, .null, .null, .null, .null, .null, .int 0, .int 0, .int 0, .int 0, .int 0, .int 0, .int 0]) rfl rfl rfl (Nat.le_of_ble_eq_true rfl) (ws' := [(q0, .inr (2, [.ref a1, .null, .null, .null, .null, .null, .null, .null, .null, .int 0, .int 0, .int 0, .int 0, .int 0, .int 0, .int 0])), (a1, .inl (cI, 4, .inl (upd (upd (upd (upd (fun _ => 0) ((0 : Int32)).toNatClampNeg (1 : Int32)) ((1 : Int32)).toNatClampNeg (2 : Int32)) ((2 : Int32)).toNatClampNeg (2 : Int32)) ((3 : Int32)).toNatClampNeg (2 : Int32))))]) rfl dX5_init_24 (fun H locs Y => ?_)
  refine lv_aload_n hx hb dX5_init_27 rfl (lv_at hl 0 rfl) ?_
  refine lv_bipush (v := (8 : Int32)) hx hb dX5_init_28 (by decide) ?_
  refine inwi S hK hA Y 0 rfl (uw_in 121 rfl rfl) (N' := 8) (by decide) (by decide) (Nat.le_of_ble_eq_true rfl) (Nat.le_of_ble_eq_true rfl) (Nat.le_of_ble_eq_true rfl) dX5_init_30 (fun a2 H Y => ?_)
  have Y : dy_ D A s [(q0, .inr (2, [.ref a1, .null, .null, .null, .null, .null, .null, .null, .null, .int 0, .int 0, .int 0, .int 0, .int 0, .int 0, .int 0])), (a1, .inl (cI, 4, .inl (upd (upd (upd (upd (fun _ => 0) ((0 : Int32)).toNatClampNeg (1 : Int32)) ((1 : Int32)).toNatClampNeg (2 : Int32)) ((2 : Int32)).toNatClampNeg (2 : Int32)) ((3 : Int32)).toNatClampNeg (2 : Int32)))), (a2, .inl (cI, 8, .inl (fun _ => 0)))] H locs := Y
  have Y : dy_ D A s [(q0, .inr (2, [.ref a1, .null, .null, .null, .null, .null, .null, .null, .null, .int 0, .int 0, .int 0, .int 0, .int 0, .int 0, .int 0])), (a1, .inl (cI, 4, .inl (upd (upd (upd (upd (fun _ => 0) ((0 : Int32)).toNatClampNeg (1 : Int32)) ((1 : Int32)).toNatClampNeg (2 : Int32)) ((2 : Int32)).toNatClampNeg (2 : Int32)) ((3 : Int32)).toNatClampNeg (2 : Int32)))), (a2, .inl (cI, 8, .inl (fun _ => 0)))] H _ := Y
  refine ipF S hK Y hin fX5_15 fpX5 rfl rfl 0 (fs := [.ref a1, .null, .null, .null, .null, .null, .null, .null, .null, .int 0, .int 0, .int 0, .int 0, .int 0, .int 0, .int 0]) rfl rfl rfl (Nat.le_of_ble_eq_true rfl) (ws' := [(q0, .inr (2, [.ref a1, .ref a2, .null, .null, .null, .null, .null, .null, .null, .int 0, .int 0, .int 0, .int 0, .int 0, .int 0, .int 0])), (a1, .inl (cI, 4, .inl (upd (upd (upd (upd (fun _ => 0) ((0 : Int32)).toNatClampNeg (1 : Int32)) ((1 : Int32)).toNatClampNeg (2 : Int32)) ((2 : Int32)).toNatClampNeg (2 : Int32)) ((3 : Int32)).toNatClampNeg (2 : Int32)))), (a2, .inl (cI, 8, .inl (fun _ => 0)))]) rfl dX5_init_32 (fun H locs Y => ?_)
  refine lv_aload_n hx hb dX5_init_35 rfl (lv_at hl 0 rfl) ?_
  refine lv_bipush (v := (8 : Int32)) hx hb dX5_init_36 (by decide) ?_
  refine inwi S hK hA Y 0 rfl (uw_in 121 rfl rfl) (N' := 8) (by decide) (by decide) (Nat.le_of_ble_eq_true rfl) (Nat.le_of_ble_eq_true rfl) (Nat.le_of_ble_eq_true rfl) dX5_init_38 (fun a3 H Y => ?_)
  have Y : dy_ D A s [(q0, .inr (2, [.ref a1, .ref a2, .null, .null, .null, .null, .null, .null, .null, .int 0, .int 0, .int 0, .int 0, .int 0, .int 0, .int 0])), (a1, .inl (cI, 4, .inl (upd (upd (upd (upd (fun _ => 0) ((0 : Int32)).toNatClampNeg (1 : Int32)) ((1 : Int32)).toNatClampNeg (2 : Int32)) ((2 : Int32)).toNatClampNeg (2 : Int32)) ((3 : Int32)).toNatClampNeg (2 : Int32)))), (a2, .inl (cI, 8, .inl (fun _ => 0))), (a3, .inl (cI, 8, .inl (fun _ => 0)))] H locs := Y
  have Y : dy_ D A s [(q0, .inr (2, [.ref a1, .ref a2, .null, .null, .null, .null, .null, .null, .null, .int 0, .int 0, .int 0, .int 0, .int 0, .int 0, .int 0])), (a1, .inl (cI, 4, .inl (upd (upd (upd (upd (fun _ => 0) ((0 : Int32)).toNatClampNeg (1 : Int32)) ((1 : Int32)).toNatClampNeg (2 : Int32)) ((2 : Int32)).toNatClampNeg (2 : Int32)) ((3 : Int32)).toNatClampNeg (2 : Int32)))), (a2, .inl (cI, 8, .inl (fun _ => 0))), (a3, .inl (cI, 8, .inl (fun _ => 0)))] H _ := Y
  refine ipF S hK Y hin fX5_18 fpX5 rfl rfl 0 (fs := [.ref a1, .ref a2, .null, .null, .null, .null, .null, .null, .null, .int 0, .int 0, .int 0, .int 0, .int 0, .int 0, .int 0]) rfl rfl rfl (Nat.le_of_ble_eq_true rfl) (ws' := [(q0, .inr (2, [.ref a1, .ref a2, .ref a3, .null, .null, .null, .null, .null, .null, .int 0, .int 0, .int 0, .int 0, .int 0, .int 0, .int 0])), (a1, .inl (cI, 4, .inl (upd (upd (upd (upd (fun _ => 0) ((0 : Int32)).toNatClampNeg (1 : Int32)) ((1 : Int32)).toNatClampNeg (2 : Int32)) ((2 : Int32)).toNatClampNeg (2 : Int32)) ((3 : Int32)).toNatClampNeg (2 : Int32)))), (a2, .inl (cI, 8, .inl (fun _ => 0))), (a3, .inl (cI, 8, .inl (fun _ => 0)))]) rfl dX5_init_40 (fun H locs Y => ?_)
  refine lv_aload_n hx hb dX5_init_43 rfl (lv_at hl 0 rfl) ?_
  refine lv_bipush (v := (8 : Int32)) hx hb dX5_init_44 (by decide) ?_
  refine inwi S hK hA Y 0 rfl (uw_in 121 rfl rfl) (N' := 8) (by decide) (by decide) (Nat.le_of_ble_eq_true rfl) (Nat.le_of_ble_eq_true rfl) (Nat.le_of_ble_eq_true rfl) dX5_init_46 (fun a4 H Y => ?_)
  have Y : dy_ D A s [(q0, .inr (2, [.ref a1, .ref a2, .ref a3, .null, .null, .null, .null, .null, .null, .int 0, .int 0, .int 0, .int 0, .int 0, .int 0, .int 0])), (a1, .inl (cI, 4, .inl (upd (upd (upd (upd (fun _ => 0) ((0 : Int32)).toNatClampNeg (1 : Int32)) ((1 : Int32)).toNatClampNeg (2 : Int32)) ((2 : Int32)).toNatClampNeg (2 : Int32)) ((3 : Int32)).toNatClampNeg (2 : Int32)))), (a2, .inl (cI, 8, .inl (fun _ => 0))), (a3, .inl (cI, 8, .inl (fun _ => 0))), (a4, .inl (cI, 8, .inl (fun _ => 0)))] H locs := Y
  have Y : dy_ D A s [(q0, .inr (2, [.ref a1, .ref a2, .ref a3, .null, .null, .null, .null, .null, .null, .int 0, .int 0, .int 0, .int 0, .int 0, .int 0, .int 0])), (a1, .inl (cI, 4, .inl (upd (upd (upd (upd (fun _ => 0) ((0 : Int32)).toNatClampNeg (1 : Int32)) ((1 : Int32)).toNatClampNeg (2 : Int32)) ((2 : Int32)).toNatClampNeg (2 : Int32)) ((3 : Int32)).toNatClampNeg (2 : Int32)))), (a2, .inl (cI, 8, .inl (fun _ => 0))), (a3, .inl (cI, 8, .inl (fun _ => 0))), (a4, .inl (cI, 8, .inl (fun _ => 0)))] H _ := Y
  refine ipF S hK Y hin fX5_21 fpX5 rfl rfl 0 (fs := [.ref a1, .ref a2, .ref a3, .null, .null, .null, .null, .null, .null, .int 0, .int 0, .int 0, .int 0, .int 0, .int 0, .int 0]) rfl rfl rfl (Nat.le_of_ble_eq_true rfl) (ws' := [(q0, .inr (2, [.ref a1, .ref a2, .ref a3, .ref a4, .null, .null, .null, .null, .null, .int 0, .int 0, .int 0, .int 0, .int 0, .int 0, .int 0])), (a1, .inl (cI, 4, .inl (upd (upd (upd (upd (fun _ => 0) ((0 : Int32)).toNatClampNeg (1 : Int32)) ((1 : Int32)).toNatClampNeg (2 : Int32)) ((2 : Int32)).toNatClampNeg (2 : Int32)) ((3 : Int32)).toNatClampNeg (2 : Int32)))), (a2, .inl (cI, 8, .inl (fun _ => 0))), (a3, .inl (cI, 8, .inl (fun _ => 0))), (a4, .inl (cI, 8, .inl (fun _ => 0)))]) rfl dX5_init_48 (fun H locs Y => ?_)
  refine lv_aload_n hx hb dX5_init_51 rfl (lv_at hl 0 rfl) ?_
  refine lv_bipush (v := (8 : Int32)) hx hb dX5_init_52 (by decide) ?_
  refine inwi S hK hA Y 0 rfl (uw_in 121 rfl rfl) (N' := 8) (by decide) (by decide) (Nat.le_of_ble_eq_true rfl) (Nat.le_of_ble_eq_true rfl) (Nat.le_of_ble_eq_true rfl) dX5_init_54 (fun a5 H Y => ?_)
  have Y : dy_ D A s [(q0, .inr (2, [.ref a1, .ref a2, .ref a3, .ref a4, .null, .null, .null, .null, .null, .int 0, .int 0, .int 0, .int 0, .int 0, .int 0, .int 0])), (a1, .inl (cI, 4, .inl (upd (upd (upd (upd (fun _ => 0) ((0 : Int32)).toNatClampNeg (1 : Int32)) ((1 : Int32)).toNatClampNeg (2 : Int32)) ((2 : Int32)).toNatClampNeg (2 : Int32)) ((3 : Int32)).toNatClampNeg (2 : Int32)))), (a2, .inl (cI, 8, .inl (fun _ => 0))), (a3, .inl (cI, 8, .inl (fun _ => 0))), (a4, .inl (cI, 8, .inl (fun _ => 0))), (a5, .inl (cI, 8, .inl (fun _ => 0)))] H locs := Y
  have Y : dy_ D A s [(q0, .inr (2, [.ref a1, .ref a2, .ref a3, .ref a4, .null, .null, .null, .null, .null, .int 0, .int 0, .int 0, .int 0, .int 0, .int 0, .int 0])), (a1, .inl (cI, 4, .inl (upd (upd (upd (upd (fun _ => 0) ((0 : Int32)).toNatClampNeg (1 : Int32)) ((1 : Int32)).toNatClampNeg (2 : Int32)) ((2 : Int32)).toNatClampNeg (2 : Int32)) ((3 : Int32)).toNatClampNeg (2 : Int32)))), (a2, .inl (cI, 8, .inl (fun _ => 0))), (a3, .inl (cI, 8, .inl (fun _ => 0))), (a4, .inl (cI, 8, .inl (fun _ => 0))), (a5, .inl (cI, 8, .inl (fun _ => 0)))] H _ := Y
  refine ipF S hK Y hin fX5_24 fpX5 rfl rfl 0 (fs := [.ref a1, .ref a2, .ref a3, .ref a4, .null, .null, .null, .null, .null, .int 0, .int 0, .int 0, .int 0, .int 0, .int 0, .int 0]) rfl rfl rfl (Nat.le_of_ble_eq_true rfl) (ws' := [(q0, .inr (2, [.ref a1, .ref a2, .ref a3, .ref a4, .ref a5, .null, .null, .null, .null, .int 0, .int 0, .int 0, .int 0, .int 0, .int 0, .int 0])), (a1, .inl (cI, 4, .inl (upd (upd (upd (upd (fun _ => 0) ((0 : Int32)).toNatClampNeg (1 : Int32)) ((1 : Int32)).toNatClampNeg (2 : Int32)) ((2 : Int32)).toNatClampNeg (2 : Int32)) ((3 : Int32)).toNatClampNeg (2 : Int32)))), (a2, .inl (cI, 8, .inl (fun _ => 0))), (a3, .inl (cI, 8, .inl (fun _ => 0))), (a4, .inl (cI, 8, .inl (fun _ => 0))), (a5, .inl (cI, 8, .inl (fun _ => 0)))]) rfl dX5_init_56 (fun H locs Y => ?_)
  refine lv_aload_n hx hb dX5_init_59 rfl (lv_at hl 0 rfl) ?_
  refine lv_bipush (v := (8 : Int32)) hx hb dX5_init_60 (by decide) ?_
  refine inwi S hK hA Y 0 rfl (uw_in 121 rfl rfl) (N' := 8) (by decide) (by decide) (Nat.le_of_ble_eq_true rfl) (Nat.le_of_ble_eq_true rfl) (Nat.le_of_ble_eq_true rfl) dX5_init_62 (fun a6 H Y => ?_)
  have Y : dy_ D A s [(q0, .inr (2, [.ref a1, .ref a2, .ref a3, .ref a4, .ref a5, .null, .null, .null, .null, .int 0, .int 0, .int 0, .int 0, .int 0, .int 0, .int 0])), (a1, .inl (cI, 4, .inl (upd (upd (upd (upd (fun _ => 0) ((0 : Int32)).toNatClampNeg (1 : Int32)) ((1 : Int32)).toNatClampNeg (2 : Int32)) ((2 : Int32)).toNatClampNeg (2 : Int32)) ((3 : Int32)).toNatClampNeg (2 : Int32)))), (a2, .inl (cI, 8, .inl (fun _ => 0))), (a3, .inl (cI, 8, .inl (fun _ => 0))), (a4, .inl (cI, 8, .inl (fun _ => 0))), (a5, .inl (cI, 8, .inl (fun _ => 0))), (a6, .inl (cI, 8, .inl (fun _ => 0)))] H locs := Y
  have Y : dy_ D A s [(q0, .inr (2, [.ref a1, .ref a2, .ref a3, .ref a4, .ref a5, .null, .null, .null, .null, .int 0, .int 0, .int 0, .int 0, .int 0, .int 0, .int 0])), (a1, .inl (cI, 4, .inl (upd (upd (upd (upd (fun _ => 0) ((0 : Int32)).toNatClampNeg (1 : Int32)) ((1 : Int32)).toNatClampNeg (2 : Int32)) ((2 : Int32)).toNatClampNeg (2 : Int32)) ((3 : Int32)).toNatClampNeg (2 : Int32)))), (a2, .inl (cI, 8, .inl (fun _ => 0))), (a3, .inl (cI, 8, .inl (fun _ => 0))), (a4, .inl (cI, 8, .inl (fun _ => 0))), (a5, .inl (cI, 8, .inl (fun _ => 0))), (a6, .inl (cI, 8, .inl (fun _ => 0)))] H _ := Y
  refine ipF S hK Y hin fX5_27 fpX5 rfl rfl 0 (fs := [.ref a1, .ref a2, .ref a3, .ref a4, .ref a5, .null, .null, .null, .null, .int 0, .int 0, .int 0, .int 0, .int 0, .int 0, .int 0]) rfl rfl rfl (Nat.le_of_ble_eq_true rfl) (ws' := [(q0, .inr (2, [.ref a1, .ref a2, .ref a3, .ref a4, .ref a5, .ref a6, .null, .null, .null, .int 0, .int 0, .int 0, .int 0, .int 0, .int 0, .int 0])), (a1, .inl (cI, 4, .inl (upd (upd (upd (upd (fun _ => 0) ((0 : Int32)).toNatClampNeg (1 : Int32)) ((1 : Int32)).toNatClampNeg (2 : Int32)) ((2 : Int32)).toNatClampNeg (2 : Int32)) ((3 : Int32)).toNatClampNeg (2 : Int32)))), (a2, .inl (cI, 8, .inl (fun _ => 0))), (a3, .inl (cI, 8, .inl (fun _ => 0))), (a4, .inl (cI, 8, .inl (fun _ => 0))), (a5, .inl (cI, 8, .inl (fun _ => 0))), (a6, .inl (cI, 8, .inl (fun _ => 0)))]) rfl dX5_init_64 (fun H locs Y => ?_)
  refine lv_aload_n hx hb dX5_init_67 rfl (lv_at hl 0 rfl) ?_
  refine lv_bipush (v := (8 : Int32)) hx hb dX5_init_68 (by decide) ?_
  refine inwi S hK hA Y 0 rfl (uw_in 121 rfl rfl) (N' := 8) (by decide) (by decide) (Nat.le_of_ble_eq_true rfl) (Nat.le_of_ble_eq_true rfl) (Nat.le_of_ble_eq_true rfl) dX5_init_70 (fun a7 H Y => ?_)
  have Y : dy_ D A s [(q0, .inr (2, [.ref a1, .ref a2, .ref a3, .ref a4, .ref a5, .ref a6, .null, .null, .null, .int 0, .int 0, .int 0, .int 0, .int 0, .int 0, .int 0])), (a1, .inl (cI, 4, .inl (upd (upd (upd (upd (fun _ => 0) ((0 : Int32)).toNatClampNeg (1 : Int32)) ((1 : Int32)).toNatClampNeg (2 : Int32)) ((2 : Int32)).toNatClampNeg (2 : Int32)) ((3 : Int32)).toNatClampNeg (2 : Int32)))), (a2, .inl (cI, 8, .inl (fun _ => 0))), (a3, .inl (cI, 8, .inl (fun _ => 0))), (a4, .inl (cI, 8, .inl (fun _ => 0))), (a5, .inl (cI, 8, .inl (fun _ => 0))), (a6, .inl (cI, 8, .inl (fun _ => 0))), (a7, .inl (cI, 8, .inl (fun _ => 0)))] H locs := Y
  have Y : dy_ D A s [(q0, .inr (2, [.ref a1, .ref a2, .ref a3, .ref a4, .ref a5, .ref a6, .null, .null, .null, .int 0, .int 0, .int 0, .int 0, .int 0, .int 0, .int 0])), (a1, .inl (cI, 4, .inl (upd (upd (upd (upd (fun _ => 0) ((0 : Int32)).toNatClampNeg (1 : Int32)) ((1 : Int32)).toNatClampNeg (2 : Int32)) ((2 : Int32)).toNatClampNeg (2 : Int32)) ((3 : Int32)).toNatClampNeg (2 : Int32)))), (a2, .inl (cI, 8, .inl (fun _ => 0))), (a3, .inl (cI, 8, .inl (fun _ => 0))), (a4, .inl (cI, 8, .inl (fun _ => 0))), (a5, .inl (cI, 8, .inl (fun _ => 0))), (a6, .inl (cI, 8, .inl (fun _ => 0))), (a7, .inl (cI, 8, .inl (fun _ => 0)))] H _ := Y
  refine ipF S hK Y hin fX5_30 fpX5 rfl rfl 0 (fs := [.ref a1, .ref a2, .ref a3, .ref a4, .ref a5, .ref a6, .null, .null, .null, .int 0, .int 0, .int 0, .int 0, .int 0, .int 0, .int 0]) rfl rfl rfl (Nat.le_of_ble_eq_true rfl) (ws' := [(q0, .inr (2, [.ref a1, .ref a2, .ref a3, .ref a4, .ref a5, .ref a6, .ref a7, .null, .null, .int 0, .int 0, .int 0, .int 0, .int 0, .int 0, .int 0])), (a1, .inl (cI, 4, .inl (upd (upd (upd (upd (fun _ => 0) ((0 : Int32)).toNatClampNeg (1 : Int32)) ((1 : Int32)).toNatClampNeg (2 : Int32)) ((2 : Int32)).toNatClampNeg (2 : Int32)) ((3 : Int32)).toNatClampNeg (2 : Int32)))), (a2, .inl (cI, 8, .inl (fun _ => 0))), (a3, .inl (cI, 8, .inl (fun _ => 0))), (a4, .inl (cI, 8, .inl (fun _ => 0))), (a5, .inl (cI, 8, .inl (fun _ => 0))), (a6, .inl (cI, 8, .inl (fun _ => 0))), (a7, .inl (cI, 8, .inl (fun _ => 0)))]) rfl dX5_init_72 (fun H locs Y => ?_)
  refine lv_aload_n hx hb dX5_init_75 rfl (lv_at hl 0 rfl) ?_
  refine lv_bipush (v := (16 : Int32)) hx hb dX5_init_76 (by decide) ?_
  refine inwi S hK hA Y 0 rfl (uw_in 121 rfl rfl) (N' := 16) (by decide) (by decide) (Nat.le_of_ble_eq_true rfl) (Nat.le_of_ble_eq_true rfl) (Nat.le_of_ble_eq_true rfl) dX5_init_78 (fun a8 H Y => ?_)
  have Y : dy_ D A s [(q0, .inr (2, [.ref a1, .ref a2, .ref a3, .ref a4, .ref a5, .ref a6, .ref a7, .null, .null, .int 0, .int 0, .int 0, .int 0, .int 0, .int 0, .int 0])), (a1, .inl (cI, 4, .inl (upd (upd (upd (upd (fun _ => 0) ((0 : Int32)).toNatClampNeg (1 : Int32)) ((1 : Int32)).toNatClampNeg (2 : Int32)) ((2 : Int32)).toNatClampNeg (2 : Int32)) ((3 : Int32)).toNatClampNeg (2 : Int32)))), (a2, .inl (cI, 8, .inl (fun _ => 0))), (a3, .inl (cI, 8, .inl (fun _ => 0))), (a4, .inl (cI, 8, .inl (fun _ => 0))), (a5, .inl (cI, 8, .inl (fun _ => 0))), (a6, .inl (cI, 8, .inl (fun _ => 0))), (a7, .inl (cI, 8, .inl (fun _ => 0))), (a8, .inl (cI, 16, .inl (fun _ => 0)))] H locs := Y
  have Y : dy_ D A s [(q0, .inr (2, [.ref a1, .ref a2, .ref a3, .ref a4, .ref a5, .ref a6, .ref a7, .null, .null, .int 0, .int 0, .int 0, .int 0, .int 0, .int 0, .int 0])), (a1, .inl (cI, 4, .inl (upd (upd (upd (upd (fun _ => 0) ((0 : Int32)).toNatClampNeg (1 : Int32)) ((1 : Int32)).toNatClampNeg (2 : Int32)) ((2 : Int32)).toNatClampNeg (2 : Int32)) ((3 : Int32)).toNatClampNeg (2 : Int32)))), (a2, .inl (cI, 8, .inl (fun _ => 0))), (a3, .inl (cI, 8, .inl (fun _ => 0))), (a4, .inl (cI, 8, .inl (fun _ => 0))), (a5, .inl (cI, 8, .inl (fun _ => 0))), (a6, .inl (cI, 8, .inl (fun _ => 0))), (a7, .inl (cI, 8, .inl (fun _ => 0))), (a8, .inl (cI, 16, .inl (fun _ => 0)))] H _ := Y
  refine ipF S hK Y hin fX5_35 fpX5 rfl rfl 0 (fs := [.ref a1, .ref a2, .ref a3, .ref a4, .ref a5, .ref a6, .ref a7, .null, .null, .int 0, .int 0, .int 0, .int 0, .int 0, .int 0, .int 0]) rfl rfl rfl (Nat.le_of_ble_eq_true rfl) (ws' := [(q0, .inr (2, [.ref a1, .ref a2, .ref a3, .ref a4, .ref a5, .ref a6, .ref a7, .ref a8, .null, .int 0, .int 0, .int 0, .int 0, .int 0, .int 0, .int 0])), (a1, .inl (cI, 4, .inl (upd (upd (upd (upd (fun _ => 0) ((0 : Int32)).toNatClampNeg (1 : Int32)) ((1 : Int32)).toNatClampNeg (2 : Int32)) ((2 : Int32)).toNatClampNeg (2 : Int32)) ((3 : Int32)).toNatClampNeg (2 : Int32)))), (a2, .inl (cI, 8, .inl (fun _ => 0))), (a3, .inl (cI, 8, .inl (fun _ => 0))), (a4, .inl (cI, 8, .inl (fun _ => 0))), (a5, .inl (cI, 8, .inl (fun _ => 0))), (a6, .inl (cI, 8, .inl (fun _ => 0))), (a7, .inl (cI, 8, .inl (fun _ => 0))), (a8, .inl (cI, 16, .inl (fun _ => 0)))]) rfl dX5_init_80 (fun H locs Y => ?_)
  refine lv_aload_n hx hb dX5_init_83 rfl (lv_at hl 0 rfl) ?_
  refine lv_bipush (v := (16 : Int32)) hx hb dX5_init_84 (by decide) ?_
  refine inwi S hK hA Y 0 rfl (uw_in 121 rfl rfl) (N' := 16) (by decide) (by decide) (Nat.le_of_ble_eq_true rfl) (Nat.le_of_ble_eq_true rfl) (Nat.le_of_ble_eq_true rfl) dX5_init_86 (fun a9 H Y => ?_)
  have Y : dy_ D A s [(q0, .inr (2, [.ref a1, .ref a2, .ref a3, .ref a4, .ref a5, .ref a6, .ref a7, .ref a8, .null, .int 0, .int 0, .int 0, .int 0, .int 0, .int 0, .int 0])), (a1, .inl (cI, 4, .inl (upd (upd (upd (upd (fun _ => 0) ((0 : Int32)).toNatClampNeg (1 : Int32)) ((1 : Int32)).toNatClampNeg (2 : Int32)) ((2 : Int32)).toNatClampNeg (2 : Int32)) ((3 : Int32)).toNatClampNeg (2 : Int32)))), (a2, .inl (cI, 8, .inl (fun _ => 0))), (a3, .inl (cI, 8, .inl (fun _ => 0))), (a4, .inl (cI, 8, .inl (fun _ => 0))), (a5, .inl (cI, 8, .inl (fun _ => 0))), (a6, .inl (cI, 8, .inl (fun _ => 0))), (a7, .inl (cI, 8, .inl (fun _ => 0))), (a8, .inl (cI, 16, .inl (fun _ => 0))), (a9, .inl (cI, 16, .inl (fun _ => 0)))] H locs := Y
  have Y : dy_ D A s [(q0, .inr (2, [.ref a1, .ref a2, .ref a3, .ref a4, .ref a5, .ref a6, .ref a7, .ref a8, .null, .int 0, .int 0, .int 0, .int 0, .int 0, .int 0, .int 0])), (a1, .inl (cI, 4, .inl (upd (upd (upd (upd (fun _ => 0) ((0 : Int32)).toNatClampNeg (1 : Int32)) ((1 : Int32)).toNatClampNeg (2 : Int32)) ((2 : Int32)).toNatClampNeg (2 : Int32)) ((3 : Int32)).toNatClampNeg (2 : Int32)))), (a2, .inl (cI, 8, .inl (fun _ => 0))), (a3, .inl (cI, 8, .inl (fun _ => 0))), (a4, .inl (cI, 8, .inl (fun _ => 0))), (a5, .inl (cI, 8, .inl (fun _ => 0))), (a6, .inl (cI, 8, .inl (fun _ => 0))), (a7, .inl (cI, 8, .inl (fun _ => 0))), (a8, .inl (cI, 16, .inl (fun _ => 0))), (a9, .inl (cI, 16, .inl (fun _ => 0)))] H _ := Y
  refine ipF S hK Y hin fX5_38 fpX5 rfl rfl 0 (fs := [.ref a1, .ref a2, .ref a3, .ref a4, .ref a5, .ref a6, .ref a7, .ref a8, .null, .int 0, .int 0, .int 0, .int 0, .int 0, .int 0, .int 0]) rfl rfl rfl (Nat.le_of_ble_eq_true rfl) (ws' := [(q0, .inr (2, [.ref a1, .ref a2, .ref a3, .ref a4, .ref a5, .ref a6, .ref a7, .ref a8, .ref a9, .int 0, .int 0, .int 0, .int 0, .int 0, .int 0, .int 0])), (a1, .inl (cI, 4, .inl (upd (upd (upd (upd (fun _ => 0) ((0 : Int32)).toNatClampNeg (1 : Int32)) ((1 : Int32)).toNatClampNeg (2 : Int32)) ((2 : Int32)).toNatClampNeg (2 : Int32)) ((3 : Int32)).toNatClampNeg (2 : Int32)))), (a2, .inl (cI, 8, .inl (fun _ => 0))), (a3, .inl (cI, 8, .inl (fun _ => 0))), (a4, .inl (cI, 8, .inl (fun _ => 0))), (a5, .inl (cI, 8, .inl (fun _ => 0))), (a6, .inl (cI, 8, .inl (fun _ => 0))), (a7, .inl (cI, 8, .inl (fun _ => 0))), (a8, .inl (cI, 16, .inl (fun _ => 0))), (a9, .inl (cI, 16, .inl (fun _ => 0)))]) rfl dX5_init_88 (fun H locs Y => ?_)
  refine lv_aload_n hx hb dX5_init_91 rfl (lv_at hl 0 rfl) ?_
  refine lv_iconst (v := (0 : Int32)) hx hb dX5_init_92 (by decide) ?_
  refine ip S hK Y fX5_41 fpX5 rfl 0 (fs := [.ref a1, .ref a2, .ref a3, .ref a4, .ref a5, .ref a6, .ref a7, .ref a8, .ref a9, .int 0, .int 0, .int 0, .int 0, .int 0, .int 0, .int 0]) rfl rfl rfl (Nat.le_of_ble_eq_true rfl) (ws' := [(q0, .inr (2, [.ref a1, .ref a2, .ref a3, .ref a4, .ref a5, .ref a6, .ref a7, .ref a8, .ref a9, .int (0 : Int32), .int 0, .int 0, .int 0, .int 0, .int 0, .int 0])), (a1, .inl (cI, 4, .inl (upd (upd (upd (upd (fun _ => 0) ((0 : Int32)).toNatClampNeg (1 : Int32)) ((1 : Int32)).toNatClampNeg (2 : Int32)) ((2 : Int32)).toNatClampNeg (2 : Int32)) ((3 : Int32)).toNatClampNeg (2 : Int32)))), (a2, .inl (cI, 8, .inl (fun _ => 0))), (a3, .inl (cI, 8, .inl (fun _ => 0))), (a4, .inl (cI, 8, .inl (fun _ => 0))), (a5, .inl (cI, 8, .inl (fun _ => 0))), (a6, .inl (cI, 8, .inl (fun _ => 0))), (a7, .inl (cI, 8, .inl (fun _ => 0))), (a8, .inl (cI, 16, .inl (fun _ => 0))), (a9, .inl (cI, 16, .inl (fun _ => 0)))]) rfl dX5_init_93 (fun H locs Y => ?_)
  refine lv_aload_n hx hb dX5_init_96 rfl (lv_at hl 0 rfl) ?_
  refine lv_iconst (v := (0 : Int32)) hx hb dX5_init_97 (by decide) ?_
  refine ip S hK Y fX5_45 fpX5 rfl 0 (fs := [.ref a1, .ref a2, .ref a3, .ref a4, .ref a5, .ref a6, .ref a7, .ref a8, .ref a9, .int (0 : Int32), .int 0, .int 0, .int 0, .int 0, .int 0, .int 0]) rfl rfl rfl (Nat.le_of_ble_eq_true rfl) (ws' := [(q0, .inr (2, [.ref a1, .ref a2, .ref a3, .ref a4, .ref a5, .ref a6, .ref a7, .ref a8, .ref a9, .int (0 : Int32), .int (0 : Int32), .int 0, .int 0, .int 0, .int 0, .int 0])), (a1, .inl (cI, 4, .inl (upd (upd (upd (upd (fun _ => 0) ((0 : Int32)).toNatClampNeg (1 : Int32)) ((1 : Int32)).toNatClampNeg (2 : Int32)) ((2 : Int32)).toNatClampNeg (2 : Int32)) ((3 : Int32)).toNatClampNeg (2 : Int32)))), (a2, .inl (cI, 8, .inl (fun _ => 0))), (a3, .inl (cI, 8, .inl (fun _ => 0))), (a4, .inl (cI, 8, .inl (fun _ => 0))), (a5, .inl (cI, 8, .inl (fun _ => 0))), (a6, .inl (cI, 8, .inl (fun _ => 0))), (a7, .inl (cI, 8, .inl (fun _ => 0))), (a8, .inl (cI, 16, .inl (fun _ => 0))), (a9, .inl (cI, 16, .inl (fun _ => 0)))]) rfl dX5_init_98 (fun H locs Y => ?_)
  refine lv_aload_n hx hb dX5_init_101 rfl (lv_at hl 0 rfl) ?_
  refine lv_iconst (v := (0 : Int32)) hx hb dX5_init_102 (by decide) ?_
  refine ip S hK Y fX5_48 fpX5 rfl 0 (fs := [.ref a1, .ref a2, .ref a3, .ref a4, .ref a5, .ref a6, .ref a7, .ref a8, .ref a9, .int (0 : Int32), .int (0 : Int32), .int 0, .int 0, .int 0, .int 0, .int 0]) rfl rfl rfl (Nat.le_of_ble_eq_true rfl) (ws' := [(q0, .inr (2, [.ref a1, .ref a2, .ref a3, .ref a4, .ref a5, .ref a6, .ref a7, .ref a8, .ref a9, .int (0 : Int32), .int (0 : Int32), .int (0 : Int32), .int 0, .int 0, .int 0, .int 0])), (a1, .inl (cI, 4, .inl (upd (upd (upd (upd (fun _ => 0) ((0 : Int32)).toNatClampNeg (1 : Int32)) ((1 : Int32)).toNatClampNeg (2 : Int32)) ((2 : Int32)).toNatClampNeg (2 : Int32)) ((3 : Int32)).toNatClampNeg (2 : Int32)))), (a2, .inl (cI, 8, .inl (fun _ => 0))), (a3, .inl (cI, 8, .inl (fun _ => 0))), (a4, .inl (cI, 8, .inl (fun _ => 0))), (a5, .inl (cI, 8, .inl (fun _ => 0))), (a6, .inl (cI, 8, .inl (fun _ => 0))), (a7, .inl (cI, 8, .inl (fun _ => 0))), (a8, .inl (cI, 16, .inl (fun _ => 0))), (a9, .inl (cI, 16, .inl (fun _ => 0)))]) rfl dX5_init_103 (fun H locs Y => ?_)
  refine lv_aload_n hx hb dX5_init_106 rfl (lv_at hl 0 rfl) ?_
  refine lv_sipush (v := (-10006 : Int32)) hx hb dX5_init_107 (by decide) ?_
  refine ip S hK Y fX5_51 fpX5 rfl 0 (fs := [.ref a1, .ref a2, .ref a3, .ref a4, .ref a5, .ref a6, .ref a7, .ref a8, .ref a9, .int (0 : Int32), .int (0 : Int32), .int (0 : Int32), .int 0, .int 0, .int 0, .int 0]) rfl rfl rfl (Nat.le_of_ble_eq_true rfl) (ws' := [(q0, .inr (2, [.ref a1, .ref a2, .ref a3, .ref a4, .ref a5, .ref a6, .ref a7, .ref a8, .ref a9, .int (0 : Int32), .int (0 : Int32), .int (0 : Int32), .int (-10006 : Int32), .int 0, .int 0, .int 0])), (a1, .inl (cI, 4, .inl (upd (upd (upd (upd (fun _ => 0) ((0 : Int32)).toNatClampNeg (1 : Int32)) ((1 : Int32)).toNatClampNeg (2 : Int32)) ((2 : Int32)).toNatClampNeg (2 : Int32)) ((3 : Int32)).toNatClampNeg (2 : Int32)))), (a2, .inl (cI, 8, .inl (fun _ => 0))), (a3, .inl (cI, 8, .inl (fun _ => 0))), (a4, .inl (cI, 8, .inl (fun _ => 0))), (a5, .inl (cI, 8, .inl (fun _ => 0))), (a6, .inl (cI, 8, .inl (fun _ => 0))), (a7, .inl (cI, 8, .inl (fun _ => 0))), (a8, .inl (cI, 16, .inl (fun _ => 0))), (a9, .inl (cI, 16, .inl (fun _ => 0)))]) rfl dX5_init_110 (fun H locs Y => ?_)
  refine lv_aload_n hx hb dX5_init_113 rfl (lv_at hl 0 rfl) ?_
  refine lv_sipush (v := (-10006 : Int32)) hx hb dX5_init_114 (by decide) ?_
  refine ip S hK Y fX5_54 fpX5 rfl 0 (fs := [.ref a1, .ref a2, .ref a3, .ref a4, .ref a5, .ref a6, .ref a7, .ref a8, .ref a9, .int (0 : Int32), .int (0 : Int32), .int (0 : Int32), .int (-10006 : Int32), .int 0, .int 0, .int 0]) rfl rfl rfl (Nat.le_of_ble_eq_true rfl) (ws' := [(q0, .inr (2, [.ref a1, .ref a2, .ref a3, .ref a4, .ref a5, .ref a6, .ref a7, .ref a8, .ref a9, .int (0 : Int32), .int (0 : Int32), .int (0 : Int32), .int (-10006 : Int32), .int (-10006 : Int32), .int 0, .int 0])), (a1, .inl (cI, 4, .inl (upd (upd (upd (upd (fun _ => 0) ((0 : Int32)).toNatClampNeg (1 : Int32)) ((1 : Int32)).toNatClampNeg (2 : Int32)) ((2 : Int32)).toNatClampNeg (2 : Int32)) ((3 : Int32)).toNatClampNeg (2 : Int32)))), (a2, .inl (cI, 8, .inl (fun _ => 0))), (a3, .inl (cI, 8, .inl (fun _ => 0))), (a4, .inl (cI, 8, .inl (fun _ => 0))), (a5, .inl (cI, 8, .inl (fun _ => 0))), (a6, .inl (cI, 8, .inl (fun _ => 0))), (a7, .inl (cI, 8, .inl (fun _ => 0))), (a8, .inl (cI, 16, .inl (fun _ => 0))), (a9, .inl (cI, 16, .inl (fun _ => 0)))]) rfl dX5_init_117 (fun H locs Y => ?_)
  refine lv_aload_n hx hb dX5_init_120 rfl (lv_at hl 0 rfl) ?_
  refine lv_sipush (v := (-10006 : Int32)) hx hb dX5_init_121 (by decide) ?_
  refine ip S hK Y fX5_57 fpX5 rfl 0 (fs := [.ref a1, .ref a2, .ref a3, .ref a4, .ref a5, .ref a6, .ref a7, .ref a8, .ref a9, .int (0 : Int32), .int (0 : Int32), .int (0 : Int32), .int (-10006 : Int32), .int (-10006 : Int32), .int 0, .int 0]) rfl rfl rfl (Nat.le_of_ble_eq_true rfl) (ws' := [(q0, .inr (2, [.ref a1, .ref a2, .ref a3, .ref a4, .ref a5, .ref a6, .ref a7, .ref a8, .ref a9, .int (0 : Int32), .int (0 : Int32), .int (0 : Int32), .int (-10006 : Int32), .int (-10006 : Int32), .int (-10006 : Int32), .int 0])), (a1, .inl (cI, 4, .inl (upd (upd (upd (upd (fun _ => 0) ((0 : Int32)).toNatClampNeg (1 : Int32)) ((1 : Int32)).toNatClampNeg (2 : Int32)) ((2 : Int32)).toNatClampNeg (2 : Int32)) ((3 : Int32)).toNatClampNeg (2 : Int32)))), (a2, .inl (cI, 8, .inl (fun _ => 0))), (a3, .inl (cI, 8, .inl (fun _ => 0))), (a4, .inl (cI, 8, .inl (fun _ => 0))), (a5, .inl (cI, 8, .inl (fun _ => 0))), (a6, .inl (cI, 8, .inl (fun _ => 0))), (a7, .inl (cI, 8, .inl (fun _ => 0))), (a8, .inl (cI, 16, .inl (fun _ => 0))), (a9, .inl (cI, 16, .inl (fun _ => 0)))]) rfl dX5_init_124 (fun H locs Y => ?_)
  refine lv_aload_n hx hb dX5_init_127 rfl (lv_at hl 0 rfl) ?_
  refine lv_iconst (v := (0 : Int32)) hx hb dX5_init_128 (by decide) ?_
  refine ip S hK Y fX5_60 fpX5 rfl 0 (fs := [.ref a1, .ref a2, .ref a3, .ref a4, .ref a5, .ref a6, .ref a7, .ref a8, .ref a9, .int (0 : Int32), .int (0 : Int32), .int (0 : Int32), .int (-10006 : Int32), .int (-10006 : Int32), .int (-10006 : Int32), .int 0]) rfl rfl rfl (Nat.le_of_ble_eq_true rfl) (ws' := [(q0, .inr (2, [.ref a1, .ref a2, .ref a3, .ref a4, .ref a5, .ref a6, .ref a7, .ref a8, .ref a9, .int (0 : Int32), .int (0 : Int32), .int (0 : Int32), .int (-10006 : Int32), .int (-10006 : Int32), .int (-10006 : Int32), .int (0 : Int32)])), (a1, .inl (cI, 4, .inl (upd (upd (upd (upd (fun _ => 0) ((0 : Int32)).toNatClampNeg (1 : Int32)) ((1 : Int32)).toNatClampNeg (2 : Int32)) ((2 : Int32)).toNatClampNeg (2 : Int32)) ((3 : Int32)).toNatClampNeg (2 : Int32)))), (a2, .inl (cI, 8, .inl (fun _ => 0))), (a3, .inl (cI, 8, .inl (fun _ => 0))), (a4, .inl (cI, 8, .inl (fun _ => 0))), (a5, .inl (cI, 8, .inl (fun _ => 0))), (a6, .inl (cI, 8, .inl (fun _ => 0))), (a7, .inl (cI, 8, .inl (fun _ => 0))), (a8, .inl (cI, 16, .inl (fun _ => 0))), (a9, .inl (cI, 16, .inl (fun _ => 0)))]) rfl dX5_init_129 (fun H locs Y => ?_)
  refine lv_aload_n hx hb dX5_init_132 rfl (lv_at hl 0 rfl) ?_
  refine ig S hK Y fX5_30 0 rfl (v := .ref a7) rfl dX5_init_133 ?_
  refine lv_sipush (v := (-10006 : Int32)) hx hb dX5_init_136 (by decide) ?_
  refine cg_sv (isC := [7]) (isR := [0, 1, 2, 3, 4, 5, 6, 8, 9]) (ps := [0, 1, 2, 3, 4, 5, 6, 9, 7, 8]) (it := [0]) (wr := [(q0, .inr (2, [.ref a1, .ref a2, .ref a3, .ref a4, .ref a5, .ref a6, .ref a7, .ref a8, .ref a9, .int (0 : Int32), .int (0 : Int32), .int (0 : Int32), .int (-10006 : Int32), .int (-10006 : Int32), .int (-10006 : Int32), .int (0 : Int32)])), (a1, .inl (cI, 4, .inl (upd (upd (upd (upd (fun _ => 0) ((0 : Int32)).toNatClampNeg (1 : Int32)) ((1 : Int32)).toNatClampNeg (2 : Int32)) ((2 : Int32)).toNatClampNeg (2 : Int32)) ((3 : Int32)).toNatClampNeg (2 : Int32)))), (a2, .inl (cI, 8, .inl (fun _ => 0))), (a3, .inl (cI, 8, .inl (fun _ => 0))), (a4, .inl (cI, 8, .inl (fun _ => 0))), (a5, .inl (cI, 8, .inl (fun _ => 0))), (a6, .inl (cI, 8, .inl (fun _ => 0))), (a8, .inl (cI, 16, .inl (fun _ => 0))), (a9, .inl (cI, 16, .inl (fun _ => 0)))]) (ws2 := [(q0, .inr (2, [.ref a1, .ref a2, .ref a3, .ref a4, .ref a5, .ref a6, .ref a7, .ref a8, .ref a9, .int (0 : Int32), .int (0 : Int32), .int (0 : Int32), .int (-10006 : Int32), .int (-10006 : Int32), .int (-10006 : Int32), .int (0 : Int32)])), (a1, .inl (cI, 4, .inl (upd (upd (upd (upd (fun _ => 0) ((0 : Int32)).toNatClampNeg (1 : Int32)) ((1 : Int32)).toNatClampNeg (2 : Int32)) ((2 : Int32)).toNatClampNeg (2 : Int32)) ((3 : Int32)).toNatClampNeg (2 : Int32)))), (a2, .inl (cI, 8, .inl (fun _ => 0))), (a3, .inl (cI, 8, .inl (fun _ => 0))), (a4, .inl (cI, 8, .inl (fun _ => 0))), (a5, .inl (cI, 8, .inl (fun _ => 0))), (a6, .inl (cI, 8, .inl (fun _ => 0))), (a7, .inl (cI, 8, .inl (fil_ (fun _ => 0) (-10006 : Int32) 8))), (a8, .inl (cI, 16, .inl (fun _ => 0))), (a9, .inl (cI, 16, .inl (fun _ => 0)))]) (As := [.ref a7, .int (-10006 : Int32)]) (rest := []) S hK hA hZ Y hl.1 (mJ7_fill_53178 l D cI 8 (by decide) a7 (fun _ => 0) (-10006 : Int32)) rfl rfl rfl (by decide +kernel) (by decide +kernel) rfl (by decide +kernel) rfl kX5_63 ⟨Nat.le_of_ble_eq_true rfl, Nat.le_of_ble_eq_true rfl⟩ rfl rfl (Nat.le_of_ble_eq_true rfl) ⟨Nat.le_of_ble_eq_true rfl, Nat.le_of_ble_eq_true rfl⟩ dX5_init_139 (fun H locs Y => ?_)
  refine lv_aload_n hx hb dX5_init_142 rfl (lv_at hl 0 rfl) ?_
  refine ig S hK Y fX5_38 0 rfl (v := .ref a9) rfl dX5_init_143 ?_
  refine lv_iconst (v := (-1 : Int32)) hx hb dX5_init_146 (by decide) ?_
  refine cg_sv (isC := [9]) (isR := [0, 1, 2, 3, 4, 5, 6, 7, 8]) (ps := [0, 1, 2, 3, 4, 5, 6, 7, 8, 9]) (it := [0]) (wr := [(q0, .inr (2, [.ref a1, .ref a2, .ref a3, .ref a4, .ref a5, .ref a6, .ref a7, .ref a8, .ref a9, .int (0 : Int32), .int (0 : Int32), .int (0 : Int32), .int (-10006 : Int32), .int (-10006 : Int32), .int (-10006 : Int32), .int (0 : Int32)])), (a1, .inl (cI, 4, .inl (upd (upd (upd (upd (fun _ => 0) ((0 : Int32)).toNatClampNeg (1 : Int32)) ((1 : Int32)).toNatClampNeg (2 : Int32)) ((2 : Int32)).toNatClampNeg (2 : Int32)) ((3 : Int32)).toNatClampNeg (2 : Int32)))), (a2, .inl (cI, 8, .inl (fun _ => 0))), (a3, .inl (cI, 8, .inl (fun _ => 0))), (a4, .inl (cI, 8, .inl (fun _ => 0))), (a5, .inl (cI, 8, .inl (fun _ => 0))), (a6, .inl (cI, 8, .inl (fun _ => 0))), (a7, .inl (cI, 8, .inl (fil_ (fun _ => 0) (-10006 : Int32) 8))), (a8, .inl (cI, 16, .inl (fun _ => 0)))]) (ws2 := [(q0, .inr (2, [.ref a1, .ref a2, .ref a3, .ref a4, .ref a5, .ref a6, .ref a7, .ref a8, .ref a9, .int (0 : Int32), .int (0 : Int32), .int (0 : Int32), .int (-10006 : Int32), .int (-10006 : Int32), .int (-10006 : Int32), .int (0 : Int32)])), (a1, .inl (cI, 4, .inl (upd (upd (upd (upd (fun _ => 0) ((0 : Int32)).toNatClampNeg (1 : Int32)) ((1 : Int32)).toNatClampNeg (2 : Int32)) ((2 : Int32)).toNatClampNeg (2 : Int32)) ((3 : Int32)).toNatClampNeg (2 : Int32)))), (a2, .inl (cI, 8, .inl (fun _ => 0))), (a3, .inl (cI, 8, .inl (fun _ => 0))), (a4, .inl (cI, 8, .inl (fun _ => 0))), (a5, .inl (cI, 8, .inl (fun _ => 0))), (a6, .inl (cI, 8, .inl (fun _ => 0))), (a7, .inl (cI, 8, .inl (fil_ (fun _ => 0) (-10006 : Int32) 8))), (a8, .inl (cI, 16, .inl (fun _ => 0))), (a9, .inl (cI, 16, .inl (fil_ (fun _ => 0) (-1 : Int32) 16)))]) (As := [.ref a9, .int (-1 : Int32)]) (rest := []) S hK hA hZ Y hl.1 (mJ7_fill_53178 l D cI 16 (by decide) a9 (fun _ => 0) (-1 : Int32)) rfl rfl rfl (by decide +kernel) (by decide +kernel) rfl (by decide +kernel) rfl kX5_63 ⟨Nat.le_of_ble_eq_true rfl, Nat.le_of_ble_eq_true rfl⟩ rfl rfl (Nat.le_of_ble_eq_true rfl) ⟨Nat.le_of_ble_eq_true rfl, Nat.le_of_ble_eq_true rfl⟩ dX5_init_147 (fun H locs Y => ?_)
  exact me_rc (fun i => [q0, a1, a2, a3, a4, a5, a6, a7, a8, a9].getD i 0) rfl rfl S hK Y hr hlk dX5_init_150
def gT0 : sg_T := fun j => match j with
  | 0 => fun k => match k with
    | 0 => (0 : Int32)
    | _ => 0
  | 1 => (fun _ => 0)
  | _ => fun _ => 0
set_option maxRecDepth 100000 in
set_option maxHeartbeats 4000000 in
theorem mX1_init (l : Launch) (D : va_G) (cI : ClassId) (q0 : Nat) : me_C l D (tT cI) yX1_init cX1_init 1 1 12 1 60 [(q0, .inr (0, [.null, .int 0]))] [.ref q0] (fun u : Nat → Nat => u 0 = q0) (fun u => wT cI u gT0) := by
  refine me_ofC (plainFor_of_name (by decide)) (Nat.le_of_ble_eq_true rfl) rfl ?_
  intro p e s m args below meth c A ls S hK Y hA hl hr hlk hZ hin
  have hx := S.1
  have hb := S.2.1
  have hl : lv_has ls 1 [(0, .ref q0)] := hl
  refine lv_aload_n hx hb dX1_init_0 rfl (lv_at hl 0 rfl) ?_
  refine ioi S (uw_in 143 rfl rfl) (uw_in 20 rfl rfl) (uw_in 21 rfl rfl) hl.1 (Nat.le_of_ble_eq_true rfl) (Nat.le_of_ble_eq_true rfl) dX1_init_1 ?_
  refine lv_aload_n hx hb dX1_init_4 rfl (lv_at hl 0 rfl) ?_
  refine lv_bipush (v := (60 : Int32)) hx hb dX1_init_5 (by decide) ?_
  refine inwi S hK hA Y 0 rfl (uw_in 121 rfl rfl) (N' := 60) (by decide) (by decide) (Nat.le_of_ble_eq_true rfl) (Nat.le_of_ble_eq_true rfl) (Nat.le_of_ble_eq_true rfl) dX1_init_7 (fun a1 H Y => ?_)
  have Y := Y
  have Y : dy_ D A s [(q0, .inr (0, [.null, .int 0])), (a1, .inl (cI, 60, .inl (fun _ => 0)))] H _ := Y
  refine ipF S hK Y hin fX1_9 fpX1 rfl rfl 0 (fs := [.null, .int 0]) rfl rfl rfl (Nat.le_of_ble_eq_true rfl) (ws' := [(q0, .inr (0, [.ref a1, .int 0])), (a1, .inl (cI, 60, .inl (fun _ => 0)))]) rfl dX1_init_9 (fun H locs Y => ?_)
  refine lv_aload_n hx hb dX1_init_12 rfl (lv_at hl 0 rfl) ?_
  refine lv_iconst (v := (0 : Int32)) hx hb dX1_init_13 (by decide) ?_
  refine ip S hK Y fX1_15 fpX1 rfl 0 (fs := [.ref a1, .int 0]) rfl rfl rfl (Nat.le_of_ble_eq_true rfl) (ws' := [(q0, .inr (0, [.ref a1, .int (0 : Int32)])), (a1, .inl (cI, 60, .inl (fun _ => 0)))]) rfl dX1_init_14 (fun H locs Y => ?_)
  exact me_rc (fun i => [q0, a1].getD i 0) rfl rfl S hK Y hr hlk dX1_init_17
theorem arq_cg {cA : ClassId} {n : Nat} {f g : Nat → Option Nat} (h : ∀ k, k < n → f k = g k) : vp_cell cA (n, .inr (.inr (.inr (.inr f)))) = vp_cell cA (n, .inr (.inr (.inr (.inr g)))) := by
  rw [vp_cell_q, vp_cell_q]
  unfold arrV
  congr 2
  funext k
  exact congrArg va_rf (h k.val k.isLt)
theorem dy_q1 {D : va_G} {A : Nat → Prop} {s : State} {H : Heap} {locs : List Loc} {c0 : Nat × va_E} {a n : Nat} {cS : ClassId} {f g : Nat → Option Nat} {rest : va_W} (h : ∀ k, k < n → f k = g k) (Y : dy_ D A s (c0 :: (a, .inl (cS, n, .inr (.inr (.inr (.inr f))))) :: rest) H locs) : dy_ D A s (c0 :: (a, .inl (cS, n, .inr (.inr (.inr (.inr g))))) :: rest) H locs := by
  refine dy_r (w1 := c0 :: (a, .inl (cS, n, .inr (.inr (.inr (.inr f))))) :: rest) (w2 := c0 :: (a, .inl (cS, n, .inr (.inr (.inr (.inr g))))) :: rest) rfl ?_ Y
  intro k p q hp hq
  match k, hp, hq with
  | 0, hp, hq => cases hp; cases hq; exact ⟨rfl, fun z => z⟩
  | 1, hp, hq => cases hp; cases hq; exact ⟨rfl, fun z => by have e := arq_cg (cA := cS) h; show H[_]? = some (vp_cell cS _); rw [← e]; exact z⟩
  | k + 2, hp, hq =>
    have e : p = q := Option.some.inj (hp.symm.trans hq)
    subst e
    exact ⟨rfl, fun z => z⟩
theorem dy_q2 {D : va_G} {A : Nat → Prop} {s : State} {H : Heap} {locs : List Loc} {c0 c1 : Nat × va_E} {a n : Nat} {cS : ClassId} {f g : Nat → Option Nat} {rest : va_W} (h : ∀ k, k < n → f k = g k) (Y : dy_ D A s (c0 :: c1 :: (a, .inl (cS, n, .inr (.inr (.inr (.inr f))))) :: rest) H locs) : dy_ D A s (c0 :: c1 :: (a, .inl (cS, n, .inr (.inr (.inr (.inr g))))) :: rest) H locs := by
  refine dy_r (w1 := c0 :: c1 :: (a, .inl (cS, n, .inr (.inr (.inr (.inr f))))) :: rest) (w2 := c0 :: c1 :: (a, .inl (cS, n, .inr (.inr (.inr (.inr g))))) :: rest) rfl ?_ Y
  intro k p q hp hq
  match k, hp, hq with
  | 0, hp, hq => cases hp; cases hq; exact ⟨rfl, fun z => z⟩
  | 1, hp, hq => cases hp; cases hq; exact ⟨rfl, fun z => z⟩
  | 2, hp, hq => cases hp; cases hq; exact ⟨rfl, fun z => by have e := arq_cg (cA := cS) h; show H[_]? = some (vp_cell cS _); rw [← e]; exact z⟩
  | k + 3, hp, hq =>
    have e : p = q := Option.some.inj (hp.symm.trans hq)
    subst e
    exact ⟨rfl, fun z => z⟩
def pi0 : Nat → Nat := fun k => k + 2
def wPs (cI cS : ClassId) (g : Nat → Nat → Nat) : va_W := (((((([(g 8 1, .inr (1, [.ref (g 8 2), .int 0])), (g 8 2, .inl (cS, 6, .inr (.inr (.inr (.inr (rL g pi0))))))] ++ wS cI (g 2) gS0) ++ wS cI (g 3) gS0) ++ wS cI (g 4) gS0) ++ wS cI (g 5) gS0) ++ wS cI (g 6) gS0) ++ wS cI (g 7) gS0)
set_option maxRecDepth 100000 in
set_option maxHeartbeats 4000000 in
theorem mX3_init (l : Launch) (D : va_G) (cI cS : ClassId) (q0 : Nat) : me_C l D (tL cI cS) yX3_init cX3_init 2 2 43 61 606 [(q0, .inr (1, [.null, .int 0]))] [.ref q0] (fun g : Nat → Nat → Nat => g 8 1 = q0) (fun g => wPs cI cS g) := by
  refine me_ofC (plainFor_of_name (by decide)) (Nat.le_of_ble_eq_true rfl) rfl ?_
  intro p e s m args below meth c A ls S hK Y hA hl hr hlk hZ hin
  have hx := S.1
  have hb := S.2.1
  have hl : lv_has ls 2 [(0, .ref q0)] := hl
  refine lv_aload_n hx hb dX3_init_0 rfl (lv_at hl 0 rfl) ?_
  refine ioi S (uw_in 127 rfl rfl) (uw_in 20 rfl rfl) (uw_in 21 rfl rfl) hl.1 (Nat.le_of_ble_eq_true rfl) (Nat.le_of_ble_eq_true rfl) dX3_init_1 ?_
  refine lv_aload_n hx hb dX3_init_4 rfl (lv_at hl 0 rfl) ?_
  refine lv_bipush (v := (6 : Int32)) hx hb dX3_init_5 (by decide) ?_
  refine inwo S hK hA hZ Y 1 rfl (uw_in 128 rfl rfl) (N' := 6) (by decide) (by decide) (Nat.le_of_ble_eq_true rfl) (Nat.le_of_ble_eq_true rfl) (Nat.le_of_ble_eq_true rfl) dX3_init_7 (fun a1 H Y => ?_)
  have Y : dy_ D A s [(q0, .inr (1, [.null, .int 0])), (a1, .inl (cS, 6, .inr (.inr (.inr (.inr (fun _ => none))))))] H _ := Y
  refine ipF S hK Y hin fX3_11 fpX3 rfl rfl 0 (fs := [.null, .int 0]) rfl rfl rfl (Nat.le_of_ble_eq_true rfl) (ws' := [(q0, .inr (1, [.ref a1, .int 0])), (a1, .inl (cS, 6, .inr (.inr (.inr (.inr (fun _ => none))))))]) rfl dX3_init_10 (fun H locs Y => ?_)
  refine lv_aload_n hx hb dX3_init_13 rfl (lv_at hl 0 rfl) ?_
  refine lv_iconst (v := (0 : Int32)) hx hb dX3_init_14 (by decide) ?_
  refine ip S hK Y fX3_17 fpX3 rfl 0 (fs := [.ref a1, .int 0]) rfl rfl rfl (Nat.le_of_ble_eq_true rfl) (ws' := [(q0, .inr (1, [.ref a1, .int (0 : Int32)])), (a1, .inl (cS, 6, .inr (.inr (.inr (.inr (fun _ => none))))))]) rfl dX3_init_15 (fun H locs Y => ?_)
  refine lv_iconst (v := (0 : Int32)) hx hb dX3_init_18 (by decide) ?_
  refine lv_istore_n (lv' := [(1, .int (0 : Int32)), (0, .ref q0)]) hx hb dX3_init_19 rfl hl (Nat.le_of_ble_eq_true rfl) rfl (fun ls hl => ?_)
  refine lv_iload_n hx hb dX3_init_20 rfl (lv_at hl 0 rfl) ?_
  refine lv_aload_n hx hb dX3_init_21 rfl (lv_at hl 1 rfl) ?_
  refine ig S hK Y fX3_11 0 rfl (v := .ref a1) rfl dX3_init_22 ?_
  refine va_alen (v := (6 : Int32)) hx hb hK Y.1 1 1 rfl rfl rfl dX3_init_25 ?_
  refine lv_icmp_ge (tgt := 48) hx hb dX3_init_26 (by decide) (fun q1 => absurd q1 (by decide)) (fun _ => ?_)
  refine lv_aload_n hx hb dX3_init_29 rfl (lv_at hl 1 rfl) ?_
  refine ig S hK Y fX3_11 0 rfl (v := .ref a1) rfl dX3_init_30 ?_
  refine lv_iload_n hx hb dX3_init_33 rfl (lv_at hl 0 rfl) ?_
  refine ino S hK hA Y (C := RX5) (T := TX5) (N := 16) (ci := 2) (fs := [.null, .null, .null, .null, .null, .null, .null, .null, .null, .int 0, .int 0, .int 0, .int 0, .int 0, .int 0, .int 0]) (uw_in 128 rfl rfl) (uw_in 23 rfl rfl) (uw_in 3 rfl rfl) iuX5 fpX5 rfl (by decide +kernel) (Nat.le_of_ble_eq_true rfl) (Nat.le_of_ble_eq_true rfl) dX3_init_34 (fun a2 H Y => ?_)
  refine lv_dup hx hb dX3_init_37 rfl ?_
  refine cgi (isC := [2]) (isR := [0, 1]) (it := [0]) (wr := [(q0, .inr (1, [.ref a1, .int (0 : Int32)])), (a1, .inl (cS, 6, .inr (.inr (.inr (.inr (fun _ => none))))))]) (As := []) (rest := [.ref a2, .int (0 : Int32), .ref a1]) S hK hA hZ Y hl.1 (mX5_init l D cI a2) rfl rfl rfl (by decide +kernel) (by decide +kernel) rfl (uw_in 130 rfl rfl) (uw_in 25 rfl rfl) (uw_in 3 rfl rfl) (uw_in 26 rfl rfl) ⟨by decide, by decide, by decide +kernel⟩ rfl ⟨Nat.le_of_ble_eq_true rfl, Nat.le_of_ble_eq_true rfl⟩ rfl rfl (Nat.le_of_ble_eq_true rfl) ⟨Nat.le_of_ble_eq_true rfl, Nat.le_of_ble_eq_true rfl⟩ dX3_init_38 (fun u2 H locs u2p Yn => ?_)
  subst u2p
  have Y : dy_ D A s ([(q0, .inr (1, [.ref a1, .int (0 : Int32)])), (a1, .inl (cS, 6, .inr (.inr (.inr (.inr (fun _ => none))))))] ++ wS cI u2 gS0) H locs := Yn
  refine iwq (r := (RX5, TX5, 16)) S hK Y 1 1 2 2 (f := (fun _ => none)) rfl rfl (vs := vS u2 (gS0 0)) rfl rfl (show ¬ ((0 : Int32) < 0 ∨ 6 ≤ ((0 : Int32)).toNatClampNeg) by decide) (ws' := ([(q0, .inr (1, [.ref a1, .int (0 : Int32)])), (a1, .inl (cS, 6, .inr (.inr (.inr (.inr (va_up (fun _ => none) 0 (some ((u2 0)))))))))] ++ wS cI u2 gS0)) rfl dX3_init_41 (fun H locs Y => ?_)
  refine lv_iinc (v := (1 : Int32)) (lv' := [(1, .int (1 : Int32)), (0, .ref q0)]) hx hb dX3_init_42 hl (k := 0) rfl (by decide) (Nat.le_of_ble_eq_true rfl) rfl (fun ls hl => ?_)
  refine lv_goto (tgt := 20) hx hb dX3_init_45 (by decide) ?_
  refine lv_iload_n hx hb dX3_init_20 rfl (lv_at hl 0 rfl) ?_
  refine lv_aload_n hx hb dX3_init_21 rfl (lv_at hl 1 rfl) ?_
  refine ig S hK Y fX3_11 0 rfl (v := .ref a1) rfl dX3_init_22 ?_
  refine va_alen (v := (6 : Int32)) hx hb hK Y.1 1 1 rfl rfl rfl dX3_init_25 ?_
  refine lv_icmp_ge (tgt := 48) hx hb dX3_init_26 (by decide) (fun q1 => absurd q1 (by decide)) (fun _ => ?_)
  refine lv_aload_n hx hb dX3_init_29 rfl (lv_at hl 1 rfl) ?_
  refine ig S hK Y fX3_11 0 rfl (v := .ref a1) rfl dX3_init_30 ?_
  refine lv_iload_n hx hb dX3_init_33 rfl (lv_at hl 0 rfl) ?_
  refine ino S hK hA Y (C := RX5) (T := TX5) (N := 16) (ci := 2) (fs := [.null, .null, .null, .null, .null, .null, .null, .null, .null, .int 0, .int 0, .int 0, .int 0, .int 0, .int 0, .int 0]) (uw_in 128 rfl rfl) (uw_in 23 rfl rfl) (uw_in 3 rfl rfl) iuX5 fpX5 rfl (by decide +kernel) (Nat.le_of_ble_eq_true rfl) (Nat.le_of_ble_eq_true rfl) dX3_init_34 (fun a3 H Y => ?_)
  refine lv_dup hx hb dX3_init_37 rfl ?_
  refine cgi (isC := [12]) (isR := [0, 1, 2, 3, 4, 5, 6, 7, 8, 9, 10, 11]) (it := [0]) (wr := ([(q0, .inr (1, [.ref a1, .int (0 : Int32)])), (a1, .inl (cS, 6, .inr (.inr (.inr (.inr (va_up (fun _ => none) 0 (some ((u2 0)))))))))] ++ wS cI u2 gS0)) (As := []) (rest := [.ref a3, .int (1 : Int32), .ref a1]) S hK hA hZ Y hl.1 (mX5_init l D cI a3) rfl rfl rfl (by decide +kernel) (by decide +kernel) rfl (uw_in 130 rfl rfl) (uw_in 25 rfl rfl) (uw_in 3 rfl rfl) (uw_in 26 rfl rfl) ⟨by decide, by decide, by decide +kernel⟩ rfl ⟨Nat.le_of_ble_eq_true rfl, Nat.le_of_ble_eq_true rfl⟩ rfl rfl (Nat.le_of_ble_eq_true rfl) ⟨Nat.le_of_ble_eq_true rfl, Nat.le_of_ble_eq_true rfl⟩ dX3_init_38 (fun u3 H locs u3p Yn => ?_)
  subst u3p
  have Y : dy_ D A s (([(q0, .inr (1, [.ref a1, .int (0 : Int32)])), (a1, .inl (cS, 6, .inr (.inr (.inr (.inr (va_up (fun _ => none) 0 (some ((u2 0)))))))))] ++ wS cI u2 gS0) ++ wS cI u3 gS0) H locs := Yn
  refine iwq (r := (RX5, TX5, 16)) S hK Y 1 1 12 2 (f := (va_up (fun _ => none) 0 (some ((u2 0))))) rfl rfl (vs := vS u3 (gS0 0)) rfl rfl (show ¬ ((1 : Int32) < 0 ∨ 6 ≤ ((1 : Int32)).toNatClampNeg) by decide) (ws' := (([(q0, .inr (1, [.ref a1, .int (0 : Int32)])), (a1, .inl (cS, 6, .inr (.inr (.inr (.inr (va_up (va_up (fun _ => none) 0 (some ((u2 0)))) 1 (some ((u3 0)))))))))] ++ wS cI u2 gS0) ++ wS cI u3 gS0)) rfl dX3_init_41 (fun H locs Y => ?_)
  refine lv_iinc (v := (2 : Int32)) (lv' := [(1, .int (2 : Int32)), (0, .ref q0)]) hx hb dX3_init_42 hl (k := 0) rfl (by decide) (Nat.le_of_ble_eq_true rfl) rfl (fun ls hl => ?_)
  refine lv_goto (tgt := 20) hx hb dX3_init_45 (by decide) ?_
  refine lv_iload_n hx hb dX3_init_20 rfl (lv_at hl 0 rfl) ?_
  refine lv_aload_n hx hb dX3_init_21 rfl (lv_at hl 1 rfl) ?_
  refine ig S hK Y fX3_11 0 rfl (v := .ref a1) rfl dX3_init_22 ?_
  refine va_alen (v := (6 : Int32)) hx hb hK Y.1 1 1 rfl rfl rfl dX3_init_25 ?_
  refine lv_icmp_ge (tgt := 48) hx hb dX3_init_26 (by decide) (fun q1 => absurd q1 (by decide)) (fun _ => ?_)
  refine lv_aload_n hx hb dX3_init_29 rfl (lv_at hl 1 rfl) ?_
  refine ig S hK Y fX3_11 0 rfl (v := .ref a1) rfl dX3_init_30 ?_
  refine lv_iload_n hx hb dX3_init_33 rfl (lv_at hl 0 rfl) ?_
  refine ino S hK hA Y (C := RX5) (T := TX5) (N := 16) (ci := 2) (fs := [.null, .null, .null, .null, .null, .null, .null, .null, .null, .int 0, .int 0, .int 0, .int 0, .int 0, .int 0, .int 0]) (uw_in 128 rfl rfl) (uw_in 23 rfl rfl) (uw_in 3 rfl rfl) iuX5 fpX5 rfl (by decide +kernel) (Nat.le_of_ble_eq_true rfl) (Nat.le_of_ble_eq_true rfl) dX3_init_34 (fun a4 H Y => ?_)
  refine lv_dup hx hb dX3_init_37 rfl ?_
  refine cgi (isC := [22]) (isR := [0, 1, 2, 3, 4, 5, 6, 7, 8, 9, 10, 11, 12, 13, 14, 15, 16, 17, 18, 19, 20, 21]) (it := [0]) (wr := (([(q0, .inr (1, [.ref a1, .int (0 : Int32)])), (a1, .inl (cS, 6, .inr (.inr (.inr (.inr (va_up (va_up (fun _ => none) 0 (some ((u2 0)))) 1 (some ((u3 0)))))))))] ++ wS cI u2 gS0) ++ wS cI u3 gS0)) (As := []) (rest := [.ref a4, .int (2 : Int32), .ref a1]) S hK hA hZ Y hl.1 (mX5_init l D cI a4) rfl rfl rfl (by decide +kernel) (by decide +kernel) rfl (uw_in 130 rfl rfl) (uw_in 25 rfl rfl) (uw_in 3 rfl rfl) (uw_in 26 rfl rfl) ⟨by decide, by decide, by decide +kernel⟩ rfl ⟨Nat.le_of_ble_eq_true rfl, Nat.le_of_ble_eq_true rfl⟩ rfl rfl (Nat.le_of_ble_eq_true rfl) ⟨Nat.le_of_ble_eq_true rfl, Nat.le_of_ble_eq_true rfl⟩ dX3_init_38 (fun u4 H locs u4p Yn => ?_)
  subst u4p
  have Y : dy_ D A s ((([(q0, .inr (1, [.ref a1, .int (0 : Int32)])), (a1, .inl (cS, 6, .inr (.inr (.inr (.inr (va_up (va_up (fun _ => none) 0 (some ((u2 0)))) 1 (some ((u3 0)))))))))] ++ wS cI u2 gS0) ++ wS cI u3 gS0) ++ wS cI u4 gS0) H locs := Yn
  refine iwq (r := (RX5, TX5, 16)) S hK Y 1 1 22 2 (f := (va_up (va_up (fun _ => none) 0 (some ((u2 0)))) 1 (some ((u3 0))))) rfl rfl (vs := vS u4 (gS0 0)) rfl rfl (show ¬ ((2 : Int32) < 0 ∨ 6 ≤ ((2 : Int32)).toNatClampNeg) by decide) (ws' := ((([(q0, .inr (1, [.ref a1, .int (0 : Int32)])), (a1, .inl (cS, 6, .inr (.inr (.inr (.inr (va_up (va_up (va_up (fun _ => none) 0 (some ((u2 0)))) 1 (some ((u3 0)))) 2 (some ((u4 0)))))))))] ++ wS cI u2 gS0) ++ wS cI u3 gS0) ++ wS cI u4 gS0)) rfl dX3_init_41 (fun H locs Y => ?_)
  refine lv_iinc (v := (3 : Int32)) (lv' := [(1, .int (3 : Int32)), (0, .ref q0)]) hx hb dX3_init_42 hl (k := 0) rfl (by decide) (Nat.le_of_ble_eq_true rfl) rfl (fun ls hl => ?_)
  refine lv_goto (tgt := 20) hx hb dX3_init_45 (by decide) ?_
  refine lv_iload_n hx hb dX3_init_20 rfl (lv_at hl 0 rfl) ?_
  refine lv_aload_n hx hb dX3_init_21 rfl (lv_at hl 1 rfl) ?_
  refine ig S hK Y fX3_11 0 rfl (v := .ref a1) rfl dX3_init_22 ?_
  refine va_alen (v := (6 : Int32)) hx hb hK Y.1 1 1 rfl rfl rfl dX3_init_25 ?_
  refine lv_icmp_ge (tgt := 48) hx hb dX3_init_26 (by decide) (fun q1 => absurd q1 (by decide)) (fun _ => ?_)
  refine lv_aload_n hx hb dX3_init_29 rfl (lv_at hl 1 rfl) ?_
  refine ig S hK Y fX3_11 0 rfl (v := .ref a1) rfl dX3_init_30 ?_
  refine lv_iload_n hx hb dX3_init_33 rfl (lv_at hl 0 rfl) ?_
  refine ino S hK hA Y (C := RX5) (T := TX5) (N := 16) (ci := 2) (fs := [.null, .null, .null, .null, .null, .null, .null, .null, .null, .int 0, .int 0, .int 0, .int 0, .int 0, .int 0, .int 0]) (uw_in 128 rfl rfl) (uw_in 23 rfl rfl) (uw_in 3 rfl rfl) iuX5 fpX5 rfl (by decide +kernel) (Nat.le_of_ble_eq_true rfl) (Nat.le_of_ble_eq_true rfl) dX3_init_34 (fun a5 H Y => ?_)
  refine lv_dup hx hb dX3_init_37 rfl ?_
  refine cgi (isC := [32]) (isR := [0, 1, 2, 3, 4, 5, 6, 7, 8, 9, 10, 11, 12, 13, 14, 15, 16, 17, 18, 19, 20, 21, 22, 23, 24, 25, 26, 27, 28, 29, 30, 31]) (it := [0]) (wr := ((([(q0, .inr (1, [.ref a1, .int (0 : Int32)])), (a1, .inl (cS, 6, .inr (.inr (.inr (.inr (va_up (va_up (va_up (fun _ => none) 0 (some ((u2 0)))) 1 (some ((u3 0)))) 2 (some ((u4 0)))))))))] ++ wS cI u2 gS0) ++ wS cI u3 gS0) ++ wS cI u4 gS0)) (As := []) (rest := [.ref a5, .int (3 : Int32), .ref a1]) S hK hA hZ Y hl.1 (mX5_init l D cI a5) rfl rfl rfl (by decide +kernel) (by decide +kernel) rfl (uw_in 130 rfl rfl) (uw_in 25 rfl rfl) (uw_in 3 rfl rfl) (uw_in 26 rfl rfl) ⟨by decide, by decide, by decide +kernel⟩ rfl ⟨Nat.le_of_ble_eq_true rfl, Nat.le_of_ble_eq_true rfl⟩ rfl rfl (Nat.le_of_ble_eq_true rfl) ⟨Nat.le_of_ble_eq_true rfl, Nat.le_of_ble_eq_true rfl⟩ dX3_init_38 (fun u5 H locs u5p Yn => ?_)
  subst u5p
  have Y : dy_ D A s (((([(q0, .inr (1, [.ref a1, .int (0 : Int32)])), (a1, .inl (cS, 6, .inr (.inr (.inr (.inr (va_up (va_up (va_up (fun _ => none) 0 (some ((u2 0)))) 1 (some ((u3 0)))) 2 (some ((u4 0)))))))))] ++ wS cI u2 gS0) ++ wS cI u3 gS0) ++ wS cI u4 gS0) ++ wS cI u5 gS0) H locs := Yn
  refine iwq (r := (RX5, TX5, 16)) S hK Y 1 1 32 2 (f := (va_up (va_up (va_up (fun _ => none) 0 (some ((u2 0)))) 1 (some ((u3 0)))) 2 (some ((u4 0))))) rfl rfl (vs := vS u5 (gS0 0)) rfl rfl (show ¬ ((3 : Int32) < 0 ∨ 6 ≤ ((3 : Int32)).toNatClampNeg) by decide) (ws' := (((([(q0, .inr (1, [.ref a1, .int (0 : Int32)])), (a1, .inl (cS, 6, .inr (.inr (.inr (.inr (va_up (va_up (va_up (va_up (fun _ => none) 0 (some ((u2 0)))) 1 (some ((u3 0)))) 2 (some ((u4 0)))) 3 (some ((u5 0)))))))))] ++ wS cI u2 gS0) ++ wS cI u3 gS0) ++ wS cI u4 gS0) ++ wS cI u5 gS0)) rfl dX3_init_41 (fun H locs Y => ?_)
  refine lv_iinc (v := (4 : Int32)) (lv' := [(1, .int (4 : Int32)), (0, .ref q0)]) hx hb dX3_init_42 hl (k := 0) rfl (by decide) (Nat.le_of_ble_eq_true rfl) rfl (fun ls hl => ?_)
  refine lv_goto (tgt := 20) hx hb dX3_init_45 (by decide) ?_
  refine lv_iload_n hx hb dX3_init_20 rfl (lv_at hl 0 rfl) ?_
  refine lv_aload_n hx hb dX3_init_21 rfl (lv_at hl 1 rfl) ?_
  refine ig S hK Y fX3_11 0 rfl (v := .ref a1) rfl dX3_init_22 ?_
  refine va_alen (v := (6 : Int32)) hx hb hK Y.1 1 1 rfl rfl rfl dX3_init_25 ?_
  refine lv_icmp_ge (tgt := 48) hx hb dX3_init_26 (by decide) (fun q1 => absurd q1 (by decide)) (fun _ => ?_)
  refine lv_aload_n hx hb dX3_init_29 rfl (lv_at hl 1 rfl) ?_
  refine ig S hK Y fX3_11 0 rfl (v := .ref a1) rfl dX3_init_30 ?_
  refine lv_iload_n hx hb dX3_init_33 rfl (lv_at hl 0 rfl) ?_
  refine ino S hK hA Y (C := RX5) (T := TX5) (N := 16) (ci := 2) (fs := [.null, .null, .null, .null, .null, .null, .null, .null, .null, .int 0, .int 0, .int 0, .int 0, .int 0, .int 0, .int 0]) (uw_in 128 rfl rfl) (uw_in 23 rfl rfl) (uw_in 3 rfl rfl) iuX5 fpX5 rfl (by decide +kernel) (Nat.le_of_ble_eq_true rfl) (Nat.le_of_ble_eq_true rfl) dX3_init_34 (fun a6 H Y => ?_)
  refine lv_dup hx hb dX3_init_37 rfl ?_
  refine cgi (isC := [42]) (isR := [0, 1, 2, 3, 4, 5, 6, 7, 8, 9, 10, 11, 12, 13, 14, 15, 16, 17, 18, 19, 20, 21, 22, 23, 24, 25, 26, 27, 28, 29, 30, 31, 32, 33, 34, 35, 36, 37, 38, 39, 40, 41]) (it := [0]) (wr := (((([(q0, .inr (1, [.ref a1, .int (0 : Int32)])), (a1, .inl (cS, 6, .inr (.inr (.inr (.inr (va_up (va_up (va_up (va_up (fun _ => none) 0 (some ((u2 0)))) 1 (some ((u3 0)))) 2 (some ((u4 0)))) 3 (some ((u5 0)))))))))] ++ wS cI u2 gS0) ++ wS cI u3 gS0) ++ wS cI u4 gS0) ++ wS cI u5 gS0)) (As := []) (rest := [.ref a6, .int (4 : Int32), .ref a1]) S hK hA hZ Y hl.1 (mX5_init l D cI a6) rfl rfl rfl (by decide +kernel) (by decide +kernel) rfl (uw_in 130 rfl rfl) (uw_in 25 rfl rfl) (uw_in 3 rfl rfl) (uw_in 26 rfl rfl) ⟨by decide, by decide, by decide +kernel⟩ rfl ⟨Nat.le_of_ble_eq_true rfl, Nat.le_of_ble_eq_true rfl⟩ rfl rfl (Nat.le_of_ble_eq_true rfl) ⟨Nat.le_of_ble_eq_true rfl, Nat.le_of_ble_eq_true rfl⟩ dX3_init_38 (fun u6 H locs u6p Yn => ?_)
  subst u6p
  have Y : dy_ D A s ((((([(q0, .inr (1, [.ref a1, .int (0 : Int32)])), (a1, .inl (cS, 6, .inr (.inr (.inr (.inr (va_up (va_up (va_up (va_up (fun _ => none) 0 (some ((u2 0)))) 1 (some ((u3 0)))) 2 (some ((u4 0)))) 3 (some ((u5 0)))))))))] ++ wS cI u2 gS0) ++ wS cI u3 gS0) ++ wS cI u4 gS0) ++ wS cI u5 gS0) ++ wS cI u6 gS0) H locs := Yn
  refine iwq (r := (RX5, TX5, 16)) S hK Y 1 1 42 2 (f := (va_up (va_up (va_up (va_up (fun _ => none) 0 (some ((u2 0)))) 1 (some ((u3 0)))) 2 (some ((u4 0)))) 3 (some ((u5 0))))) rfl rfl (vs := vS u6 (gS0 0)) rfl rfl (show ¬ ((4 : Int32) < 0 ∨ 6 ≤ ((4 : Int32)).toNatClampNeg) by decide) (ws' := ((((([(q0, .inr (1, [.ref a1, .int (0 : Int32)])), (a1, .inl (cS, 6, .inr (.inr (.inr (.inr (va_up (va_up (va_up (va_up (va_up (fun _ => none) 0 (some ((u2 0)))) 1 (some ((u3 0)))) 2 (some ((u4 0)))) 3 (some ((u5 0)))) 4 (some ((u6 0)))))))))] ++ wS cI u2 gS0) ++ wS cI u3 gS0) ++ wS cI u4 gS0) ++ wS cI u5 gS0) ++ wS cI u6 gS0)) rfl dX3_init_41 (fun H locs Y => ?_)
  refine lv_iinc (v := (5 : Int32)) (lv' := [(1, .int (5 : Int32)), (0, .ref q0)]) hx hb dX3_init_42 hl (k := 0) rfl (by decide) (Nat.le_of_ble_eq_true rfl) rfl (fun ls hl => ?_)
  refine lv_goto (tgt := 20) hx hb dX3_init_45 (by decide) ?_
  refine lv_iload_n hx hb dX3_init_20 rfl (lv_at hl 0 rfl) ?_
  refine lv_aload_n hx hb dX3_init_21 rfl (lv_at hl 1 rfl) ?_
  refine ig S hK Y fX3_11 0 rfl (v := .ref a1) rfl dX3_init_22 ?_
  refine va_alen (v := (6 : Int32)) hx hb hK Y.1 1 1 rfl rfl rfl dX3_init_25 ?_
  refine lv_icmp_ge (tgt := 48) hx hb dX3_init_26 (by decide) (fun q1 => absurd q1 (by decide)) (fun _ => ?_)
  refine lv_aload_n hx hb dX3_init_29 rfl (lv_at hl 1 rfl) ?_
  refine ig S hK Y fX3_11 0 rfl (v := .ref a1) rfl dX3_init_30 ?_
  refine lv_iload_n hx hb dX3_init_33 rfl (lv_at hl 0 rfl) ?_
  refine ino S hK hA Y (C := RX5) (T := TX5) (N := 16) (ci := 2) (fs := [.null, .null, .null, .null, .null, .null, .null, .null, .null, .int 0, .int 0, .int 0, .int 0, .int 0, .int 0, .int 0]) (uw_in 128 rfl rfl) (uw_in 23 rfl rfl) (uw_in 3 rfl rfl) iuX5 fpX5 rfl (by decide +kernel) (Nat.le_of_ble_eq_true rfl) (Nat.le_of_ble_eq_true rfl) dX3_init_34 (fun a7 H Y => ?_)
  refine lv_dup hx hb dX3_init_37 rfl ?_
  refine cgi (isC := [52]) (isR := [0, 1, 2, 3, 4, 5, 6, 7, 8, 9, 10, 11, 12, 13, 14, 15, 16, 17, 18, 19, 20, 21, 22, 23, 24, 25, 26, 27, 28, 29, 30, 31, 32, 33, 34, 35, 36, 37, 38, 39, 40, 41, 42, 43, 44, 45, 46, 47, 48, 49, 50, 51]) (it := [0]) (wr := ((((([(q0, .inr (1, [.ref a1, .int (0 : Int32)])), (a1, .inl (cS, 6, .inr (.inr (.inr (.inr (va_up (va_up (va_up (va_up (va_up (fun _ => none) 0 (some ((u2 0)))) 1 (some ((u3 0)))) 2 (some ((u4 0)))) 3 (some ((u5 0)))) 4 (some ((u6 0)))))))))] ++ wS cI u2 gS0) ++ wS cI u3 gS0) ++ wS cI u4 gS0) ++ wS cI u5 gS0) ++ wS cI u6 gS0)) (As := []) (rest := [.ref a7, .int (5 : Int32), .ref a1]) S hK hA hZ Y hl.1 (mX5_init l D cI a7) rfl rfl rfl (by decide +kernel) (by decide +kernel) rfl (uw_in 130 rfl rfl) (uw_in 25 rfl rfl) (uw_in 3 rfl rfl) (uw_in 26 rfl rfl) ⟨by decide, by decide, by decide +kernel⟩ rfl ⟨Nat.le_of_ble_eq_true rfl, Nat.le_of_ble_eq_true rfl⟩ rfl rfl (Nat.le_of_ble_eq_true rfl) ⟨Nat.le_of_ble_eq_true rfl, Nat.le_of_ble_eq_true rfl⟩ dX3_init_38 (fun u7 H locs u7p Yn => ?_)
  subst u7p
  have Y : dy_ D A s (((((([(q0, .inr (1, [.ref a1, .int (0 : Int32)])), (a1, .inl (cS, 6, .inr (.inr (.inr (.inr (va_up (va_up (va_up (va_up (va_up (fun _ => none) 0 (some ((u2 0)))) 1 (some ((u3 0)))) 2 (some ((u4 0)))) 3 (some ((u5 0)))) 4 (some ((u6 0)))))))))] ++ wS cI u2 gS0) ++ wS cI u3 gS0) ++ wS cI u4 gS0) ++ wS cI u5 gS0) ++ wS cI u6 gS0) ++ wS cI u7 gS0) H locs := Yn
  refine iwq (r := (RX5, TX5, 16)) S hK Y 1 1 52 2 (f := (va_up (va_up (va_up (va_up (va_up (fun _ => none) 0 (some ((u2 0)))) 1 (some ((u3 0)))) 2 (some ((u4 0)))) 3 (some ((u5 0)))) 4 (some ((u6 0))))) rfl rfl (vs := vS u7 (gS0 0)) rfl rfl (show ¬ ((5 : Int32) < 0 ∨ 6 ≤ ((5 : Int32)).toNatClampNeg) by decide) (ws' := (((((([(q0, .inr (1, [.ref a1, .int (0 : Int32)])), (a1, .inl (cS, 6, .inr (.inr (.inr (.inr (va_up (va_up (va_up (va_up (va_up (va_up (fun _ => none) 0 (some ((u2 0)))) 1 (some ((u3 0)))) 2 (some ((u4 0)))) 3 (some ((u5 0)))) 4 (some ((u6 0)))) 5 (some ((u7 0)))))))))] ++ wS cI u2 gS0) ++ wS cI u3 gS0) ++ wS cI u4 gS0) ++ wS cI u5 gS0) ++ wS cI u6 gS0) ++ wS cI u7 gS0)) rfl dX3_init_41 (fun H locs Y => ?_)
  refine lv_iinc (v := (6 : Int32)) (lv' := [(1, .int (6 : Int32)), (0, .ref q0)]) hx hb dX3_init_42 hl (k := 0) rfl (by decide) (Nat.le_of_ble_eq_true rfl) rfl (fun ls hl => ?_)
  refine lv_goto (tgt := 20) hx hb dX3_init_45 (by decide) ?_
  refine lv_iload_n hx hb dX3_init_20 rfl (lv_at hl 0 rfl) ?_
  refine lv_aload_n hx hb dX3_init_21 rfl (lv_at hl 1 rfl) ?_
  refine ig S hK Y fX3_11 0 rfl (v := .ref a1) rfl dX3_init_22 ?_
  refine va_alen (v := (6 : Int32)) hx hb hK Y.1 1 1 rfl rfl rfl dX3_init_25 ?_
  refine lv_icmp_ge (tgt := 48) hx hb dX3_init_26 (by decide) (fun _ => ?_) (fun q1 => absurd (by decide) q1)
  have Y := dy_q1 (g := rL (fun j => match j with | 8 => (fun i => match i with | 1 => q0 | _ => a1) | 2 => u2 | 3 => u3 | 4 => u4 | 5 => u5 | 6 => u6 | _ => u7) pi0) (rest := (((((wS cI u2 gS0 ++ wS cI u3 gS0) ++ wS cI u4 gS0) ++ wS cI u5 gS0) ++ wS cI u6 gS0) ++ wS cI u7 gS0)) (fun k hk => by rcases (show k = 0 ∨ k = 1 ∨ k = 2 ∨ k = 3 ∨ k = 4 ∨ k = 5 by omega) with rfl | rfl | rfl | rfl | rfl | rfl <;> rfl) Y
  exact me_rc (fun j => match j with | 8 => (fun i => match i with | 1 => q0 | _ => a1) | 2 => u2 | 3 => u3 | 4 => u4 | 5 => u5 | 6 => u6 | _ => u7) rfl rfl S hK Y hr hlk dX3_init_48
def gL0 : s3_T := fun j => match j with
  | 8 => fun _ _ => 0
  | 9 => gT0
  | _ => gS0
set_option maxRecDepth 100000 in
set_option maxHeartbeats 4000000 in
theorem mX7_init (l : Launch) (D : va_G) (cI cS : ClassId) (q0 : Nat) : me_C l D (tL cI cS) yX7_init cX7_init 1 3 64 84 870 [(q0, .inr (3, [.null, .null, .null, .null, .int 0]))] [.ref q0] (fun h : Nat → Nat → Nat => h 8 0 = q0) (fun h => wL cI cS h gL0 pi0) := by
  refine me_ofC (plainFor_of_name (by decide)) (Nat.le_of_ble_eq_true rfl) rfl ?_
  intro p e s m args below meth c A ls S hK Y hA hl hr hlk hZ hin
  have hx := S.1
  have hb := S.2.1
  have hl : lv_has ls 1 [(0, .ref q0)] := hl
  refine lv_aload_n hx hb dX7_init_0 rfl (lv_at hl 0 rfl) ?_
  refine ioi S (uw_in 19 rfl rfl) (uw_in 20 rfl rfl) (uw_in 21 rfl rfl) hl.1 (Nat.le_of_ble_eq_true rfl) (Nat.le_of_ble_eq_true rfl) dX7_init_1 ?_
  refine lv_aload_n hx hb dX7_init_4 rfl (lv_at hl 0 rfl) ?_
  refine ino S hK hA Y (C := RX5) (T := TX5) (N := 16) (ci := 2) (fs := [.null, .null, .null, .null, .null, .null, .null, .null, .null, .int 0, .int 0, .int 0, .int 0, .int 0, .int 0, .int 0]) (uw_in 22 rfl rfl) (uw_in 23 rfl rfl) (uw_in 3 rfl rfl) iuX5 fpX5 rfl (by decide +kernel) (Nat.le_of_ble_eq_true rfl) (Nat.le_of_ble_eq_true rfl) dX7_init_5 (fun a1 H Y => ?_)
  refine lv_dup hx hb dX7_init_8 rfl ?_
  refine cgi (isC := [1]) (isR := [0]) (it := [0]) (wr := [(q0, .inr (3, [.null, .null, .null, .null, .int 0]))]) (As := []) (rest := [.ref a1, .ref q0]) S hK hA hZ Y hl.1 (mX5_init l D cI a1) rfl rfl rfl (by decide +kernel) (by decide +kernel) rfl (uw_in 24 rfl rfl) (uw_in 25 rfl rfl) (uw_in 3 rfl rfl) (uw_in 26 rfl rfl) ⟨by decide, by decide, by decide +kernel⟩ rfl ⟨Nat.le_of_ble_eq_true rfl, Nat.le_of_ble_eq_true rfl⟩ rfl rfl (Nat.le_of_ble_eq_true rfl) ⟨Nat.le_of_ble_eq_true rfl, Nat.le_of_ble_eq_true rfl⟩ dX7_init_9 (fun u1 H locs u1p Yn => ?_)
  subst u1p
  have Y : dy_ D A s ([(q0, .inr (3, [.null, .null, .null, .null, .int 0]))] ++ wS cI u1 gS0) H locs := Yn
  refine ipF S hK Y hin fX7_10 fpX7 rfl rfl 0 (fs := [.null, .null, .null, .null, .int 0]) rfl rfl rfl (Nat.le_of_ble_eq_true rfl) (ws' := ([(q0, .inr (3, [.ref (u1 0), .null, .null, .null, .int 0]))] ++ wS cI u1 gS0)) rfl dX7_init_12 (fun H locs Y => ?_)
  refine lv_aload_n hx hb dX7_init_15 rfl (lv_at hl 0 rfl) ?_
  refine ino S hK hA Y (C := RX5) (T := TX5) (N := 16) (ci := 2) (fs := [.null, .null, .null, .null, .null, .null, .null, .null, .null, .int 0, .int 0, .int 0, .int 0, .int 0, .int 0, .int 0]) (uw_in 22 rfl rfl) (uw_in 23 rfl rfl) (uw_in 3 rfl rfl) iuX5 fpX5 rfl (by decide +kernel) (Nat.le_of_ble_eq_true rfl) (Nat.le_of_ble_eq_true rfl) dX7_init_16 (fun a2 H Y => ?_)
  refine lv_dup hx hb dX7_init_19 rfl ?_
  refine cgi (isC := [11]) (isR := [0, 1, 2, 3, 4, 5, 6, 7, 8, 9, 10]) (it := [0]) (wr := ([(q0, .inr (3, [.ref (u1 0), .null, .null, .null, .int 0]))] ++ wS cI u1 gS0)) (As := []) (rest := [.ref a2, .ref q0]) S hK hA hZ Y hl.1 (mX5_init l D cI a2) rfl rfl rfl (by decide +kernel) (by decide +kernel) rfl (uw_in 24 rfl rfl) (uw_in 25 rfl rfl) (uw_in 3 rfl rfl) (uw_in 26 rfl rfl) ⟨by decide, by decide, by decide +kernel⟩ rfl ⟨Nat.le_of_ble_eq_true rfl, Nat.le_of_ble_eq_true rfl⟩ rfl rfl (Nat.le_of_ble_eq_true rfl) ⟨Nat.le_of_ble_eq_true rfl, Nat.le_of_ble_eq_true rfl⟩ dX7_init_20 (fun u2 H locs u2p Yn => ?_)
  subst u2p
  have Y : dy_ D A s (([(q0, .inr (3, [.ref (u1 0), .null, .null, .null, .int 0]))] ++ wS cI u1 gS0) ++ wS cI u2 gS0) H locs := Yn
  refine ipF S hK Y hin fX7_16 fpX7 rfl rfl 0 (fs := [.ref (u1 0), .null, .null, .null, .int 0]) rfl rfl rfl (Nat.le_of_ble_eq_true rfl) (ws' := (([(q0, .inr (3, [.ref (u1 0), .ref (u2 0), .null, .null, .int 0]))] ++ wS cI u1 gS0) ++ wS cI u2 gS0)) rfl dX7_init_23 (fun H locs Y => ?_)
  refine lv_aload_n hx hb dX7_init_26 rfl (lv_at hl 0 rfl) ?_
  refine ino S hK hA Y (C := RX3) (T := TX3) (N := 2) (ci := 1) (fs := [.null, .int 0]) (uw_in 122 rfl rfl) (uw_in 123 rfl rfl) (uw_in 5 rfl rfl) iuX3 fpX3 rfl (by decide +kernel) (Nat.le_of_ble_eq_true rfl) (Nat.le_of_ble_eq_true rfl) dX7_init_27 (fun a3 H Y => ?_)
  refine lv_dup hx hb dX7_init_30 rfl ?_
  refine cgi (isC := [21]) (isR := [0, 1, 2, 3, 4, 5, 6, 7, 8, 9, 10, 11, 12, 13, 14, 15, 16, 17, 18, 19, 20]) (it := [0, 1]) (wr := (([(q0, .inr (3, [.ref (u1 0), .ref (u2 0), .null, .null, .int 0]))] ++ wS cI u1 gS0) ++ wS cI u2 gS0)) (As := []) (rest := [.ref a3, .ref q0]) S hK hA hZ Y hl.1 (mX3_init l D cI cS a3) rfl rfl rfl (by decide +kernel) (by decide +kernel) rfl (uw_in 124 rfl rfl) (uw_in 125 rfl rfl) (uw_in 5 rfl rfl) (uw_in 126 rfl rfl) ⟨by decide, by decide, by decide +kernel⟩ rfl ⟨Nat.le_of_ble_eq_true rfl, Nat.le_of_ble_eq_true rfl⟩ rfl rfl (Nat.le_of_ble_eq_true rfl) ⟨Nat.le_of_ble_eq_true rfl, Nat.le_of_ble_eq_true rfl⟩ dX7_init_31 (fun u3 H locs u3p Yn => ?_)
  subst u3p
  have Y : dy_ D A s ((([(q0, .inr (3, [.ref (u1 0), .ref (u2 0), .null, .null, .int 0]))] ++ wS cI u1 gS0) ++ wS cI u2 gS0) ++ wPs cI cS u3) H locs := Yn
  refine ipF S hK Y hin fX7_22 fpX7 rfl rfl 0 (fs := [.ref (u1 0), .ref (u2 0), .null, .null, .int 0]) rfl rfl rfl (Nat.le_of_ble_eq_true rfl) (ws' := ((([(q0, .inr (3, [.ref (u1 0), .ref (u2 0), .ref (u3 8 1), .null, .int 0]))] ++ wS cI u1 gS0) ++ wS cI u2 gS0) ++ wPs cI cS u3)) rfl dX7_init_34 (fun H locs Y => ?_)
  refine lv_aload_n hx hb dX7_init_37 rfl (lv_at hl 0 rfl) ?_
  refine ino S hK hA Y (C := RX1) (T := TX1) (N := 2) (ci := 0) (fs := [.null, .int 0]) (uw_in 138 rfl rfl) (uw_in 139 rfl rfl) (uw_in 6 rfl rfl) iuX1 fpX1 rfl (by decide +kernel) (Nat.le_of_ble_eq_true rfl) (Nat.le_of_ble_eq_true rfl) dX7_init_38 (fun a4 H Y => ?_)
  refine lv_dup hx hb dX7_init_41 rfl ?_
  refine cgi (isC := [83]) (isR := [0, 1, 2, 3, 4, 5, 6, 7, 8, 9, 10, 11, 12, 13, 14, 15, 16, 17, 18, 19, 20, 21, 22, 23, 24, 25, 26, 27, 28, 29, 30, 31, 32, 33, 34, 35, 36, 37, 38, 39, 40, 41, 42, 43, 44, 45, 46, 47, 48, 49, 50, 51, 52, 53, 54, 55, 56, 57, 58, 59, 60, 61, 62, 63, 64, 65, 66, 67, 68, 69, 70, 71, 72, 73, 74, 75, 76, 77, 78, 79, 80, 81, 82]) (it := [0]) (wr := ((([(q0, .inr (3, [.ref (u1 0), .ref (u2 0), .ref (u3 8 1), .null, .int 0]))] ++ wS cI u1 gS0) ++ wS cI u2 gS0) ++ wPs cI cS u3)) (As := []) (rest := [.ref a4, .ref q0]) S hK hA hZ Y hl.1 (mX1_init l D cI a4) rfl rfl rfl (by decide +kernel) (by decide +kernel) rfl (uw_in 140 rfl rfl) (uw_in 141 rfl rfl) (uw_in 6 rfl rfl) (uw_in 142 rfl rfl) ⟨by decide, by decide, by decide +kernel⟩ rfl ⟨Nat.le_of_ble_eq_true rfl, Nat.le_of_ble_eq_true rfl⟩ rfl rfl (Nat.le_of_ble_eq_true rfl) ⟨Nat.le_of_ble_eq_true rfl, Nat.le_of_ble_eq_true rfl⟩ dX7_init_42 (fun u4 H locs u4p Yn => ?_)
  subst u4p
  have Y : dy_ D A s (((([(q0, .inr (3, [.ref (u1 0), .ref (u2 0), .ref (u3 8 1), .null, .int 0]))] ++ wS cI u1 gS0) ++ wS cI u2 gS0) ++ wPs cI cS u3) ++ wT cI u4 gT0) H locs := Yn
  refine ipF S hK Y hin fX7_29 fpX7 rfl rfl 0 (fs := [.ref (u1 0), .ref (u2 0), .ref (u3 8 1), .null, .int 0]) rfl rfl rfl (Nat.le_of_ble_eq_true rfl) (ws' := (((([(q0, .inr (3, [.ref (u1 0), .ref (u2 0), .ref (u3 8 1), .ref (u4 0), .int 0]))] ++ wS cI u1 gS0) ++ wS cI u2 gS0) ++ wPs cI cS u3) ++ wT cI u4 gT0)) rfl dX7_init_45 (fun H locs Y => ?_)
  refine lv_aload_n hx hb dX7_init_48 rfl (lv_at hl 0 rfl) ?_
  refine lv_iconst (v := (0 : Int32)) hx hb dX7_init_49 (by decide) ?_
  refine ip S hK Y fX7_33 fpX7 rfl 0 (fs := [.ref (u1 0), .ref (u2 0), .ref (u3 8 1), .ref (u4 0), .int 0]) rfl rfl rfl (Nat.le_of_ble_eq_true rfl) (ws' := (((([(q0, .inr (3, [.ref (u1 0), .ref (u2 0), .ref (u3 8 1), .ref (u4 0), .int (0 : Int32)]))] ++ wS cI u1 gS0) ++ wS cI u2 gS0) ++ wPs cI cS u3) ++ wT cI u4 gT0)) rfl dX7_init_50 (fun H locs Y => ?_)
  have hps : ([0, 21, 22, 83, 84, 1, 2, 3, 4, 5, 6, 7, 8, 9, 10, 11, 12, 13, 14, 15, 16, 17, 18, 19, 20, 23, 24, 25, 26, 27, 28, 29, 30, 31, 32, 33, 34, 35, 36, 37, 38, 39, 40, 41, 42, 43, 44, 45, 46, 47, 48, 49, 50, 51, 52, 53, 54, 55, 56, 57, 58, 59, 60, 61, 62, 63, 64, 65, 66, 67, 68, 69, 70, 71, 72, 73, 74, 75, 76, 77, 78, 79, 80, 81, 82] : List Nat).map (fun i => ((((([(q0, .inr (3, [.ref (u1 0), .ref (u2 0), .ref (u3 8 1), .ref (u4 0), .int (0 : Int32)]))] ++ wS cI u1 gS0) ++ wS cI u2 gS0) ++ wPs cI cS u3) ++ wT cI u4 gT0))[i]?) = (wLr cI cS (fun j => match j with | 0 => u1 | 1 => u2 | 8 => (fun i => match i with | 0 => q0 | 1 => u3 8 1 | _ => u3 8 2) | 9 => u4 | j => u3 j) gL0 (rL u3 pi0)).map some := rfl
  have Y : dy_ D A s (wLr cI cS (fun j => match j with | 0 => u1 | 1 => u2 | 8 => (fun i => match i with | 0 => q0 | 1 => u3 8 1 | _ => u3 8 2) | 9 => u4 | j => u3 j) gL0 (rL u3 pi0)) H locs := ⟨Y.1.sub _ (cg_f hps), Y.2.1.sub _ (by decide +kernel) hps, Y.2.2⟩
  have Y := dy_q2 (g := rL (fun j => match j with | 0 => u1 | 1 => u2 | 8 => (fun i => match i with | 0 => q0 | 1 => u3 8 1 | _ => u3 8 2) | 9 => u4 | j => u3 j) pi0) (fun k hk => by rcases (show k = 0 ∨ k = 1 ∨ k = 2 ∨ k = 3 ∨ k = 4 ∨ k = 5 by omega) with rfl | rfl | rfl | rfl | rfl | rfl <;> rfl) Y
  exact me_rc (fun j => match j with | 0 => u1 | 1 => u2 | 8 => (fun i => match i with | 0 => q0 | 1 => u3 8 1 | _ => u3 8 2) | 9 => u4 | j => u3 j) rfl rfl S hK Y hr hlk dX7_init_53
end
section
def wQ (cI : ClassId) (g : Nat → Nat) (Ω : sg_T) : va_W := [(g 1, .inl (cI, 48, .inl (Ω 1))), (g 2, .inl (cI, 16, .inl (Ω 2))), (g 3, .inl (cI, 32, .inl (Ω 3))), (g 4, .inl (cI, 11, .inl (Ω 4)))]
def tQ (cI : ClassId) : List (ClassId × FieldType) := [(cI, .int)]
abbrev wB (cI cS : ClassId) (h : Nat → Nat → Nat) (g : Nat → Nat) (Λ : s3_T) (π : Nat → Nat) (Ω : sg_T) : va_W := wL cI cS h Λ π ++ wQ cI g Ω
theorem wQ_a1 {cI : ClassId} (g : Nat → Nat) (Ω : sg_T) (f : Nat → Int32) : (wQ cI g Ω).set 0 (g 1, .inl (cI, 48, .inl f)) = wQ cI g (sg_a Ω 1 f) := rfl
set_option maxRecDepth 20000 in
theorem wB_a1 {cI cS : ClassId} (h : Nat → Nat → Nat) (g : Nat → Nat) (Λ : s3_T) (π : Nat → Nat) (Ω : sg_T) (f : Nat → Int32) : (wB cI cS h g Λ π Ω).set 85 (g 1, .inl (cI, 48, .inl f)) = wB cI cS h g Λ π (sg_a Ω 1 f) := rfl
theorem wQ_a2 {cI : ClassId} (g : Nat → Nat) (Ω : sg_T) (f : Nat → Int32) : (wQ cI g Ω).set 1 (g 2, .inl (cI, 16, .inl f)) = wQ cI g (sg_a Ω 2 f) := rfl
set_option maxRecDepth 20000 in
theorem wB_a2 {cI cS : ClassId} (h : Nat → Nat → Nat) (g : Nat → Nat) (Λ : s3_T) (π : Nat → Nat) (Ω : sg_T) (f : Nat → Int32) : (wB cI cS h g Λ π Ω).set 86 (g 2, .inl (cI, 16, .inl f)) = wB cI cS h g Λ π (sg_a Ω 2 f) := rfl
theorem wQ_a3 {cI : ClassId} (g : Nat → Nat) (Ω : sg_T) (f : Nat → Int32) : (wQ cI g Ω).set 2 (g 3, .inl (cI, 32, .inl f)) = wQ cI g (sg_a Ω 3 f) := rfl
set_option maxRecDepth 20000 in
theorem wB_a3 {cI cS : ClassId} (h : Nat → Nat → Nat) (g : Nat → Nat) (Λ : s3_T) (π : Nat → Nat) (Ω : sg_T) (f : Nat → Int32) : (wB cI cS h g Λ π Ω).set 87 (g 3, .inl (cI, 32, .inl f)) = wB cI cS h g Λ π (sg_a Ω 3 f) := rfl
theorem wQ_a4 {cI : ClassId} (g : Nat → Nat) (Ω : sg_T) (f : Nat → Int32) : (wQ cI g Ω).set 3 (g 4, .inl (cI, 11, .inl f)) = wQ cI g (sg_a Ω 4 f) := rfl
set_option maxRecDepth 20000 in
theorem wB_a4 {cI cS : ClassId} (h : Nat → Nat → Nat) (g : Nat → Nat) (Λ : s3_T) (π : Nat → Nat) (Ω : sg_T) (f : Nat → Int32) : (wB cI cS h g Λ π Ω).set 88 (g 4, .inl (cI, 11, .inl f)) = wB cI cS h g Λ π (sg_a Ω 4 f) := rfl
def iBL : List Nat := [0, 1, 2, 3, 4, 5, 6, 7, 8, 9, 10, 11, 12, 13, 14, 15, 16, 17, 18, 19, 20, 21, 22, 23, 24, 25, 26, 27, 28, 29, 30, 31, 32, 33, 34, 35, 36, 37, 38, 39, 40, 41, 42, 43, 44, 45, 46, 47, 48, 49, 50, 51, 52, 53, 54, 55, 56, 57, 58, 59, 60, 61, 62, 63, 64, 65, 66, 67, 68, 69, 70, 71, 72, 73, 74, 75, 76, 77, 78, 79, 80, 81, 82, 83, 84]
def iBQ : List Nat := [85, 86, 87, 88]
def pBL : List Nat := [4, 5, 6, 7, 8, 9, 10, 11, 12, 13, 14, 15, 16, 17, 18, 19, 20, 21, 22, 23, 24, 25, 26, 27, 28, 29, 30, 31, 32, 33, 34, 35, 36, 37, 38, 39, 40, 41, 42, 43, 44, 45, 46, 47, 48, 49, 50, 51, 52, 53, 54, 55, 56, 57, 58, 59, 60, 61, 62, 63, 64, 65, 66, 67, 68, 69, 70, 71, 72, 73, 74, 75, 76, 77, 78, 79, 80, 81, 82, 83, 84, 85, 86, 87, 88, 0, 1, 2, 3]
def pBQ : List Nat := [0, 1, 2, 3, 4, 5, 6, 7, 8, 9, 10, 11, 12, 13, 14, 15, 16, 17, 18, 19, 20, 21, 22, 23, 24, 25, 26, 27, 28, 29, 30, 31, 32, 33, 34, 35, 36, 37, 38, 39, 40, 41, 42, 43, 44, 45, 46, 47, 48, 49, 50, 51, 52, 53, 54, 55, 56, 57, 58, 59, 60, 61, 62, 63, 64, 65, 66, 67, 68, 69, 70, 71, 72, 73, 74, 75, 76, 77, 78, 79, 80, 81, 82, 83, 84, 85, 86, 87, 88]
set_option maxRecDepth 20000 in
theorem cBLC {cI cS : ClassId} (h : Nat → Nat → Nat) (g : Nat → Nat) (Λ : s3_T) (π : Nat → Nat) (Ω : sg_T) : iBL.map (fun i => (wB cI cS h g Λ π Ω)[i]?) = (wL cI cS h Λ π).map some := rfl
set_option maxRecDepth 20000 in
theorem cBQC {cI cS : ClassId} (h : Nat → Nat → Nat) (g : Nat → Nat) (Λ : s3_T) (π : Nat → Nat) (Ω : sg_T) : iBQ.map (fun i => (wB cI cS h g Λ π Ω)[i]?) = (wQ cI g Ω).map some := rfl
set_option maxRecDepth 20000 in
theorem cBLP {cI cS : ClassId} (h : Nat → Nat → Nat) (g : Nat → Nat) (Λ : s3_T) (π : Nat → Nat) (Ω : sg_T) (Λ' : s3_T) (π' : Nat → Nat) : pBL.map (fun i => (wQ cI g Ω ++ wL cI cS h Λ' π')[i]?) = (wB cI cS h g Λ' π' Ω).map some := rfl
set_option maxRecDepth 20000 in
theorem cBQP {cI cS : ClassId} (h : Nat → Nat → Nat) (g : Nat → Nat) (Λ : s3_T) (π : Nat → Nat) (Ω : sg_T) (Ω' : sg_T) : pBQ.map (fun i => (wL cI cS h Λ π ++ wQ cI g Ω')[i]?) = (wB cI cS h g Λ π Ω').map some := rfl
theorem nBL : va_nd iBL = true := by decide +kernel
theorem nBQ : va_nd iBQ = true := by decide +kernel
theorem nPL : va_nd pBL = true := by decide +kernel
theorem nPQ : va_nd pBQ = true := by decide +kernel
theorem dBL : ∀ i ∈ iBQ, i ∉ iBL := by decide +kernel
theorem dBQ : ∀ i ∈ iBL, i ∉ iBQ := by decide +kernel
set_option maxRecDepth 20000 in
theorem kL_10 : cs_ RL 10 yL_apart cL_apart 3 (some .int) 2 := ⟨uw_in 368 rfl rfl, uw_in 369 rfl rfl, uw_in 1 rfl rfl, uw_in 370 rfl rfl, ⟨by decide, by decide, by decide +kernel⟩⟩
set_option maxRecDepth 20000 in
theorem kL_102 : cv_ RL 102 yX7_cry cX7_cry 3 (some .int) 2 := ⟨uw_in 319 rfl rfl, uw_in 320 rfl rfl, uw_in 321 rfl rfl, uw_in 2 rfl rfl, uw_in 322 rfl rfl, ⟨by decide, by decide, by decide +kernel⟩⟩
set_option maxRecDepth 20000 in
theorem kL_105 : cv_ RL 105 yX7_dash cX7_dash 2 (some .int) 1 := ⟨uw_in 348 rfl rfl, uw_in 349 rfl rfl, uw_in 350 rfl rfl, uw_in 2 rfl rfl, uw_in 351 rfl rfl, ⟨by decide, by decide, by decide +kernel⟩⟩
set_option maxRecDepth 20000 in
theorem kL_108 : cs_ RL 108 yL_league cL_league 14 (some .boolean) 5 := ⟨uw_in 386 rfl rfl, uw_in 387 rfl rfl, uw_in 1 rfl rfl, uw_in 388 rfl rfl, ⟨by decide, by decide, by decide +kernel⟩⟩
set_option maxRecDepth 20000 in
theorem kL_18 : cs_ RL 18 yL_ahead cL_ahead 5 (some .boolean) 3 := ⟨uw_in 389 rfl rfl, uw_in 390 rfl rfl, uw_in 1 rfl rfl, uw_in 391 rfl rfl, ⟨by decide, by decide, by decide +kernel⟩⟩
set_option maxRecDepth 20000 in
theorem kL_22 : cv_ RL 22 yX7_player cX7_player 3 (some .int) 2 := ⟨uw_in 392 rfl rfl, uw_in 393 rfl rfl, uw_in 394 rfl rfl, uw_in 2 rfl rfl, uw_in 395 rfl rfl, ⟨by decide, by decide, by decide +kernel⟩⟩
set_option maxRecDepth 20000 in
theorem kL_25 : cv_ RL 25 yX7_ranked cX7_ranked 2 (some .int) 1 := ⟨uw_in 403 rfl rfl, uw_in 404 rfl rfl, uw_in 405 rfl rfl, uw_in 2 rfl rfl, uw_in 406 rfl rfl, ⟨by decide, by decide, by decide +kernel⟩⟩
set_option maxRecDepth 20000 in
theorem kL_29 : cv_ RL 29 yX7_spot cX7_spot 3 (some .int) 2 := ⟨uw_in 411 rfl rfl, uw_in 412 rfl rfl, uw_in 413 rfl rfl, uw_in 2 rfl rfl, uw_in 414 rfl rfl, ⟨by decide, by decide, by decide +kernel⟩⟩
set_option maxRecDepth 20000 in
theorem kL_32 : cs_ RL 32 yL_here cL_here 4 (some .int) 2 := ⟨uw_in 371 rfl rfl, uw_in 372 rfl rfl, uw_in 1 rfl rfl, uw_in 373 rfl rfl, ⟨by decide, by decide, by decide +kernel⟩⟩
set_option maxRecDepth 20000 in
theorem kL_36 : cs_ RL 36 yL_good cL_good 3 (some .boolean) 3 := ⟨uw_in 380 rfl rfl, uw_in 381 rfl rfl, uw_in 1 rfl rfl, uw_in 382 rfl rfl, ⟨by decide, by decide, by decide +kernel⟩⟩
set_option maxRecDepth 20000 in
theorem kL_40 : cs_ RL 40 yL_count cL_count 3 (some .int) 1 := ⟨uw_in 374 rfl rfl, uw_in 375 rfl rfl, uw_in 1 rfl rfl, uw_in 376 rfl rfl, ⟨by decide, by decide, by decide +kernel⟩⟩
set_option maxRecDepth 20000 in
theorem kL_43 : cv_ RL 43 yX7_bestSpot cX7_bestSpot 1 (some .int) 0 := ⟨uw_in 419 rfl rfl, uw_in 420 rfl rfl, uw_in 421 rfl rfl, uw_in 2 rfl rfl, uw_in 422 rfl rfl, ⟨by decide, by decide, by decide +kernel⟩⟩
set_option maxRecDepth 20000 in
theorem kL_47 : cv_ RL 47 yX7_inSight cX7_inSight 1 (some .int) 0 := ⟨uw_in 433 rfl rfl, uw_in 434 rfl rfl, uw_in 435 rfl rfl, uw_in 2 rfl rfl, uw_in 436 rfl rfl, ⟨by decide, by decide, by decide +kernel⟩⟩
set_option maxRecDepth 20000 in
theorem kL_50 : cv_ RL 50 yX7_couldDash cX7_couldDash 1 (some .int) 0 := ⟨uw_in 441 rfl rfl, uw_in 442 rfl rfl, uw_in 443 rfl rfl, uw_in 2 rfl rfl, uw_in 444 rfl rfl, ⟨by decide, by decide, by decide +kernel⟩⟩
set_option maxRecDepth 20000 in
theorem kL_53 : cv_ RL 53 yX7_fewestSteps cX7_fewestSteps 1 (some .int) 0 := ⟨uw_in 449 rfl rfl, uw_in 450 rfl rfl, uw_in 451 rfl rfl, uw_in 2 rfl rfl, uw_in 452 rfl rfl, ⟨by decide, by decide, by decide +kernel⟩⟩
set_option maxRecDepth 20000 in
theorem kL_56 : cs_ RL 56 yL_steps cL_steps 11 (some .int) 2 := ⟨uw_in 465 rfl rfl, uw_in 466 rfl rfl, uw_in 1 rfl rfl, uw_in 467 rfl rfl, ⟨by decide, by decide, by decide +kernel⟩⟩
set_option maxRecDepth 20000 in
theorem kL_60 : cv_ RL 60 yX7_nextSeeker cX7_nextSeeker 1 (some .int) 0 := ⟨uw_in 468 rfl rfl, uw_in 469 rfl rfl, uw_in 470 rfl rfl, uw_in 2 rfl rfl, uw_in 471 rfl rfl, ⟨by decide, by decide, by decide +kernel⟩⟩
set_option maxRecDepth 20000 in
theorem kL_63 : cv_ RL 63 yX7_total cX7_total 2 (some .int) 1 := ⟨uw_in 479 rfl rfl, uw_in 480 rfl rfl, uw_in 481 rfl rfl, uw_in 2 rfl rfl, uw_in 482 rfl rfl, ⟨by decide, by decide, by decide +kernel⟩⟩
set_option maxRecDepth 20000 in
theorem kL_66 : cs_ RL 66 yL_hidden cL_hidden 3 (some .int) 1 := ⟨uw_in 377 rfl rfl, uw_in 378 rfl rfl, uw_in 1 rfl rfl, uw_in 379 rfl rfl, ⟨by decide, by decide, by decide +kernel⟩⟩
set_option maxRecDepth 20000 in
theorem kL_74 : cs_ RL 74 yL_low cL_low 2 (some .int) 2 := ⟨uw_in 364 rfl rfl, uw_in 365 rfl rfl, uw_in 1 rfl rfl, uw_in 366 rfl rfl, ⟨by decide, by decide, by decide +kernel⟩⟩
set_option maxRecDepth 20000 in
theorem kL_77 : cv_ RL 77 yX7_join cX7_join 1 (some .int) 0 := ⟨uw_in 205 rfl rfl, uw_in 206 rfl rfl, uw_in 207 rfl rfl, uw_in 2 rfl rfl, uw_in 208 rfl rfl, ⟨by decide, by decide, by decide +kernel⟩⟩
set_option maxRecDepth 20000 in
theorem kL_80 : cv_ RL 80 yX7_set cX7_set 3 (some .int) 2 := ⟨uw_in 167 rfl rfl, uw_in 168 rfl rfl, uw_in 169 rfl rfl, uw_in 2 rfl rfl, uw_in 170 rfl rfl, ⟨by decide, by decide, by decide +kernel⟩⟩
set_option maxRecDepth 20000 in
theorem kL_83 : cv_ RL 83 yX7_setting cX7_setting 2 (some .int) 1 := ⟨uw_in 200 rfl rfl, uw_in 201 rfl rfl, uw_in 202 rfl rfl, uw_in 2 rfl rfl, uw_in 203 rfl rfl, ⟨by decide, by decide, by decide +kernel⟩⟩
set_option maxRecDepth 20000 in
theorem kL_86 : cv_ RL 86 yX7_walk cX7_walk 2 (some .int) 1 := ⟨uw_in 309 rfl rfl, uw_in 310 rfl rfl, uw_in 311 rfl rfl, uw_in 2 rfl rfl, uw_in 312 rfl rfl, ⟨by decide, by decide, by decide +kernel⟩⟩
set_option maxRecDepth 20000 in
theorem kL_89 : cv_ RL 89 yX7_seek cX7_seek 1 (some .int) 0 := ⟨uw_in 287 rfl rfl, uw_in 288 rfl rfl, uw_in 289 rfl rfl, uw_in 2 rfl rfl, uw_in 290 rfl rfl, ⟨by decide, by decide, by decide +kernel⟩⟩
set_option maxRecDepth 20000 in
theorem kL_92 : cv_ RL 92 yX7_start cX7_start 3 (some .int) 2 := ⟨uw_in 212 rfl rfl, uw_in 213 rfl rfl, uw_in 214 rfl rfl, uw_in 2 rfl rfl, uw_in 215 rfl rfl, ⟨by decide, by decide, by decide +kernel⟩⟩
set_option maxRecDepth 20000 in
theorem kL_95 : cv_ RL 95 yX7_hide cX7_hide 3 (some .int) 2 := ⟨uw_in 271 rfl rfl, uw_in 272 rfl rfl, uw_in 273 rfl rfl, uw_in 2 rfl rfl, uw_in 274 rfl rfl, ⟨by decide, by decide, by decide +kernel⟩⟩
set_option maxRecDepth 20000 in
theorem kL_98 : cs_ RL 98 yL_end cL_end 5 none 4 := ⟨uw_in 383 rfl rfl, uw_in 384 rfl rfl, uw_in 1 rfl rfl, uw_in 385 rfl rfl, ⟨by decide, by decide, by decide +kernel⟩⟩
def fL_low (a0 a1 : Int32) : Option (Int32) := (o_k (¬ a1 = 0) (some ((a0 &&& (2147483647 : Int32)) - (a0 &&& (2147483647 : Int32)) / a1 * a1)))
set_option maxRecDepth 100000 in
set_option maxHeartbeats 16000000 in
theorem mL_low (l : Launch) (D : va_G) (a0 a1 : Int32) (r : Int32) (hrun : fL_low a0 a1 = some r) : me_I l D [] yL_low cL_low 2 .int 0 0 [] [.int a0, .int a1] r [] := by
  refine me_ofI (plainFor_of_name (by decide)) (Nat.le_of_ble_eq_true rfl) ?_
  intro p e s m args below meth c A ls S hK Y hA hl hr hlk hZ
  have hx := S.1
  have hb := S.2.1
  have hl : lv_has ls 2 [(0, .int a0), (1, .int a1)] := hl
  unfold fL_low at hrun
  refine lv_iload_n hx hb dL_low_0 rfl (lv_at hl 0 rfl) ?_
  refine lv_ldc (v := (2147483647 : Int32)) hx hb S.2.2.2.1 (S.2.2.2.2 _ (List.mem_cons_of_mem _ (uw_in 367 rfl rfl))) dL_low_1 ?_
  refine lv_iand hx hb dL_low_3 ?_
  refine lv_iload_n hx hb dL_low_4 rfl (lv_at hl 1 rfl) ?_
  obtain ⟨c_1, hrun⟩ := o_kh hrun
  refine lv_irem hx hb dL_low_5 c_1 ?_
  cases hrun
  exact me_ri S hK Y hr hlk rfl dL_low_6
def lL_apart_2 : Nat → Int32 → Int32 → Int32 → Option (Int32)
  | 0, _, _, _ => none
  | n + 1, a0, a1, a2 => (if ((a0 + a2) - (a0 + a2) / (16 : Int32) * (16 : Int32)) = a1 then (some a2) else (lL_apart_2 n a0 a1 (a2 + (1 : Int32))))
def fL_apart (a0 a1 : Int32) : Option (Int32) := ((lL_apart_2 70 a0 a1 (0 : Int32)).bind fun q_2 => (if ((16 : Int32) - q_2) ≤ q_2 then (some ((16 : Int32) - q_2)) else (some q_2)))
set_option maxRecDepth 100000 in
set_option maxHeartbeats 16000000 in
theorem mL_apart (l : Launch) (D : va_G) (a0 a1 : Int32) (r : Int32) (hrun : fL_apart a0 a1 = some r) : me_I l D [] yL_apart cL_apart 3 .int 0 0 [] [.int a0, .int a1] r [] := by
  refine me_ofI (plainFor_of_name (by decide)) (Nat.le_of_ble_eq_true rfl) ?_
  intro p e s m args below meth c A ls S hK Y hA hl hr hlk hZ
  have hx := S.1
  have hb := S.2.1
  have hl : lv_has ls 3 [(0, .int a0), (1, .int a1)] := hl
  have lp2 : ∀ (n : Nat) (a0 : Int32) (a1 : Int32) (a2 : Int32) (q_x : Int32), lL_apart_2 n a0 a1 a2 = some q_x → (∀ (H : Heap) (locs : List Loc) (ls : Array Slot), dy_ D A s [] H locs → lv_has ls 3 [(2, .int q_x)] → W p l e (rm_ 0 0) s m args below meth c H locs 0 0 (MQ below (me_Qi D [] A r []) args s 0 0 A) (F0 m 18 ls [])) → ∀ (H : Heap) (locs : List Loc) (ls : Array Slot), dy_ D A s [] H locs → lv_has ls 3 [(0, .int a0), (1, .int a1), (2, .int a2)] → W p l e (rm_ 0 0) s m args below meth c H locs 0 0 (MQ below (me_Qi D [] A r []) args s 0 0 A) (F0 m 2 ls []) := by
    intro n
    induction n with
    | zero => intro a0 a1 a2 q_x hrun; cases hrun
    | succ n ih =>
      intro a0 a1 a2 q_x hrun kx H locs ls Y hl
      unfold lL_apart_2 at hrun
      refine lv_iload_n hx hb dL_apart_2 rfl (lv_at hl 0 rfl) ?_
      refine lv_iload_n hx hb dL_apart_3 rfl (lv_at hl 2 rfl) ?_
      refine lv_iadd hx hb dL_apart_4 ?_
      refine lv_bipush (v := (16 : Int32)) hx hb dL_apart_5 (by decide) ?_
      refine lv_irem hx hb dL_apart_7 (by decide) ?_
      refine lv_iload_n hx hb dL_apart_8 rfl (lv_at hl 1 rfl) ?_
      refine lv_icmp_eq (tgt := 18) hx hb dL_apart_9 (by decide) (fun c_1 => ?_) (fun c_1 => ?_)
      · have hrun := o_t hrun c_1
        cases hrun
        exact kx _ _ _ Y (lv_sub hl [2] rfl)
      · have hrun := o_f hrun c_1
        refine lv_iinc (v := (a2 + (1 : Int32))) (lv' := [(2, .int (a2 + (1 : Int32))), (0, .int a0), (1, .int a1)]) hx hb dL_apart_12 hl (k := 2) rfl (by rfl) (Nat.le_of_ble_eq_true rfl) rfl (fun ls hl => ?_)
        refine lv_goto (tgt := 2) hx hb dL_apart_15 (by decide) ?_
        exact ih a0 a1 (a2 + (1 : Int32)) q_x hrun kx _ _ _ Y (lv_sub hl [1, 2, 0] rfl)
  unfold fL_apart at hrun
  refine lv_iconst (v := (0 : Int32)) hx hb dL_apart_0 (by decide) ?_
  refine lv_istore_n (lv' := [(2, .int (0 : Int32)), (0, .int a0), (1, .int a1)]) hx hb dL_apart_1 rfl hl (Nat.le_of_ble_eq_true rfl) rfl (fun ls hl => ?_)
  obtain ⟨q_2, e_3, hrun⟩ := o_bh hrun
  refine lp2 70 a0 a1 (0 : Int32) q_2 e_3 (fun H locs ls Y hl => ?_) _ _ _ Y (lv_sub hl [1, 2, 0] rfl)
  refine lv_iload_n hx hb dL_apart_18 rfl (lv_at hl 0 rfl) ?_
  refine lv_bipush (v := (16 : Int32)) hx hb dL_apart_19 (by decide) ?_
  refine lv_iload_n hx hb dL_apart_21 rfl (lv_at hl 0 rfl) ?_
  refine lv_isub hx hb dL_apart_22 ?_
  refine lv_icmp_ge (tgt := 30) hx hb dL_apart_23 (by decide) (fun c_4 => ?_) (fun c_4 => ?_)
  · have hrun := o_t hrun c_4
    refine lv_bipush (v := (16 : Int32)) hx hb dL_apart_30 (by decide) ?_
    refine lv_iload_n hx hb dL_apart_32 rfl (lv_at hl 0 rfl) ?_
    refine lv_isub hx hb dL_apart_33 ?_
    cases hrun
    exact me_ri S hK Y hr hlk rfl dL_apart_34
  · have hrun := o_f hrun c_4
    refine lv_iload_n hx hb dL_apart_26 rfl (lv_at hl 0 rfl) ?_
    refine lv_goto (tgt := 34) hx hb dL_apart_27 (by decide) ?_
    cases hrun
    exact me_ri S hK Y hr hlk rfl dL_apart_34
def lL_count_4 : Nat → Int32 → Int32 → Option (Int32)
  | 0, _, _ => none
  | n + 1, a1, a2 => (if a2 ≤ 0 then (some a1) else (lL_count_4 n (a1 + (a2 - a2 / (2 : Int32) * (2 : Int32))) (a2 / (2 : Int32))))
def fL_count (a0 : Int32) : Option (Int32) := ((lL_count_4 70 (0 : Int32) a0).bind fun q_2 => (some q_2))
set_option maxRecDepth 100000 in
set_option maxHeartbeats 16000000 in
theorem mL_count (l : Launch) (D : va_G) (a0 : Int32) (r : Int32) (hrun : fL_count a0 = some r) : me_I l D [] yL_count cL_count 3 .int 0 0 [] [.int a0] r [] := by
  refine me_ofI (plainFor_of_name (by decide)) (Nat.le_of_ble_eq_true rfl) ?_
  intro p e s m args below meth c A ls S hK Y hA hl hr hlk hZ
  have hx := S.1
  have hb := S.2.1
  have hl : lv_has ls 3 [(0, .int a0)] := hl
  have lp4 : ∀ (n : Nat) (a1 : Int32) (a2 : Int32) (q_x : Int32), lL_count_4 n a1 a2 = some q_x → (∀ (H : Heap) (locs : List Loc) (ls : Array Slot), dy_ D A s [] H locs → lv_has ls 3 [(1, .int q_x)] → W p l e (rm_ 0 0) s m args below meth c H locs 0 0 (MQ below (me_Qi D [] A r []) args s 0 0 A) (F0 m 21 ls [])) → ∀ (H : Heap) (locs : List Loc) (ls : Array Slot), dy_ D A s [] H locs → lv_has ls 3 [(1, .int a1), (2, .int a2)] → W p l e (rm_ 0 0) s m args below meth c H locs 0 0 (MQ below (me_Qi D [] A r []) args s 0 0 A) (F0 m 4 ls []) := by
    intro n
    induction n with
    | zero => intro a1 a2 q_x hrun; cases hrun
    | succ n ih =>
      intro a1 a2 q_x hrun kx H locs ls Y hl
      unfold lL_count_4 at hrun
      refine lv_iload_n hx hb dL_count_4 rfl (lv_at hl 1 rfl) ?_
      refine lv_if_le (tgt := 21) hx hb dL_count_5 (by decide) (fun c_1 => ?_) (fun c_1 => ?_)
      · have hrun := o_t hrun c_1
        cases hrun
        exact kx _ _ _ Y (lv_sub hl [0] rfl)
      · have hrun := o_f hrun c_1
        refine lv_iload_n hx hb dL_count_8 rfl (lv_at hl 0 rfl) ?_
        refine lv_iload_n hx hb dL_count_9 rfl (lv_at hl 1 rfl) ?_
        refine lv_iconst (v := (2 : Int32)) hx hb dL_count_10 (by decide) ?_
        refine lv_irem hx hb dL_count_11 (by decide) ?_
        refine lv_iadd hx hb dL_count_12 ?_
        refine lv_istore_n (lv' := [(1, .int (a1 + (a2 - a2 / (2 : Int32) * (2 : Int32)))), (2, .int a2)]) hx hb dL_count_13 rfl hl (Nat.le_of_ble_eq_true rfl) rfl (fun ls hl => ?_)
        refine lv_iload_n hx hb dL_count_14 rfl (lv_at hl 1 rfl) ?_
        refine lv_iconst (v := (2 : Int32)) hx hb dL_count_15 (by decide) ?_
        refine lv_idiv hx hb dL_count_16 (by decide) ?_
        refine lv_istore_n (lv' := [(2, .int (a2 / (2 : Int32))), (1, .int (a1 + (a2 - a2 / (2 : Int32) * (2 : Int32))))]) hx hb dL_count_17 rfl hl (Nat.le_of_ble_eq_true rfl) rfl (fun ls hl => ?_)
        refine lv_goto (tgt := 4) hx hb dL_count_18 (by decide) ?_
        exact ih (a1 + (a2 - a2 / (2 : Int32) * (2 : Int32))) (a2 / (2 : Int32)) q_x hrun kx _ _ _ Y (lv_sub hl [1, 0] rfl)
  unfold fL_count at hrun
  refine lv_iconst (v := (0 : Int32)) hx hb dL_count_0 (by decide) ?_
  refine lv_istore_n (lv' := [(1, .int (0 : Int32)), (0, .int a0)]) hx hb dL_count_1 rfl hl (Nat.le_of_ble_eq_true rfl) rfl (fun ls hl => ?_)
  refine lv_iload_n hx hb dL_count_2 rfl (lv_at hl 1 rfl) ?_
  refine lv_istore_n (lv' := [(2, .int a0), (1, .int (0 : Int32)), (0, .int a0)]) hx hb dL_count_3 rfl hl (Nat.le_of_ble_eq_true rfl) rfl (fun ls hl => ?_)
  obtain ⟨q_2, e_3, hrun⟩ := o_bh hrun
  refine lp4 70 (0 : Int32) a0 q_2 e_3 (fun H locs ls Y hl => ?_) _ _ _ Y (lv_sub hl [1, 0] rfl)
  refine lv_iload_n hx hb dL_count_21 rfl (lv_at hl 0 rfl) ?_
  cases hrun
  exact me_ri S hK Y hr hlk rfl dL_count_22
def lL_here_4 : Nat → Int32 → Int32 → Int32 → (sg_T) → Option (Int32)
  | 0, _, _, _, _ => none
  | n + 1, a1, a2, a3, Ω => (if (8 : Int32) ≤ a3 then (some a2) else (o_x (((6 : Int32) * a3) + (5 : Int32)) 48 ((if ((Ω 1) ((((6 : Int32) * a3) + (5 : Int32))).toNatClampNeg) = a1 then (some ((1 : Int32) <<< (a3 &&& 31))) else (some (0 : Int32))).bind fun q_4 => (lL_here_4 n a1 (a2 ||| q_4) (a3 + (1 : Int32)) Ω))))
def fL_here (a1 : Int32) (Ω : sg_T) : Option (Int32) := ((lL_here_4 70 a1 (0 : Int32) (0 : Int32) Ω).bind fun q_7 => (some q_7))
set_option maxRecDepth 100000 in
set_option maxHeartbeats 16000000 in
theorem mL_here (l : Launch) (D : va_G) (cI : ClassId) (g : Nat → Nat) (Ω : sg_T) (a1 : Int32) (r : Int32) (hrun : fL_here a1 Ω = some r) : me_I l D (tQ cI) yL_here cL_here 4 .int 0 0 (wQ cI g Ω) [.ref (g 1), .int a1] r (wQ cI g Ω) := by
  refine me_ofI (plainFor_of_name (by decide)) (Nat.le_of_ble_eq_true rfl) ?_
  intro p e s m args below meth c A ls S hK Y hA hl hr hlk hZ
  have hx := S.1
  have hb := S.2.1
  have hl : lv_has ls 4 [(0, .ref (g 1)), (1, .int a1)] := hl
  have lp4 : ∀ (n : Nat) (a1 : Int32) (a2 : Int32) (a3 : Int32) (Ω : sg_T) (q_x : Int32), lL_here_4 n a1 a2 a3 Ω = some q_x → (∀ (H : Heap) (locs : List Loc) (ls : Array Slot), dy_ D A s (wQ cI g Ω) H locs → lv_has ls 4 [(0, .ref (g 1)), (2, .int q_x)] → W p l e (rm_ 0 0) s m args below meth c H locs 0 0 (MQ below (me_Qi D (tQ cI) A r (wQ cI g Ω)) args s 0 0 A) (F0 m 38 ls [])) → ∀ (H : Heap) (locs : List Loc) (ls : Array Slot), dy_ D A s (wQ cI g Ω) H locs → lv_has ls 4 [(0, .ref (g 1)), (1, .int a1), (2, .int a2), (3, .int a3)] → W p l e (rm_ 0 0) s m args below meth c H locs 0 0 (MQ below (me_Qi D (tQ cI) A r (wQ cI g Ω)) args s 0 0 A) (F0 m 4 ls []) := by
    intro n
    induction n with
    | zero => intro a1 a2 a3 Ω q_x hrun; cases hrun
    | succ n ih =>
      intro a1 a2 a3 Ω q_x hrun kx H locs ls Y hl
      unfold lL_here_4 at hrun
      refine lv_iload_n hx hb dL_here_4 rfl (lv_at hl 3 rfl) ?_
      refine lv_bipush (v := (8 : Int32)) hx hb dL_here_5 (by decide) ?_
      refine lv_icmp_ge (tgt := 38) hx hb dL_here_7 (by decide) (fun c_1 => ?_) (fun c_1 => ?_)
      · have hrun := o_t hrun c_1
        cases hrun
        exact kx _ _ _ Y (lv_sub hl [0, 2] rfl)
      · have hrun := o_f hrun c_1
        refine lv_iload_n hx hb dL_here_10 rfl (lv_at hl 2 rfl) ?_
        refine lv_aload_n hx hb dL_here_11 rfl (lv_at hl 0 rfl) ?_
        refine lv_bipush (v := (6 : Int32)) hx hb dL_here_12 (by decide) ?_
        refine lv_iload_n hx hb dL_here_14 rfl (lv_at hl 3 rfl) ?_
        refine lv_imul hx hb dL_here_15 ?_
        refine lv_iconst (v := (5 : Int32)) hx hb dL_here_16 (by decide) ?_
        refine lv_iadd hx hb dL_here_17 ?_
        obtain ⟨b_2, hrun⟩ := o_xh hrun
        refine ia S hK Y 0 0 (f := (Ω 1)) rfl rfl b_2 dL_here_18 ?_
        refine lv_iload_n hx hb dL_here_19 rfl (lv_at hl 1 rfl) ?_
        obtain ⟨q_4, e_5, hrun⟩ := o_bh hrun
        have kx6 : ∀ (H : Heap) (locs : List Loc) (ls : Array Slot), dy_ D A s (wQ cI g Ω) H locs → lv_has ls 4 [(0, .ref (g 1)), (1, .int a1), (3, .int a3)] → W p l e (rm_ 0 0) s m args below meth c H locs 0 0 (MQ below (me_Qi D (tQ cI) A r (wQ cI g Ω)) args s 0 0 A) (F0 m 30 ls [.int q_4, .int a2]) := by
          intro H locs ls Y hl
          refine lv_ior hx hb dL_here_30 ?_
          refine lv_istore_n (lv' := [(2, .int (a2 ||| q_4)), (0, .ref (g 1)), (1, .int a1), (3, .int a3)]) hx hb dL_here_31 rfl hl (Nat.le_of_ble_eq_true rfl) rfl (fun ls hl => ?_)
          refine lv_iinc (v := (a3 + (1 : Int32))) (lv' := [(3, .int (a3 + (1 : Int32))), (2, .int (a2 ||| q_4)), (0, .ref (g 1)), (1, .int a1)]) hx hb dL_here_32 hl (k := 3) rfl (by rfl) (Nat.le_of_ble_eq_true rfl) rfl (fun ls hl => ?_)
          refine lv_goto (tgt := 4) hx hb dL_here_35 (by decide) ?_
          exact ih a1 (a2 ||| q_4) (a3 + (1 : Int32)) Ω q_x hrun kx _ _ _ Y (lv_sub hl [2, 3, 1, 0] rfl)
        have hrun := e_5
        refine lv_icmp_ne (tgt := 29) hx hb dL_here_20 (by decide) (fun c_3 => ?_) (fun c_3 => ?_)
        · have hrun := o_f hrun c_3
          refine lv_iconst (v := (0 : Int32)) hx hb dL_here_29 (by decide) ?_
          cases hrun
          exact kx6 _ _ _ Y (lv_sub hl [0, 1, 3] rfl)
        · have hrun := o_t hrun c_3
          refine lv_iconst (v := (1 : Int32)) hx hb dL_here_23 (by decide) ?_
          refine lv_iload_n hx hb dL_here_24 rfl (lv_at hl 3 rfl) ?_
          refine lv_ishl hx hb dL_here_25 ?_
          refine lv_goto (tgt := 30) hx hb dL_here_26 (by decide) ?_
          cases hrun
          exact kx6 _ _ _ Y (lv_sub hl [0, 1, 3] rfl)
  unfold fL_here at hrun
  refine lv_iconst (v := (0 : Int32)) hx hb dL_here_0 (by decide) ?_
  refine lv_istore_n (lv' := [(2, .int (0 : Int32)), (0, .ref (g 1)), (1, .int a1)]) hx hb dL_here_1 rfl hl (Nat.le_of_ble_eq_true rfl) rfl (fun ls hl => ?_)
  refine lv_iconst (v := (0 : Int32)) hx hb dL_here_2 (by decide) ?_
  refine lv_istore_n (lv' := [(3, .int (0 : Int32)), (2, .int (0 : Int32)), (0, .ref (g 1)), (1, .int a1)]) hx hb dL_here_3 rfl hl (Nat.le_of_ble_eq_true rfl) rfl (fun ls hl => ?_)
  obtain ⟨q_7, e_8, hrun⟩ := o_bh hrun
  refine lp4 70 a1 (0 : Int32) (0 : Int32) Ω q_7 e_8 (fun H locs ls Y hl => ?_) _ _ _ Y (lv_sub hl [2, 3, 1, 0] rfl)
  refine lv_iload_n hx hb dL_here_38 rfl (lv_at hl 1 rfl) ?_
  cases hrun
  exact me_ri S hK Y hr hlk rfl dL_here_39
def lL_hidden_4 : Nat → Int32 → Int32 → (sg_T) → Option (Int32)
  | 0, _, _, _ => none
  | n + 1, a1, a2, Ω => (if (8 : Int32) ≤ a2 then (some a1) else (o_x (((6 : Int32) * a2) + (5 : Int32)) 48 ((if ((Ω 1) ((((6 : Int32) * a2) + (5 : Int32))).toNatClampNeg) ≤ 0 then (some (0 : Int32)) else (some (1 : Int32))).bind fun q_4 => (lL_hidden_4 n (a1 + q_4) (a2 + (1 : Int32)) Ω))))
def fL_hidden (Ω : sg_T) : Option (Int32) := ((lL_hidden_4 70 (0 : Int32) (0 : Int32) Ω).bind fun q_7 => (some q_7))
set_option maxRecDepth 100000 in
set_option maxHeartbeats 16000000 in
theorem mL_hidden (l : Launch) (D : va_G) (cI : ClassId) (g : Nat → Nat) (Ω : sg_T) (r : Int32) (hrun : fL_hidden Ω = some r) : me_I l D (tQ cI) yL_hidden cL_hidden 3 .int 0 0 (wQ cI g Ω) [.ref (g 1)] r (wQ cI g Ω) := by
  refine me_ofI (plainFor_of_name (by decide)) (Nat.le_of_ble_eq_true rfl) ?_
  intro p e s m args below meth c A ls S hK Y hA hl hr hlk hZ
  have hx := S.1
  have hb := S.2.1
  have hl : lv_has ls 3 [(0, .ref (g 1))] := hl
  have lp4 : ∀ (n : Nat) (a1 : Int32) (a2 : Int32) (Ω : sg_T) (q_x : Int32), lL_hidden_4 n a1 a2 Ω = some q_x → (∀ (H : Heap) (locs : List Loc) (ls : Array Slot), dy_ D A s (wQ cI g Ω) H locs → lv_has ls 3 [(0, .ref (g 1)), (1, .int q_x)] → W p l e (rm_ 0 0) s m args below meth c H locs 0 0 (MQ below (me_Qi D (tQ cI) A r (wQ cI g Ω)) args s 0 0 A) (F0 m 35 ls [])) → ∀ (H : Heap) (locs : List Loc) (ls : Array Slot), dy_ D A s (wQ cI g Ω) H locs → lv_has ls 3 [(0, .ref (g 1)), (1, .int a1), (2, .int a2)] → W p l e (rm_ 0 0) s m args below meth c H locs 0 0 (MQ below (me_Qi D (tQ cI) A r (wQ cI g Ω)) args s 0 0 A) (F0 m 4 ls []) := by
    intro n
    induction n with
    | zero => intro a1 a2 Ω q_x hrun; cases hrun
    | succ n ih =>
      intro a1 a2 Ω q_x hrun kx H locs ls Y hl
      unfold lL_hidden_4 at hrun
      refine lv_iload_n hx hb dL_hidden_4 rfl (lv_at hl 2 rfl) ?_
      refine lv_bipush (v := (8 : Int32)) hx hb dL_hidden_5 (by decide) ?_
      refine lv_icmp_ge (tgt := 35) hx hb dL_hidden_7 (by decide) (fun c_1 => ?_) (fun c_1 => ?_)
      · have hrun := o_t hrun c_1
        cases hrun
        exact kx _ _ _ Y (lv_sub hl [0, 1] rfl)
      · have hrun := o_f hrun c_1
        refine lv_iload_n hx hb dL_hidden_10 rfl (lv_at hl 1 rfl) ?_
        refine lv_aload_n hx hb dL_hidden_11 rfl (lv_at hl 0 rfl) ?_
        refine lv_bipush (v := (6 : Int32)) hx hb dL_hidden_12 (by decide) ?_
        refine lv_iload_n hx hb dL_hidden_14 rfl (lv_at hl 2 rfl) ?_
        refine lv_imul hx hb dL_hidden_15 ?_
        refine lv_iconst (v := (5 : Int32)) hx hb dL_hidden_16 (by decide) ?_
        refine lv_iadd hx hb dL_hidden_17 ?_
        obtain ⟨b_2, hrun⟩ := o_xh hrun
        refine ia S hK Y 0 0 (f := (Ω 1)) rfl rfl b_2 dL_hidden_18 ?_
        obtain ⟨q_4, e_5, hrun⟩ := o_bh hrun
        have kx6 : ∀ (H : Heap) (locs : List Loc) (ls : Array Slot), dy_ D A s (wQ cI g Ω) H locs → lv_has ls 3 [(0, .ref (g 1)), (2, .int a2)] → W p l e (rm_ 0 0) s m args below meth c H locs 0 0 (MQ below (me_Qi D (tQ cI) A r (wQ cI g Ω)) args s 0 0 A) (F0 m 27 ls [.int q_4, .int a1]) := by
          intro H locs ls Y hl
          refine lv_iadd hx hb dL_hidden_27 ?_
          refine lv_istore_n (lv' := [(1, .int (a1 + q_4)), (0, .ref (g 1)), (2, .int a2)]) hx hb dL_hidden_28 rfl hl (Nat.le_of_ble_eq_true rfl) rfl (fun ls hl => ?_)
          refine lv_iinc (v := (a2 + (1 : Int32))) (lv' := [(2, .int (a2 + (1 : Int32))), (1, .int (a1 + q_4)), (0, .ref (g 1))]) hx hb dL_hidden_29 hl (k := 2) rfl (by rfl) (Nat.le_of_ble_eq_true rfl) rfl (fun ls hl => ?_)
          refine lv_goto (tgt := 4) hx hb dL_hidden_32 (by decide) ?_
          exact ih (a1 + q_4) (a2 + (1 : Int32)) Ω q_x hrun kx _ _ _ Y (lv_sub hl [2, 1, 0] rfl)
        have hrun := e_5
        refine lv_if_le (tgt := 26) hx hb dL_hidden_19 (by decide) (fun c_3 => ?_) (fun c_3 => ?_)
        · have hrun := o_t hrun c_3
          refine lv_iconst (v := (0 : Int32)) hx hb dL_hidden_26 (by decide) ?_
          cases hrun
          exact kx6 _ _ _ Y (lv_sub hl [0, 2] rfl)
        · have hrun := o_f hrun c_3
          refine lv_iconst (v := (1 : Int32)) hx hb dL_hidden_22 (by decide) ?_
          refine lv_goto (tgt := 27) hx hb dL_hidden_23 (by decide) ?_
          cases hrun
          exact kx6 _ _ _ Y (lv_sub hl [0, 2] rfl)
  unfold fL_hidden at hrun
  refine lv_iconst (v := (0 : Int32)) hx hb dL_hidden_0 (by decide) ?_
  refine lv_istore_n (lv' := [(1, .int (0 : Int32)), (0, .ref (g 1))]) hx hb dL_hidden_1 rfl hl (Nat.le_of_ble_eq_true rfl) rfl (fun ls hl => ?_)
  refine lv_iconst (v := (0 : Int32)) hx hb dL_hidden_2 (by decide) ?_
  refine lv_istore_n (lv' := [(2, .int (0 : Int32)), (1, .int (0 : Int32)), (0, .ref (g 1))]) hx hb dL_hidden_3 rfl hl (Nat.le_of_ble_eq_true rfl) rfl (fun ls hl => ?_)
  obtain ⟨q_7, e_8, hrun⟩ := o_bh hrun
  refine lp4 70 (0 : Int32) (0 : Int32) Ω q_7 e_8 (fun H locs ls Y hl => ?_) _ _ _ Y (lv_sub hl [2, 1, 0] rfl)
  refine lv_iload_n hx hb dL_hidden_35 rfl (lv_at hl 1 rfl) ?_
  cases hrun
  exact me_ri S hK Y hr hlk rfl dL_hidden_36
def fL_good (a2 : Int32) (Ω : sg_T) : Option (Int32) := (if a2 = 0 then (some (0 : Int32)) else ((fL_apart (0 : Int32) a2).bind fun r_2 => (if ((Ω 4) ((8 : Int32)).toNatClampNeg) < r_2 then (some (0 : Int32)) else (o_x ((2 : Int32) * a2) 32 (if ((Ω 3) (((2 : Int32) * a2)).toNatClampNeg) = 0 then (some (1 : Int32)) else (some (0 : Int32)))))))
set_option maxRecDepth 100000 in
set_option maxHeartbeats 16000000 in
theorem mL_good (l : Launch) (D : va_G) (cI : ClassId) (g : Nat → Nat) (Ω : sg_T) (a2 : Int32) (r : Int32) (hrun : fL_good a2 Ω = some r) : me_I l D (tQ cI) yL_good cL_good 3 .boolean 1 22 (wQ cI g Ω) [.ref (g 3), .ref (g 4), .int a2] r (wQ cI g Ω) := by
  refine me_ofI (plainFor_of_name (by decide)) (Nat.le_of_ble_eq_true rfl) ?_
  intro p e s m args below meth c A ls S hK Y hA hl hr hlk hZ
  have hx := S.1
  have hb := S.2.1
  have hl : lv_has ls 3 [(0, .ref (g 3)), (1, .ref (g 4)), (2, .int a2)] := hl
  unfold fL_good at hrun
  refine lv_iload_n hx hb dL_good_0 rfl (lv_at hl 2 rfl) ?_
  refine lv_if_eq (tgt := 28) hx hb dL_good_1 (by decide) (fun c_1 => ?_) (fun c_1 => ?_)
  · have hrun := o_t hrun c_1
    refine lv_iconst (v := (0 : Int32)) hx hb dL_good_28 (by decide) ?_
    cases hrun
    exact me_ri S hK Y hr hlk rfl dL_good_29
  · have hrun := o_f hrun c_1
    refine lv_iconst (v := (0 : Int32)) hx hb dL_good_4 (by decide) ?_
    refine lv_iload_n hx hb dL_good_5 rfl (lv_at hl 2 rfl) ?_
    obtain ⟨r_2, e_3, hrun⟩ := o_bh hrun
    refine cp_s (As := [.int (0 : Int32), .int a2]) (rest := []) S hK hA hZ Y hl.1 (mL_apart l D (0 : Int32) a2 r_2 e_3) kL_10 ⟨Nat.le_of_ble_eq_true rfl, Nat.le_of_ble_eq_true rfl⟩ rfl rfl (Nat.le_of_ble_eq_true rfl) ⟨Nat.le_of_ble_eq_true rfl, Nat.le_of_ble_eq_true rfl⟩ dL_good_6 (fun H locs Y => ?_)
    refine lv_aload_n hx hb dL_good_9 rfl (lv_at hl 1 rfl) ?_
    refine lv_bipush (v := (8 : Int32)) hx hb dL_good_10 (by decide) ?_
    refine ia S hK Y 3 0 (f := (Ω 4)) rfl rfl (show ¬ ((8 : Int32) < 0 ∨ 11 ≤ ((8 : Int32)).toNatClampNeg) by decide) dL_good_12 ?_
    refine lv_icmp_gt (tgt := 28) hx hb dL_good_13 (by decide) (fun c_4 => ?_) (fun c_4 => ?_)
    · have hrun := o_t hrun c_4
      refine lv_iconst (v := (0 : Int32)) hx hb dL_good_28 (by decide) ?_
      cases hrun
      exact me_ri S hK Y hr hlk rfl dL_good_29
    · have hrun := o_f hrun c_4
      refine lv_aload_n hx hb dL_good_16 rfl (lv_at hl 0 rfl) ?_
      refine lv_iconst (v := (2 : Int32)) hx hb dL_good_17 (by decide) ?_
      refine lv_iload_n hx hb dL_good_18 rfl (lv_at hl 2 rfl) ?_
      refine lv_imul hx hb dL_good_19 ?_
      obtain ⟨b_5, hrun⟩ := o_xh hrun
      refine ia S hK Y 2 0 (f := (Ω 3)) rfl rfl b_5 dL_good_20 ?_
      refine lv_if_ne (tgt := 28) hx hb dL_good_21 (by decide) (fun c_6 => ?_) (fun c_6 => ?_)
      · have hrun := o_f hrun c_6
        refine lv_iconst (v := (0 : Int32)) hx hb dL_good_28 (by decide) ?_
        cases hrun
        exact me_ri S hK Y hr hlk rfl dL_good_29
      · have hrun := o_t hrun c_6
        refine lv_iconst (v := (1 : Int32)) hx hb dL_good_24 (by decide) ?_
        refine lv_goto (tgt := 29) hx hb dL_good_25 (by decide) ?_
        cases hrun
        exact me_ri S hK Y hr hlk rfl dL_good_29
def lL_end_20 : Nat → Int32 → (sg_T) → Option (sg_T)
  | 0, _, _ => none
  | n + 1, a4, Ω => (if (8 : Int32) ≤ a4 then (some Ω) else (o_x (((6 : Int32) * a4) + (5 : Int32)) 48 (lL_end_20 n (a4 + (1 : Int32)) (sg_a Ω 1 (upd (Ω 1) ((((6 : Int32) * a4) + (5 : Int32))).toNatClampNeg (-1 : Int32))))))
def lL_end_46 : Nat → Int32 → (sg_T) → Option (sg_T)
  | 0, _, _ => none
  | n + 1, a4, Ω => (if (16 : Int32) ≤ a4 then (some Ω) else (o_x (((2 : Int32) * a4) + (1 : Int32)) 32 (o_x ((2 : Int32) * a4) 32 ((if ((upd (Ω 3) ((((2 : Int32) * a4) + (1 : Int32))).toNatClampNeg (((Ω 3) ((((2 : Int32) * a4) + (1 : Int32))).toNatClampNeg) + ((Ω 3) (((2 : Int32) * a4)).toNatClampNeg))) (((2 : Int32) * a4)).toNatClampNeg) = (1 : Int32) then (if ((Ω 4) ((2 : Int32)).toNatClampNeg) ≤ 0 then (some (sg_a Ω 3 (upd (Ω 3) ((((2 : Int32) * a4) + (1 : Int32))).toNatClampNeg (((Ω 3) ((((2 : Int32) * a4) + (1 : Int32))).toNatClampNeg) + ((Ω 3) (((2 : Int32) * a4)).toNatClampNeg))))) else (if ((upd (Ω 3) ((((2 : Int32) * a4) + (1 : Int32))).toNatClampNeg (((Ω 3) ((((2 : Int32) * a4) + (1 : Int32))).toNatClampNeg) + ((Ω 3) (((2 : Int32) * a4)).toNatClampNeg))) ((((2 : Int32) * a4) + (1 : Int32))).toNatClampNeg) < ((Ω 4) ((2 : Int32)).toNatClampNeg) then (some (sg_a Ω 3 (upd (Ω 3) ((((2 : Int32) * a4) + (1 : Int32))).toNatClampNeg (((Ω 3) ((((2 : Int32) * a4) + (1 : Int32))).toNatClampNeg) + ((Ω 3) (((2 : Int32) * a4)).toNatClampNeg))))) else (o_x a4 16 (some (sg_a (sg_a (sg_a (sg_a Ω 3 (upd (Ω 3) ((((2 : Int32) * a4) + (1 : Int32))).toNatClampNeg (((Ω 3) ((((2 : Int32) * a4) + (1 : Int32))).toNatClampNeg) + ((Ω 3) (((2 : Int32) * a4)).toNatClampNeg)))) 3 (upd (upd (Ω 3) ((((2 : Int32) * a4) + (1 : Int32))).toNatClampNeg (((Ω 3) ((((2 : Int32) * a4) + (1 : Int32))).toNatClampNeg) + ((Ω 3) (((2 : Int32) * a4)).toNatClampNeg))) (((2 : Int32) * a4)).toNatClampNeg (0 : Int32))) 3 (upd (upd (upd (Ω 3) ((((2 : Int32) * a4) + (1 : Int32))).toNatClampNeg (((Ω 3) ((((2 : Int32) * a4) + (1 : Int32))).toNatClampNeg) + ((Ω 3) (((2 : Int32) * a4)).toNatClampNeg))) (((2 : Int32) * a4)).toNatClampNeg (0 : Int32)) ((((2 : Int32) * a4) + (1 : Int32))).toNatClampNeg (0 : Int32))) 2 (upd (Ω 2) (a4).toNatClampNeg (0 : Int32))))))) else (some (sg_a Ω 3 (upd (Ω 3) ((((2 : Int32) * a4) + (1 : Int32))).toNatClampNeg (((Ω 3) ((((2 : Int32) * a4) + (1 : Int32))).toNatClampNeg) + ((Ω 3) (((2 : Int32) * a4)).toNatClampNeg)))))).bind fun q_9 => (lL_end_46 n (a4 + (1 : Int32)) q_9)))))
def fL_end (Ω : sg_T) : Option (sg_T) := ((lL_end_20 70 (0 : Int32) (sg_a (sg_a (sg_a Ω 4 (upd (Ω 4) ((5 : Int32)).toNatClampNeg (((Ω 4) ((5 : Int32)).toNatClampNeg) + (1 : Int32)))) 4 (upd (upd (Ω 4) ((5 : Int32)).toNatClampNeg (((Ω 4) ((5 : Int32)).toNatClampNeg) + (1 : Int32))) ((6 : Int32)).toNatClampNeg (0 : Int32))) 4 (upd (upd (upd (Ω 4) ((5 : Int32)).toNatClampNeg (((Ω 4) ((5 : Int32)).toNatClampNeg) + (1 : Int32))) ((6 : Int32)).toNatClampNeg (0 : Int32)) ((10 : Int32)).toNatClampNeg (0 : Int32)))).bind fun q_3 => ((lL_end_46 70 (0 : Int32) q_3).bind fun q_15 => (some q_15)))
set_option maxRecDepth 100000 in
set_option maxHeartbeats 16000000 in
theorem mL_end (l : Launch) (D : va_G) (cI : ClassId) (g : Nat → Nat) (Ω : sg_T) (Ω' : sg_T) (hrun : fL_end Ω = some Ω') : me_V l D (tQ cI) yL_end cL_end 5 0 0 (wQ cI g Ω) [.ref (g 1), .ref (g 2), .ref (g 3), .ref (g 4)] (wQ cI g Ω') := by
  refine me_ofV (plainFor_of_name (by decide)) (Nat.le_of_ble_eq_true rfl) ?_
  intro p e s m args below meth c A ls S hK Y hA hl hr hlk hZ
  have hx := S.1
  have hb := S.2.1
  have hl : lv_has ls 5 [(0, .ref (g 1)), (1, .ref (g 2)), (2, .ref (g 3)), (3, .ref (g 4))] := hl
  have lp20 : ∀ (n : Nat) (a4 : Int32) (Ω : sg_T) (q_x : sg_T), lL_end_20 n a4 Ω = some q_x → (∀ (H : Heap) (locs : List Loc) (ls : Array Slot), dy_ D A s (wQ cI g q_x) H locs → lv_has ls 5 [(0, .ref (g 1)), (1, .ref (g 2)), (2, .ref (g 3)), (3, .ref (g 4))] → W p l e (rm_ 0 0) s m args below meth c H locs 0 0 (MQ below (me_Qv D (tQ cI) A (wQ cI g Ω')) args s 0 0 A) (F0 m 43 ls [])) → ∀ (H : Heap) (locs : List Loc) (ls : Array Slot), dy_ D A s (wQ cI g Ω) H locs → lv_has ls 5 [(0, .ref (g 1)), (1, .ref (g 2)), (2, .ref (g 3)), (3, .ref (g 4)), (4, .int a4)] → W p l e (rm_ 0 0) s m args below meth c H locs 0 0 (MQ below (me_Qv D (tQ cI) A (wQ cI g Ω')) args s 0 0 A) (F0 m 20 ls []) := by
    intro n
    induction n with
    | zero => intro a4 Ω q_x hrun; cases hrun
    | succ n ih =>
      intro a4 Ω q_x hrun kx H locs ls Y hl
      unfold lL_end_20 at hrun
      refine lv_iload hx hb dL_end_20 (lv_at hl 4 rfl) ?_
      refine lv_bipush (v := (8 : Int32)) hx hb dL_end_22 (by decide) ?_
      refine lv_icmp_ge (tgt := 43) hx hb dL_end_24 (by decide) (fun c_1 => ?_) (fun c_1 => ?_)
      · have hrun := o_t hrun c_1
        cases hrun
        exact kx _ _ _ Y (lv_sub hl [0, 1, 2, 3] rfl)
      · have hrun := o_f hrun c_1
        refine lv_aload_n hx hb dL_end_27 rfl (lv_at hl 0 rfl) ?_
        refine lv_bipush (v := (6 : Int32)) hx hb dL_end_28 (by decide) ?_
        refine lv_iload hx hb dL_end_30 (lv_at hl 4 rfl) ?_
        refine lv_imul hx hb dL_end_32 ?_
        refine lv_iconst (v := (5 : Int32)) hx hb dL_end_33 (by decide) ?_
        refine lv_iadd hx hb dL_end_34 ?_
        refine lv_iconst (v := (-1 : Int32)) hx hb dL_end_35 (by decide) ?_
        obtain ⟨b_2, hrun⟩ := o_xh hrun
        refine iw S hK Y 0 0 (f := (Ω 1)) rfl rfl b_2 (ws' := (wQ cI g (sg_a Ω 1 (upd (Ω 1) ((((6 : Int32) * a4) + (5 : Int32))).toNatClampNeg (-1 : Int32))))) (wQ_a1 _ _ _) dL_end_36 (fun H locs Y => ?_)
        refine lv_iinc (v := (a4 + (1 : Int32))) (lv' := [(4, .int (a4 + (1 : Int32))), (0, .ref (g 1)), (1, .ref (g 2)), (2, .ref (g 3)), (3, .ref (g 4))]) hx hb dL_end_37 hl (k := 4) rfl (by rfl) (Nat.le_of_ble_eq_true rfl) rfl (fun ls hl => ?_)
        refine lv_goto (tgt := 20) hx hb dL_end_40 (by decide) ?_
        exact ih (a4 + (1 : Int32)) (sg_a Ω 1 (upd (Ω 1) ((((6 : Int32) * a4) + (5 : Int32))).toNatClampNeg (-1 : Int32))) q_x hrun kx _ _ _ Y (lv_sub hl [1, 2, 3, 4, 0] rfl)
  have lp46 : ∀ (n : Nat) (a4 : Int32) (Ω : sg_T) (q_x : sg_T), lL_end_46 n a4 Ω = some q_x → (∀ (H : Heap) (locs : List Loc) (ls : Array Slot), dy_ D A s (wQ cI g q_x) H locs → lv_has ls 5 [(0, .ref (g 1)), (1, .ref (g 2)), (2, .ref (g 3)), (3, .ref (g 4))] → W p l e (rm_ 0 0) s m args below meth c H locs 0 0 (MQ below (me_Qv D (tQ cI) A (wQ cI g Ω')) args s 0 0 A) (F0 m 127 ls [])) → ∀ (H : Heap) (locs : List Loc) (ls : Array Slot), dy_ D A s (wQ cI g Ω) H locs → lv_has ls 5 [(0, .ref (g 1)), (1, .ref (g 2)), (2, .ref (g 3)), (3, .ref (g 4)), (4, .int a4)] → W p l e (rm_ 0 0) s m args below meth c H locs 0 0 (MQ below (me_Qv D (tQ cI) A (wQ cI g Ω')) args s 0 0 A) (F0 m 46 ls []) := by
    intro n
    induction n with
    | zero => intro a4 Ω q_x hrun; cases hrun
    | succ n ih =>
      intro a4 Ω q_x hrun kx H locs ls Y hl
      unfold lL_end_46 at hrun
      refine lv_iload hx hb dL_end_46 (lv_at hl 4 rfl) ?_
      refine lv_bipush (v := (16 : Int32)) hx hb dL_end_48 (by decide) ?_
      refine lv_icmp_ge (tgt := 127) hx hb dL_end_50 (by decide) (fun c_5 => ?_) (fun c_5 => ?_)
      · have hrun := o_t hrun c_5
        cases hrun
        exact kx _ _ _ Y (lv_sub hl [0, 1, 2, 3] rfl)
      · have hrun := o_f hrun c_5
        refine lv_aload_n hx hb dL_end_53 rfl (lv_at hl 2 rfl) ?_
        refine lv_iconst (v := (2 : Int32)) hx hb dL_end_54 (by decide) ?_
        refine lv_iload hx hb dL_end_55 (lv_at hl 4 rfl) ?_
        refine lv_imul hx hb dL_end_57 ?_
        refine lv_iconst (v := (1 : Int32)) hx hb dL_end_58 (by decide) ?_
        refine lv_iadd hx hb dL_end_59 ?_
        refine lv_dup2_11 hx hb dL_end_60 rfl rfl ?_
        obtain ⟨b_6, hrun⟩ := o_xh hrun
        refine ia S hK Y 2 0 (f := (Ω 3)) rfl rfl b_6 dL_end_61 ?_
        refine lv_aload_n hx hb dL_end_62 rfl (lv_at hl 2 rfl) ?_
        refine lv_iconst (v := (2 : Int32)) hx hb dL_end_63 (by decide) ?_
        refine lv_iload hx hb dL_end_64 (lv_at hl 4 rfl) ?_
        refine lv_imul hx hb dL_end_66 ?_
        obtain ⟨b_7, hrun⟩ := o_xh hrun
        refine ia S hK Y 2 0 (f := (Ω 3)) rfl rfl b_7 dL_end_67 ?_
        refine lv_iadd hx hb dL_end_68 ?_
        refine iw S hK Y 2 0 (f := (Ω 3)) rfl rfl b_6 (ws' := (wQ cI g (sg_a Ω 3 (upd (Ω 3) ((((2 : Int32) * a4) + (1 : Int32))).toNatClampNeg (((Ω 3) ((((2 : Int32) * a4) + (1 : Int32))).toNatClampNeg) + ((Ω 3) (((2 : Int32) * a4)).toNatClampNeg)))))) (wQ_a3 _ _ _) dL_end_69 (fun H locs Y => ?_)
        refine lv_aload_n hx hb dL_end_70 rfl (lv_at hl 2 rfl) ?_
        refine lv_iconst (v := (2 : Int32)) hx hb dL_end_71 (by decide) ?_
        refine lv_iload hx hb dL_end_72 (lv_at hl 4 rfl) ?_
        refine lv_imul hx hb dL_end_74 ?_
        refine ia S hK Y 2 0 (f := (upd (Ω 3) ((((2 : Int32) * a4) + (1 : Int32))).toNatClampNeg (((Ω 3) ((((2 : Int32) * a4) + (1 : Int32))).toNatClampNeg) + ((Ω 3) (((2 : Int32) * a4)).toNatClampNeg)))) rfl rfl b_7 dL_end_75 ?_
        refine lv_iconst (v := (1 : Int32)) hx hb dL_end_76 (by decide) ?_
        obtain ⟨q_9, e_10, hrun⟩ := o_bh hrun
        have kx11 : ∀ (H : Heap) (locs : List Loc) (ls : Array Slot), dy_ D A s (wQ cI g q_9) H locs → lv_has ls 5 [(0, .ref (g 1)), (1, .ref (g 2)), (2, .ref (g 3)), (3, .ref (g 4)), (4, .int a4)] → W p l e (rm_ 0 0) s m args below meth c H locs 0 0 (MQ below (me_Qv D (tQ cI) A (wQ cI g Ω')) args s 0 0 A) (F0 m 121 ls []) := by
          intro H locs ls Y hl
          refine lv_iinc (v := (a4 + (1 : Int32))) (lv' := [(4, .int (a4 + (1 : Int32))), (0, .ref (g 1)), (1, .ref (g 2)), (2, .ref (g 3)), (3, .ref (g 4))]) hx hb dL_end_121 hl (k := 4) rfl (by rfl) (Nat.le_of_ble_eq_true rfl) rfl (fun ls hl => ?_)
          refine lv_goto (tgt := 46) hx hb dL_end_124 (by decide) ?_
          exact ih (a4 + (1 : Int32)) q_9 q_x hrun kx _ _ _ Y (lv_sub hl [1, 2, 3, 4, 0] rfl)
        have hrun := e_10
        refine lv_icmp_ne (tgt := 121) hx hb dL_end_77 (by decide) (fun c_8 => ?_) (fun c_8 => ?_)
        · have hrun := o_f hrun c_8
          cases hrun
          exact kx11 _ _ _ Y (lv_sub hl [0, 1, 2, 3, 4] rfl)
        · have hrun := o_t hrun c_8
          refine lv_aload_n hx hb dL_end_80 rfl (lv_at hl 3 rfl) ?_
          refine lv_iconst (v := (2 : Int32)) hx hb dL_end_81 (by decide) ?_
          refine ia S hK Y 3 0 (f := (Ω 4)) rfl rfl (show ¬ ((2 : Int32) < 0 ∨ 11 ≤ ((2 : Int32)).toNatClampNeg) by decide) dL_end_82 ?_
          refine lv_if_le (tgt := 121) hx hb dL_end_83 (by decide) (fun c_12 => ?_) (fun c_12 => ?_)
          · have hrun := o_t hrun c_12
            cases hrun
            exact kx11 _ _ _ Y (lv_sub hl [0, 1, 2, 3, 4] rfl)
          · have hrun := o_f hrun c_12
            refine lv_aload_n hx hb dL_end_86 rfl (lv_at hl 2 rfl) ?_
            refine lv_iconst (v := (2 : Int32)) hx hb dL_end_87 (by decide) ?_
            refine lv_iload hx hb dL_end_88 (lv_at hl 4 rfl) ?_
            refine lv_imul hx hb dL_end_90 ?_
            refine lv_iconst (v := (1 : Int32)) hx hb dL_end_91 (by decide) ?_
            refine lv_iadd hx hb dL_end_92 ?_
            refine ia S hK Y 2 0 (f := (upd (Ω 3) ((((2 : Int32) * a4) + (1 : Int32))).toNatClampNeg (((Ω 3) ((((2 : Int32) * a4) + (1 : Int32))).toNatClampNeg) + ((Ω 3) (((2 : Int32) * a4)).toNatClampNeg)))) rfl rfl b_6 dL_end_93 ?_
            refine lv_aload_n hx hb dL_end_94 rfl (lv_at hl 3 rfl) ?_
            refine lv_iconst (v := (2 : Int32)) hx hb dL_end_95 (by decide) ?_
            refine ia S hK Y 3 0 (f := (Ω 4)) rfl rfl (show ¬ ((2 : Int32) < 0 ∨ 11 ≤ ((2 : Int32)).toNatClampNeg) by decide) dL_end_96 ?_
            refine lv_icmp_lt (tgt := 121) hx hb dL_end_97 (by decide) (fun c_13 => ?_) (fun c_13 => ?_)
            · have hrun := o_t hrun c_13
              cases hrun
              exact kx11 _ _ _ Y (lv_sub hl [0, 1, 2, 3, 4] rfl)
            · have hrun := o_f hrun c_13
              refine lv_aload_n hx hb dL_end_100 rfl (lv_at hl 2 rfl) ?_
              refine lv_iconst (v := (2 : Int32)) hx hb dL_end_101 (by decide) ?_
              refine lv_iload hx hb dL_end_102 (lv_at hl 4 rfl) ?_
              refine lv_imul hx hb dL_end_104 ?_
              refine lv_iconst (v := (0 : Int32)) hx hb dL_end_105 (by decide) ?_
              refine iw S hK Y 2 0 (f := (upd (Ω 3) ((((2 : Int32) * a4) + (1 : Int32))).toNatClampNeg (((Ω 3) ((((2 : Int32) * a4) + (1 : Int32))).toNatClampNeg) + ((Ω 3) (((2 : Int32) * a4)).toNatClampNeg)))) rfl rfl b_7 (ws' := (wQ cI g (sg_a (sg_a Ω 3 (upd (Ω 3) ((((2 : Int32) * a4) + (1 : Int32))).toNatClampNeg (((Ω 3) ((((2 : Int32) * a4) + (1 : Int32))).toNatClampNeg) + ((Ω 3) (((2 : Int32) * a4)).toNatClampNeg)))) 3 (upd (upd (Ω 3) ((((2 : Int32) * a4) + (1 : Int32))).toNatClampNeg (((Ω 3) ((((2 : Int32) * a4) + (1 : Int32))).toNatClampNeg) + ((Ω 3) (((2 : Int32) * a4)).toNatClampNeg))) (((2 : Int32) * a4)).toNatClampNeg (0 : Int32))))) (wQ_a3 _ _ _) dL_end_106 (fun H locs Y => ?_)
              refine lv_aload_n hx hb dL_end_107 rfl (lv_at hl 2 rfl) ?_
              refine lv_iconst (v := (2 : Int32)) hx hb dL_end_108 (by decide) ?_
              refine lv_iload hx hb dL_end_109 (lv_at hl 4 rfl) ?_
              refine lv_imul hx hb dL_end_111 ?_
              refine lv_iconst (v := (1 : Int32)) hx hb dL_end_112 (by decide) ?_
              refine lv_iadd hx hb dL_end_113 ?_
              refine lv_iconst (v := (0 : Int32)) hx hb dL_end_114 (by decide) ?_
              refine iw S hK Y 2 0 (f := (upd (upd (Ω 3) ((((2 : Int32) * a4) + (1 : Int32))).toNatClampNeg (((Ω 3) ((((2 : Int32) * a4) + (1 : Int32))).toNatClampNeg) + ((Ω 3) (((2 : Int32) * a4)).toNatClampNeg))) (((2 : Int32) * a4)).toNatClampNeg (0 : Int32))) rfl rfl b_6 (ws' := (wQ cI g (sg_a (sg_a (sg_a Ω 3 (upd (Ω 3) ((((2 : Int32) * a4) + (1 : Int32))).toNatClampNeg (((Ω 3) ((((2 : Int32) * a4) + (1 : Int32))).toNatClampNeg) + ((Ω 3) (((2 : Int32) * a4)).toNatClampNeg)))) 3 (upd (upd (Ω 3) ((((2 : Int32) * a4) + (1 : Int32))).toNatClampNeg (((Ω 3) ((((2 : Int32) * a4) + (1 : Int32))).toNatClampNeg) + ((Ω 3) (((2 : Int32) * a4)).toNatClampNeg))) (((2 : Int32) * a4)).toNatClampNeg (0 : Int32))) 3 (upd (upd (upd (Ω 3) ((((2 : Int32) * a4) + (1 : Int32))).toNatClampNeg (((Ω 3) ((((2 : Int32) * a4) + (1 : Int32))).toNatClampNeg) + ((Ω 3) (((2 : Int32) * a4)).toNatClampNeg))) (((2 : Int32) * a4)).toNatClampNeg (0 : Int32)) ((((2 : Int32) * a4) + (1 : Int32))).toNatClampNeg (0 : Int32))))) (wQ_a3 _ _ _) dL_end_115 (fun H locs Y => ?_)
              refine lv_aload_n hx hb dL_end_116 rfl (lv_at hl 1 rfl) ?_
              refine lv_iload hx hb dL_end_117 (lv_at hl 4 rfl) ?_
              refine lv_iconst (v := (0 : Int32)) hx hb dL_end_119 (by decide) ?_
              obtain ⟨b_14, hrun⟩ := o_xh hrun
              refine iw S hK Y 1 0 (f := (Ω 2)) rfl rfl b_14 (ws' := (wQ cI g (sg_a (sg_a (sg_a (sg_a Ω 3 (upd (Ω 3) ((((2 : Int32) * a4) + (1 : Int32))).toNatClampNeg (((Ω 3) ((((2 : Int32) * a4) + (1 : Int32))).toNatClampNeg) + ((Ω 3) (((2 : Int32) * a4)).toNatClampNeg)))) 3 (upd (upd (Ω 3) ((((2 : Int32) * a4) + (1 : Int32))).toNatClampNeg (((Ω 3) ((((2 : Int32) * a4) + (1 : Int32))).toNatClampNeg) + ((Ω 3) (((2 : Int32) * a4)).toNatClampNeg))) (((2 : Int32) * a4)).toNatClampNeg (0 : Int32))) 3 (upd (upd (upd (Ω 3) ((((2 : Int32) * a4) + (1 : Int32))).toNatClampNeg (((Ω 3) ((((2 : Int32) * a4) + (1 : Int32))).toNatClampNeg) + ((Ω 3) (((2 : Int32) * a4)).toNatClampNeg))) (((2 : Int32) * a4)).toNatClampNeg (0 : Int32)) ((((2 : Int32) * a4) + (1 : Int32))).toNatClampNeg (0 : Int32))) 2 (upd (Ω 2) (a4).toNatClampNeg (0 : Int32))))) (wQ_a2 _ _ _) dL_end_120 (fun H locs Y => ?_)
              cases hrun
              exact kx11 _ _ _ Y (lv_sub hl [0, 1, 2, 3, 4] rfl)
  unfold fL_end at hrun
  refine lv_aload_n hx hb dL_end_0 rfl (lv_at hl 3 rfl) ?_
  refine lv_iconst (v := (5 : Int32)) hx hb dL_end_1 (by decide) ?_
  refine lv_dup2_11 hx hb dL_end_2 rfl rfl ?_
  refine ia S hK Y 3 0 (f := (Ω 4)) rfl rfl (show ¬ ((5 : Int32) < 0 ∨ 11 ≤ ((5 : Int32)).toNatClampNeg) by decide) dL_end_3 ?_
  refine lv_iconst (v := (1 : Int32)) hx hb dL_end_4 (by decide) ?_
  refine lv_iadd hx hb dL_end_5 ?_
  refine iw S hK Y 3 0 (f := (Ω 4)) rfl rfl (show ¬ ((5 : Int32) < 0 ∨ 11 ≤ ((5 : Int32)).toNatClampNeg) by decide) (ws' := (wQ cI g (sg_a Ω 4 (upd (Ω 4) ((5 : Int32)).toNatClampNeg (((Ω 4) ((5 : Int32)).toNatClampNeg) + (1 : Int32)))))) (wQ_a4 _ _ _) dL_end_6 (fun H locs Y => ?_)
  refine lv_aload_n hx hb dL_end_7 rfl (lv_at hl 3 rfl) ?_
  refine lv_bipush (v := (6 : Int32)) hx hb dL_end_8 (by decide) ?_
  refine lv_iconst (v := (0 : Int32)) hx hb dL_end_10 (by decide) ?_
  refine iw S hK Y 3 0 (f := (upd (Ω 4) ((5 : Int32)).toNatClampNeg (((Ω 4) ((5 : Int32)).toNatClampNeg) + (1 : Int32)))) rfl rfl (show ¬ ((6 : Int32) < 0 ∨ 11 ≤ ((6 : Int32)).toNatClampNeg) by decide) (ws' := (wQ cI g (sg_a (sg_a Ω 4 (upd (Ω 4) ((5 : Int32)).toNatClampNeg (((Ω 4) ((5 : Int32)).toNatClampNeg) + (1 : Int32)))) 4 (upd (upd (Ω 4) ((5 : Int32)).toNatClampNeg (((Ω 4) ((5 : Int32)).toNatClampNeg) + (1 : Int32))) ((6 : Int32)).toNatClampNeg (0 : Int32))))) (wQ_a4 _ _ _) dL_end_11 (fun H locs Y => ?_)
  refine lv_aload_n hx hb dL_end_12 rfl (lv_at hl 3 rfl) ?_
  refine lv_bipush (v := (10 : Int32)) hx hb dL_end_13 (by decide) ?_
  refine lv_iconst (v := (0 : Int32)) hx hb dL_end_15 (by decide) ?_
  refine iw S hK Y 3 0 (f := (upd (upd (Ω 4) ((5 : Int32)).toNatClampNeg (((Ω 4) ((5 : Int32)).toNatClampNeg) + (1 : Int32))) ((6 : Int32)).toNatClampNeg (0 : Int32))) rfl rfl (show ¬ ((10 : Int32) < 0 ∨ 11 ≤ ((10 : Int32)).toNatClampNeg) by decide) (ws' := (wQ cI g (sg_a (sg_a (sg_a Ω 4 (upd (Ω 4) ((5 : Int32)).toNatClampNeg (((Ω 4) ((5 : Int32)).toNatClampNeg) + (1 : Int32)))) 4 (upd (upd (Ω 4) ((5 : Int32)).toNatClampNeg (((Ω 4) ((5 : Int32)).toNatClampNeg) + (1 : Int32))) ((6 : Int32)).toNatClampNeg (0 : Int32))) 4 (upd (upd (upd (Ω 4) ((5 : Int32)).toNatClampNeg (((Ω 4) ((5 : Int32)).toNatClampNeg) + (1 : Int32))) ((6 : Int32)).toNatClampNeg (0 : Int32)) ((10 : Int32)).toNatClampNeg (0 : Int32))))) (wQ_a4 _ _ _) dL_end_16 (fun H locs Y => ?_)
  refine lv_iconst (v := (0 : Int32)) hx hb dL_end_17 (by decide) ?_
  refine lv_istore (lv' := [(4, .int (0 : Int32)), (0, .ref (g 1)), (1, .ref (g 2)), (2, .ref (g 3)), (3, .ref (g 4))]) hx hb dL_end_18 hl (Nat.le_of_ble_eq_true rfl) rfl (fun ls hl => ?_)
  obtain ⟨q_3, e_4, hrun⟩ := o_bh hrun
  refine lp20 70 (0 : Int32) (sg_a (sg_a (sg_a Ω 4 (upd (Ω 4) ((5 : Int32)).toNatClampNeg (((Ω 4) ((5 : Int32)).toNatClampNeg) + (1 : Int32)))) 4 (upd (upd (Ω 4) ((5 : Int32)).toNatClampNeg (((Ω 4) ((5 : Int32)).toNatClampNeg) + (1 : Int32))) ((6 : Int32)).toNatClampNeg (0 : Int32))) 4 (upd (upd (upd (Ω 4) ((5 : Int32)).toNatClampNeg (((Ω 4) ((5 : Int32)).toNatClampNeg) + (1 : Int32))) ((6 : Int32)).toNatClampNeg (0 : Int32)) ((10 : Int32)).toNatClampNeg (0 : Int32))) q_3 e_4 (fun H locs ls Y hl => ?_) _ _ _ Y (lv_sub hl [1, 2, 3, 4, 0] rfl)
  refine lv_iconst (v := (0 : Int32)) hx hb dL_end_43 (by decide) ?_
  refine lv_istore (lv' := [(4, .int (0 : Int32)), (0, .ref (g 1)), (1, .ref (g 2)), (2, .ref (g 3)), (3, .ref (g 4))]) hx hb dL_end_44 hl (Nat.le_of_ble_eq_true rfl) rfl (fun ls hl => ?_)
  obtain ⟨q_15, e_16, hrun⟩ := o_bh hrun
  refine lp46 70 (0 : Int32) q_3 q_15 e_16 (fun H locs ls Y hl => ?_) _ _ _ Y (lv_sub hl [1, 2, 3, 4, 0] rfl)
  cases hrun
  exact me_rv S hK Y hr hlk dL_end_127
def fL_ahead (a1 a2 : Int32) (Ω : sg_T) : Option (Int32) := (o_x ((6 : Int32) * a1) 48 (o_x ((6 : Int32) * a2) 48 (o_x (((6 : Int32) * a2) + (3 : Int32)) 48 (o_x (((6 : Int32) * a1) + (3 : Int32)) 48 (if 0 < (((Ω 1) (((6 : Int32) * a1)).toNatClampNeg) - ((Ω 1) (((6 : Int32) * a2)).toNatClampNeg)) then (some (1 : Int32)) else (if (((Ω 1) (((6 : Int32) * a1)).toNatClampNeg) - ((Ω 1) (((6 : Int32) * a2)).toNatClampNeg)) = 0 then (if 0 < (((Ω 1) ((((6 : Int32) * a2) + (3 : Int32))).toNatClampNeg) - ((Ω 1) ((((6 : Int32) * a1) + (3 : Int32))).toNatClampNeg)) then (some (1 : Int32)) else (if (((Ω 1) ((((6 : Int32) * a2) + (3 : Int32))).toNatClampNeg) - ((Ω 1) ((((6 : Int32) * a1) + (3 : Int32))).toNatClampNeg)) = 0 then (if a2 ≤ a1 then (some (0 : Int32)) else (some (1 : Int32))) else (some (0 : Int32)))) else (some (0 : Int32))))))))
set_option maxRecDepth 100000 in
set_option maxHeartbeats 16000000 in
theorem mL_ahead (l : Launch) (D : va_G) (cI : ClassId) (g : Nat → Nat) (Ω : sg_T) (a1 a2 : Int32) (r : Int32) (hrun : fL_ahead a1 a2 Ω = some r) : me_I l D (tQ cI) yL_ahead cL_ahead 5 .boolean 0 0 (wQ cI g Ω) [.ref (g 1), .int a1, .int a2] r (wQ cI g Ω) := by
  refine me_ofI (plainFor_of_name (by decide)) (Nat.le_of_ble_eq_true rfl) ?_
  intro p e s m args below meth c A ls S hK Y hA hl hr hlk hZ
  have hx := S.1
  have hb := S.2.1
  have hl : lv_has ls 5 [(0, .ref (g 1)), (1, .int a1), (2, .int a2)] := hl
  unfold fL_ahead at hrun
  refine lv_aload_n hx hb dL_ahead_0 rfl (lv_at hl 0 rfl) ?_
  refine lv_bipush (v := (6 : Int32)) hx hb dL_ahead_1 (by decide) ?_
  refine lv_iload_n hx hb dL_ahead_3 rfl (lv_at hl 1 rfl) ?_
  refine lv_imul hx hb dL_ahead_4 ?_
  obtain ⟨b_1, hrun⟩ := o_xh hrun
  refine ia S hK Y 0 0 (f := (Ω 1)) rfl rfl b_1 dL_ahead_5 ?_
  refine lv_aload_n hx hb dL_ahead_6 rfl (lv_at hl 0 rfl) ?_
  refine lv_bipush (v := (6 : Int32)) hx hb dL_ahead_7 (by decide) ?_
  refine lv_iload_n hx hb dL_ahead_9 rfl (lv_at hl 2 rfl) ?_
  refine lv_imul hx hb dL_ahead_10 ?_
  obtain ⟨b_2, hrun⟩ := o_xh hrun
  refine ia S hK Y 0 0 (f := (Ω 1)) rfl rfl b_2 dL_ahead_11 ?_
  refine lv_isub hx hb dL_ahead_12 ?_
  refine lv_istore_n (lv' := [(3, .int (((Ω 1) (((6 : Int32) * a1)).toNatClampNeg) - ((Ω 1) (((6 : Int32) * a2)).toNatClampNeg))), (0, .ref (g 1)), (1, .int a1), (2, .int a2)]) hx hb dL_ahead_13 rfl hl (Nat.le_of_ble_eq_true rfl) rfl (fun ls hl => ?_)
  refine lv_aload_n hx hb dL_ahead_14 rfl (lv_at hl 1 rfl) ?_
  refine lv_bipush (v := (6 : Int32)) hx hb dL_ahead_15 (by decide) ?_
  refine lv_iload_n hx hb dL_ahead_17 rfl (lv_at hl 3 rfl) ?_
  refine lv_imul hx hb dL_ahead_18 ?_
  refine lv_iconst (v := (3 : Int32)) hx hb dL_ahead_19 (by decide) ?_
  refine lv_iadd hx hb dL_ahead_20 ?_
  obtain ⟨b_3, hrun⟩ := o_xh hrun
  refine ia S hK Y 0 0 (f := (Ω 1)) rfl rfl b_3 dL_ahead_21 ?_
  refine lv_aload_n hx hb dL_ahead_22 rfl (lv_at hl 1 rfl) ?_
  refine lv_bipush (v := (6 : Int32)) hx hb dL_ahead_23 (by decide) ?_
  refine lv_iload_n hx hb dL_ahead_25 rfl (lv_at hl 2 rfl) ?_
  refine lv_imul hx hb dL_ahead_26 ?_
  refine lv_iconst (v := (3 : Int32)) hx hb dL_ahead_27 (by decide) ?_
  refine lv_iadd hx hb dL_ahead_28 ?_
  obtain ⟨b_4, hrun⟩ := o_xh hrun
  refine ia S hK Y 0 0 (f := (Ω 1)) rfl rfl b_4 dL_ahead_29 ?_
  refine lv_isub hx hb dL_ahead_30 ?_
  refine lv_istore (lv' := [(4, .int (((Ω 1) ((((6 : Int32) * a2) + (3 : Int32))).toNatClampNeg) - ((Ω 1) ((((6 : Int32) * a1) + (3 : Int32))).toNatClampNeg))), (3, .int (((Ω 1) (((6 : Int32) * a1)).toNatClampNeg) - ((Ω 1) (((6 : Int32) * a2)).toNatClampNeg))), (0, .ref (g 1)), (1, .int a1), (2, .int a2)]) hx hb dL_ahead_31 hl (Nat.le_of_ble_eq_true rfl) rfl (fun ls hl => ?_)
  refine lv_iload_n hx hb dL_ahead_33 rfl (lv_at hl 1 rfl) ?_
  refine lv_if_gt (tgt := 56) hx hb dL_ahead_34 (by decide) (fun c_5 => ?_) (fun c_5 => ?_)
  · have hrun := o_t hrun c_5
    refine lv_iconst (v := (1 : Int32)) hx hb dL_ahead_56 (by decide) ?_
    refine lv_goto (tgt := 61) hx hb dL_ahead_57 (by decide) ?_
    cases hrun
    exact me_ri S hK Y hr hlk rfl dL_ahead_61
  · have hrun := o_f hrun c_5
    refine lv_iload_n hx hb dL_ahead_37 rfl (lv_at hl 1 rfl) ?_
    refine lv_if_ne (tgt := 60) hx hb dL_ahead_38 (by decide) (fun c_6 => ?_) (fun c_6 => ?_)
    · have hrun := o_f hrun c_6
      refine lv_iconst (v := (0 : Int32)) hx hb dL_ahead_60 (by decide) ?_
      cases hrun
      exact me_ri S hK Y hr hlk rfl dL_ahead_61
    · have hrun := o_t hrun c_6
      refine lv_iload hx hb dL_ahead_41 (lv_at hl 0 rfl) ?_
      refine lv_if_gt (tgt := 56) hx hb dL_ahead_43 (by decide) (fun c_7 => ?_) (fun c_7 => ?_)
      · have hrun := o_t hrun c_7
        refine lv_iconst (v := (1 : Int32)) hx hb dL_ahead_56 (by decide) ?_
        refine lv_goto (tgt := 61) hx hb dL_ahead_57 (by decide) ?_
        cases hrun
        exact me_ri S hK Y hr hlk rfl dL_ahead_61
      · have hrun := o_f hrun c_7
        refine lv_iload hx hb dL_ahead_46 (lv_at hl 0 rfl) ?_
        refine lv_if_ne (tgt := 60) hx hb dL_ahead_48 (by decide) (fun c_8 => ?_) (fun c_8 => ?_)
        · have hrun := o_f hrun c_8
          refine lv_iconst (v := (0 : Int32)) hx hb dL_ahead_60 (by decide) ?_
          cases hrun
          exact me_ri S hK Y hr hlk rfl dL_ahead_61
        · have hrun := o_t hrun c_8
          refine lv_iload_n hx hb dL_ahead_51 rfl (lv_at hl 3 rfl) ?_
          refine lv_iload_n hx hb dL_ahead_52 rfl (lv_at hl 4 rfl) ?_
          refine lv_icmp_ge (tgt := 60) hx hb dL_ahead_53 (by decide) (fun c_9 => ?_) (fun c_9 => ?_)
          · have hrun := o_t hrun c_9
            refine lv_iconst (v := (0 : Int32)) hx hb dL_ahead_60 (by decide) ?_
            cases hrun
            exact me_ri S hK Y hr hlk rfl dL_ahead_61
          · have hrun := o_f hrun c_9
            refine lv_iconst (v := (1 : Int32)) hx hb dL_ahead_56 (by decide) ?_
            refine lv_goto (tgt := 61) hx hb dL_ahead_57 (by decide) ?_
            cases hrun
            exact me_ri S hK Y hr hlk rfl dL_ahead_61
def lL_steps_65 : Nat → Int32 → Int32 → Int32 → Int32 → Int32 → Int32 → Int32 → Int32 → (sg_T) → Option (Int32)
  | 0, _, _, _, _, _, _, _, _, _ => none
  | n + 1, a2, a3, a4, a5, a6, a7, a8, a9, Ω => (if (a4 + a5) < a9 then (some a8) else ((if a4 < a9 then (some (a3 * (a4 - (a9 - a4)))) else (some (a3 * a9))).bind fun q_12 => ((if a8 = 0 then (o_x (((6 : Int32) * a7) + (5 : Int32)) 48 ((fL_apart (((((Ω 4) ((9 : Int32)).toNatClampNeg) + q_12) + (64 : Int32)) - ((((Ω 4) ((9 : Int32)).toNatClampNeg) + q_12) + (64 : Int32)) / (16 : Int32) * (16 : Int32)) ((Ω 1) ((((6 : Int32) * a7) + (5 : Int32))).toNatClampNeg)).bind fun r_20 => (if ((Ω 4) ((0 : Int32)).toNatClampNeg) < r_20 then (some (0 : Int32)) else (some (1 : Int32))))) else (some (1 : Int32))).bind fun q_16 => (lL_steps_65 n a2 a3 a4 a5 a6 a7 q_16 (a9 + (1 : Int32)) Ω))))
def lL_steps_36 : Nat → Int32 → Int32 → Int32 → Int32 → Int32 → Int32 → (sg_T) → Option (Int32)
  | 0, _, _, _, _, _, _, _ => none
  | n + 1, a2, a3, a4, a5, a6, a7, Ω => (if (8 : Int32) ≤ a7 then (some a6) else (o_x (((6 : Int32) * a7) + (5 : Int32)) 48 ((if 0 ≤ ((Ω 1) ((((6 : Int32) * a7) + (5 : Int32))).toNatClampNeg) then (some (0 : Int32)) else (some (1 : Int32))).bind fun q_7 => ((lL_steps_65 70 a2 a3 a4 a5 a6 a7 q_7 (0 : Int32) Ω).bind fun q_23 => ((if a6 = 0 then (some (0 : Int32)) else (if q_23 = 0 then (some (0 : Int32)) else (some (1 : Int32)))).bind fun q_26 => (lL_steps_36 n a2 a3 a4 a5 q_26 (a7 + (1 : Int32)) Ω))))))
def lL_steps_23 : Nat → Int32 → Int32 → Int32 → Int32 → (sg_T) → Option (Int32)
  | 0, _, _, _, _, _ => none
  | n + 1, a2, a3, a4, a5, Ω => (if (34 : Int32) ≤ a5 then (some a2) else ((lL_steps_36 70 a2 a3 a4 a5 (1 : Int32) (0 : Int32) Ω).bind fun q_30 => ((if q_30 = 0 then (some a2) else (if a2 ≤ (a4 + a5) then (some a2) else (some (a4 + a5)))).bind fun q_33 => ((if q_30 = 0 then (some a5) else (some (34 : Int32))).bind fun q_37 => (lL_steps_23 n q_33 a3 a4 (q_37 + (1 : Int32)) Ω)))))
def lL_steps_13 : Nat → Int32 → Int32 → Int32 → (sg_T) → Option (Int32)
  | 0, _, _, _, _ => none
  | n + 1, a2, a3, a4, Ω => (if (17 : Int32) ≤ a4 then (some a2) else ((lL_steps_23 70 a2 a3 a4 (0 : Int32) Ω).bind fun q_41 => (lL_steps_13 n q_41 a3 (a4 + (1 : Int32)) Ω)))
def lL_steps_5 : Nat → Int32 → Int32 → (sg_T) → Option (Int32)
  | 0, _, _, _ => none
  | n + 1, a2, a3, Ω => (if (2 : Int32) ≤ a3 then (some a2) else ((lL_steps_13 70 a2 a3 (0 : Int32) Ω).bind fun q_43 => (lL_steps_5 n q_43 (a3 + (2 : Int32)) Ω)))
def fL_steps (Ω : sg_T) : Option (Int32) := ((lL_steps_5 70 (99 : Int32) (-1 : Int32) Ω).bind fun q_45 => (some q_45))
set_option maxRecDepth 100000 in
set_option maxHeartbeats 16000000 in
theorem mL_steps (l : Launch) (D : va_G) (cI : ClassId) (g : Nat → Nat) (Ω : sg_T) (r : Int32) (hrun : fL_steps Ω = some r) : me_I l D (tQ cI) yL_steps cL_steps 11 .int 1 22 (wQ cI g Ω) [.ref (g 1), .ref (g 4)] r (wQ cI g Ω) := by
  refine me_ofI (plainFor_of_name (by decide)) (Nat.le_of_ble_eq_true rfl) ?_
  intro p e s m args below meth c A ls S hK Y hA hl hr hlk hZ
  have hx := S.1
  have hb := S.2.1
  have hl : lv_has ls 11 [(0, .ref (g 1)), (1, .ref (g 4))] := hl
  have lp65 : ∀ (n : Nat) (a2 : Int32) (a3 : Int32) (a4 : Int32) (a5 : Int32) (a6 : Int32) (a7 : Int32) (a8 : Int32) (a9 : Int32) (Ω : sg_T) (q_x : Int32), lL_steps_65 n a2 a3 a4 a5 a6 a7 a8 a9 Ω = some q_x → (∀ (H : Heap) (locs : List Loc) (ls : Array Slot), dy_ D A s (wQ cI g Ω) H locs → lv_has ls 11 [(0, .ref (g 1)), (1, .ref (g 4)), (2, .int a2), (3, .int a3), (4, .int a4), (5, .int a5), (6, .int a6), (7, .int a7), (8, .int q_x)] → W p l e (rm_ 1 22) s m args below meth c H locs 0 0 (MQ below (me_Qi D (tQ cI) A r (wQ cI g Ω)) args s 0 0 A) (F0 m 150 ls [])) → ∀ (H : Heap) (locs : List Loc) (ls : Array Slot), dy_ D A s (wQ cI g Ω) H locs → lv_has ls 11 [(0, .ref (g 1)), (1, .ref (g 4)), (2, .int a2), (3, .int a3), (4, .int a4), (5, .int a5), (6, .int a6), (7, .int a7), (8, .int a8), (9, .int a9)] → W p l e (rm_ 1 22) s m args below meth c H locs 0 0 (MQ below (me_Qi D (tQ cI) A r (wQ cI g Ω)) args s 0 0 A) (F0 m 65 ls []) := by
    intro n
    induction n with
    | zero => intro a2 a3 a4 a5 a6 a7 a8 a9 Ω q_x hrun; cases hrun
    | succ n ih =>
      intro a2 a3 a4 a5 a6 a7 a8 a9 Ω q_x hrun kx H locs ls Y hl
      unfold lL_steps_65 at hrun
      refine lv_iload hx hb dL_steps_65 (lv_at hl 9 rfl) ?_
      refine lv_iload hx hb dL_steps_67 (lv_at hl 4 rfl) ?_
      refine lv_iload hx hb dL_steps_69 (lv_at hl 5 rfl) ?_
      refine lv_iadd hx hb dL_steps_71 ?_
      refine lv_icmp_gt (tgt := 150) hx hb dL_steps_72 (by decide) (fun c_10 => ?_) (fun c_10 => ?_)
      · have hrun := o_t hrun c_10
        cases hrun
        exact kx _ _ _ Y (lv_sub hl [0, 1, 2, 3, 4, 5, 6, 7, 8] rfl)
      · have hrun := o_f hrun c_10
        refine lv_iload hx hb dL_steps_75 (lv_at hl 9 rfl) ?_
        refine lv_iload hx hb dL_steps_77 (lv_at hl 4 rfl) ?_
        obtain ⟨q_12, e_13, hrun⟩ := o_bh hrun
        have kx14 : ∀ (H : Heap) (locs : List Loc) (ls : Array Slot), dy_ D A s (wQ cI g Ω) H locs → lv_has ls 11 [(0, .ref (g 1)), (1, .ref (g 4)), (2, .int a2), (3, .int a3), (4, .int a4), (5, .int a5), (6, .int a6), (7, .int a7), (8, .int a8), (9, .int a9)] → W p l e (rm_ 1 22) s m args below meth c H locs 0 0 (MQ below (me_Qi D (tQ cI) A r (wQ cI g Ω)) args s 0 0 A) (F0 m 99 ls [.int q_12]) := by
          intro H locs ls Y hl
          refine lv_istore (lv' := [(10, .int q_12), (0, .ref (g 1)), (1, .ref (g 4)), (2, .int a2), (3, .int a3), (4, .int a4), (5, .int a5), (6, .int a6), (7, .int a7), (8, .int a8), (9, .int a9)]) hx hb dL_steps_99 hl (Nat.le_of_ble_eq_true rfl) rfl (fun ls hl => ?_)
          refine lv_iload hx hb dL_steps_101 (lv_at hl 9 rfl) ?_
          obtain ⟨q_16, e_17, hrun⟩ := o_bh hrun
          have kx18 : ∀ (H : Heap) (locs : List Loc) (ls : Array Slot), dy_ D A s (wQ cI g Ω) H locs → lv_has ls 11 [(0, .ref (g 1)), (1, .ref (g 4)), (2, .int a2), (3, .int a3), (4, .int a4), (5, .int a5), (6, .int a6), (7, .int a7), (9, .int a9)] → W p l e (rm_ 1 22) s m args below meth c H locs 0 0 (MQ below (me_Qi D (tQ cI) A r (wQ cI g Ω)) args s 0 0 A) (F0 m 142 ls [.int q_16]) := by
            intro H locs ls Y hl
            refine lv_istore (lv' := [(8, .int q_16), (0, .ref (g 1)), (1, .ref (g 4)), (2, .int a2), (3, .int a3), (4, .int a4), (5, .int a5), (6, .int a6), (7, .int a7), (9, .int a9)]) hx hb dL_steps_142 hl (Nat.le_of_ble_eq_true rfl) rfl (fun ls hl => ?_)
            refine lv_iinc (v := (a9 + (1 : Int32))) (lv' := [(9, .int (a9 + (1 : Int32))), (8, .int q_16), (0, .ref (g 1)), (1, .ref (g 4)), (2, .int a2), (3, .int a3), (4, .int a4), (5, .int a5), (6, .int a6), (7, .int a7)]) hx hb dL_steps_144 hl (k := 9) rfl (by rfl) (Nat.le_of_ble_eq_true rfl) rfl (fun ls hl => ?_)
            refine lv_goto (tgt := 65) hx hb dL_steps_147 (by decide) ?_
            exact ih a2 a3 a4 a5 a6 a7 q_16 (a9 + (1 : Int32)) Ω q_x hrun kx _ _ _ Y (lv_sub hl [2, 3, 4, 5, 6, 7, 8, 9, 1, 0] rfl)
          have hrun := e_17
          refine lv_if_ne (tgt := 137) hx hb dL_steps_103 (by decide) (fun c_15 => ?_) (fun c_15 => ?_)
          · have hrun := o_f hrun c_15
            refine lv_iconst (v := (1 : Int32)) hx hb dL_steps_137 (by decide) ?_
            refine lv_goto (tgt := 142) hx hb dL_steps_138 (by decide) ?_
            cases hrun
            exact kx18 _ _ _ Y (lv_sub hl [1, 2, 3, 4, 5, 6, 7, 8, 10] rfl)
          · have hrun := o_t hrun c_15
            refine lv_aload_n hx hb dL_steps_106 rfl (lv_at hl 2 rfl) ?_
            refine lv_bipush (v := (9 : Int32)) hx hb dL_steps_107 (by decide) ?_
            refine ia S hK Y 3 0 (f := (Ω 4)) rfl rfl (show ¬ ((9 : Int32) < 0 ∨ 11 ≤ ((9 : Int32)).toNatClampNeg) by decide) dL_steps_109 ?_
            refine lv_iload hx hb dL_steps_110 (lv_at hl 0 rfl) ?_
            refine lv_iadd hx hb dL_steps_112 ?_
            refine lv_bipush (v := (64 : Int32)) hx hb dL_steps_113 (by decide) ?_
            refine lv_iadd hx hb dL_steps_115 ?_
            refine lv_bipush (v := (16 : Int32)) hx hb dL_steps_116 (by decide) ?_
            refine lv_irem hx hb dL_steps_118 (by decide) ?_
            refine lv_aload_n hx hb dL_steps_119 rfl (lv_at hl 1 rfl) ?_
            refine lv_bipush (v := (6 : Int32)) hx hb dL_steps_120 (by decide) ?_
            refine lv_iload hx hb dL_steps_122 (lv_at hl 8 rfl) ?_
            refine lv_imul hx hb dL_steps_124 ?_
            refine lv_iconst (v := (5 : Int32)) hx hb dL_steps_125 (by decide) ?_
            refine lv_iadd hx hb dL_steps_126 ?_
            obtain ⟨b_19, hrun⟩ := o_xh hrun
            refine ia S hK Y 0 0 (f := (Ω 1)) rfl rfl b_19 dL_steps_127 ?_
            obtain ⟨r_20, e_21, hrun⟩ := o_bh hrun
            refine cp_s (As := [.int (((((Ω 4) ((9 : Int32)).toNatClampNeg) + q_12) + (64 : Int32)) - ((((Ω 4) ((9 : Int32)).toNatClampNeg) + q_12) + (64 : Int32)) / (16 : Int32) * (16 : Int32)), .int ((Ω 1) ((((6 : Int32) * a7) + (5 : Int32))).toNatClampNeg)]) (rest := []) S hK hA hZ Y hl.1 (mL_apart l D (((((Ω 4) ((9 : Int32)).toNatClampNeg) + q_12) + (64 : Int32)) - ((((Ω 4) ((9 : Int32)).toNatClampNeg) + q_12) + (64 : Int32)) / (16 : Int32) * (16 : Int32)) ((Ω 1) ((((6 : Int32) * a7) + (5 : Int32))).toNatClampNeg) r_20 e_21) kL_10 ⟨Nat.le_of_ble_eq_true rfl, Nat.le_of_ble_eq_true rfl⟩ rfl rfl (Nat.le_of_ble_eq_true rfl) ⟨Nat.le_of_ble_eq_true rfl, Nat.le_of_ble_eq_true rfl⟩ dL_steps_128 (fun H locs Y => ?_)
            refine lv_aload_n hx hb dL_steps_131 rfl (lv_at hl 2 rfl) ?_
            refine lv_iconst (v := (0 : Int32)) hx hb dL_steps_132 (by decide) ?_
            refine ia S hK Y 3 0 (f := (Ω 4)) rfl rfl (show ¬ ((0 : Int32) < 0 ∨ 11 ≤ ((0 : Int32)).toNatClampNeg) by decide) dL_steps_133 ?_
            refine lv_icmp_gt (tgt := 141) hx hb dL_steps_134 (by decide) (fun c_22 => ?_) (fun c_22 => ?_)
            · have hrun := o_t hrun c_22
              refine lv_iconst (v := (0 : Int32)) hx hb dL_steps_141 (by decide) ?_
              cases hrun
              exact kx18 _ _ _ Y (lv_sub hl [1, 2, 3, 4, 5, 6, 7, 8, 10] rfl)
            · have hrun := o_f hrun c_22
              refine lv_iconst (v := (1 : Int32)) hx hb dL_steps_137 (by decide) ?_
              refine lv_goto (tgt := 142) hx hb dL_steps_138 (by decide) ?_
              cases hrun
              exact kx18 _ _ _ Y (lv_sub hl [1, 2, 3, 4, 5, 6, 7, 8, 10] rfl)
        have hrun := e_13
        refine lv_icmp_gt (tgt := 89) hx hb dL_steps_79 (by decide) (fun c_11 => ?_) (fun c_11 => ?_)
        · have hrun := o_t hrun c_11
          refine lv_iload_n hx hb dL_steps_89 rfl (lv_at hl 3 rfl) ?_
          refine lv_iload hx hb dL_steps_90 (lv_at hl 4 rfl) ?_
          refine lv_iload hx hb dL_steps_92 (lv_at hl 9 rfl) ?_
          refine lv_iload hx hb dL_steps_94 (lv_at hl 4 rfl) ?_
          refine lv_isub hx hb dL_steps_96 ?_
          refine lv_isub hx hb dL_steps_97 ?_
          refine lv_imul hx hb dL_steps_98 ?_
          cases hrun
          exact kx14 _ _ _ Y (lv_sub hl [0, 1, 2, 3, 4, 5, 6, 7, 8, 9] rfl)
        · have hrun := o_f hrun c_11
          refine lv_iload_n hx hb dL_steps_82 rfl (lv_at hl 3 rfl) ?_
          refine lv_iload hx hb dL_steps_83 (lv_at hl 9 rfl) ?_
          refine lv_imul hx hb dL_steps_85 ?_
          refine lv_goto (tgt := 99) hx hb dL_steps_86 (by decide) ?_
          cases hrun
          exact kx14 _ _ _ Y (lv_sub hl [0, 1, 2, 3, 4, 5, 6, 7, 8, 9] rfl)
  have lp36 : ∀ (n : Nat) (a2 : Int32) (a3 : Int32) (a4 : Int32) (a5 : Int32) (a6 : Int32) (a7 : Int32) (Ω : sg_T) (q_x : Int32), lL_steps_36 n a2 a3 a4 a5 a6 a7 Ω = some q_x → (∀ (H : Heap) (locs : List Loc) (ls : Array Slot), dy_ D A s (wQ cI g Ω) H locs → lv_has ls 11 [(0, .ref (g 1)), (1, .ref (g 4)), (2, .int a2), (3, .int a3), (4, .int a4), (5, .int a5), (6, .int q_x)] → W p l e (rm_ 1 22) s m args below meth c H locs 0 0 (MQ below (me_Qi D (tQ cI) A r (wQ cI g Ω)) args s 0 0 A) (F0 m 173 ls [])) → ∀ (H : Heap) (locs : List Loc) (ls : Array Slot), dy_ D A s (wQ cI g Ω) H locs → lv_has ls 11 [(0, .ref (g 1)), (1, .ref (g 4)), (2, .int a2), (3, .int a3), (4, .int a4), (5, .int a5), (6, .int a6), (7, .int a7)] → W p l e (rm_ 1 22) s m args below meth c H locs 0 0 (MQ below (me_Qi D (tQ cI) A r (wQ cI g Ω)) args s 0 0 A) (F0 m 36 ls []) := by
    intro n
    induction n with
    | zero => intro a2 a3 a4 a5 a6 a7 Ω q_x hrun; cases hrun
    | succ n ih =>
      intro a2 a3 a4 a5 a6 a7 Ω q_x hrun kx H locs ls Y hl
      unfold lL_steps_36 at hrun
      refine lv_iload hx hb dL_steps_36 (lv_at hl 7 rfl) ?_
      refine lv_bipush (v := (8 : Int32)) hx hb dL_steps_38 (by decide) ?_
      refine lv_icmp_ge (tgt := 173) hx hb dL_steps_40 (by decide) (fun c_4 => ?_) (fun c_4 => ?_)
      · have hrun := o_t hrun c_4
        cases hrun
        exact kx _ _ _ Y (lv_sub hl [0, 1, 2, 3, 4, 5, 6] rfl)
      · have hrun := o_f hrun c_4
        refine lv_aload_n hx hb dL_steps_43 rfl (lv_at hl 0 rfl) ?_
        refine lv_bipush (v := (6 : Int32)) hx hb dL_steps_44 (by decide) ?_
        refine lv_iload hx hb dL_steps_46 (lv_at hl 7 rfl) ?_
        refine lv_imul hx hb dL_steps_48 ?_
        refine lv_iconst (v := (5 : Int32)) hx hb dL_steps_49 (by decide) ?_
        refine lv_iadd hx hb dL_steps_50 ?_
        obtain ⟨b_5, hrun⟩ := o_xh hrun
        refine ia S hK Y 0 0 (f := (Ω 1)) rfl rfl b_5 dL_steps_51 ?_
        obtain ⟨q_7, e_8, hrun⟩ := o_bh hrun
        have kx9 : ∀ (H : Heap) (locs : List Loc) (ls : Array Slot), dy_ D A s (wQ cI g Ω) H locs → lv_has ls 11 [(0, .ref (g 1)), (1, .ref (g 4)), (2, .int a2), (3, .int a3), (4, .int a4), (5, .int a5), (6, .int a6), (7, .int a7)] → W p l e (rm_ 1 22) s m args below meth c H locs 0 0 (MQ below (me_Qi D (tQ cI) A r (wQ cI g Ω)) args s 0 0 A) (F0 m 60 ls [.int q_7]) := by
          intro H locs ls Y hl
          refine lv_istore (lv' := [(8, .int q_7), (0, .ref (g 1)), (1, .ref (g 4)), (2, .int a2), (3, .int a3), (4, .int a4), (5, .int a5), (6, .int a6), (7, .int a7)]) hx hb dL_steps_60 hl (Nat.le_of_ble_eq_true rfl) rfl (fun ls hl => ?_)
          refine lv_iconst (v := (0 : Int32)) hx hb dL_steps_62 (by decide) ?_
          refine lv_istore (lv' := [(9, .int (0 : Int32)), (8, .int q_7), (0, .ref (g 1)), (1, .ref (g 4)), (2, .int a2), (3, .int a3), (4, .int a4), (5, .int a5), (6, .int a6), (7, .int a7)]) hx hb dL_steps_63 hl (Nat.le_of_ble_eq_true rfl) rfl (fun ls hl => ?_)
          obtain ⟨q_23, e_24, hrun⟩ := o_bh hrun
          refine lp65 70 a2 a3 a4 a5 a6 a7 q_7 (0 : Int32) Ω q_23 e_24 (fun H locs ls Y hl => ?_) _ _ _ Y (lv_sub hl [2, 3, 4, 5, 6, 7, 8, 9, 1, 0] rfl)
          refine lv_iload hx hb dL_steps_150 (lv_at hl 6 rfl) ?_
          obtain ⟨q_26, e_27, hrun⟩ := o_bh hrun
          have kx28 : ∀ (H : Heap) (locs : List Loc) (ls : Array Slot), dy_ D A s (wQ cI g Ω) H locs → lv_has ls 11 [(0, .ref (g 1)), (1, .ref (g 4)), (2, .int a2), (3, .int a3), (4, .int a4), (5, .int a5), (7, .int a7)] → W p l e (rm_ 1 22) s m args below meth c H locs 0 0 (MQ below (me_Qi D (tQ cI) A r (wQ cI g Ω)) args s 0 0 A) (F0 m 165 ls [.int q_26]) := by
            intro H locs ls Y hl
            refine lv_istore (lv' := [(6, .int q_26), (0, .ref (g 1)), (1, .ref (g 4)), (2, .int a2), (3, .int a3), (4, .int a4), (5, .int a5), (7, .int a7)]) hx hb dL_steps_165 hl (Nat.le_of_ble_eq_true rfl) rfl (fun ls hl => ?_)
            refine lv_iinc (v := (a7 + (1 : Int32))) (lv' := [(7, .int (a7 + (1 : Int32))), (6, .int q_26), (0, .ref (g 1)), (1, .ref (g 4)), (2, .int a2), (3, .int a3), (4, .int a4), (5, .int a5)]) hx hb dL_steps_167 hl (k := 7) rfl (by rfl) (Nat.le_of_ble_eq_true rfl) rfl (fun ls hl => ?_)
            refine lv_goto (tgt := 36) hx hb dL_steps_170 (by decide) ?_
            exact ih a2 a3 a4 a5 q_26 (a7 + (1 : Int32)) Ω q_x hrun kx _ _ _ Y (lv_sub hl [2, 3, 4, 5, 6, 7, 1, 0] rfl)
          have hrun := e_27
          refine lv_if_eq (tgt := 164) hx hb dL_steps_152 (by decide) (fun c_25 => ?_) (fun c_25 => ?_)
          · have hrun := o_t hrun c_25
            refine lv_iconst (v := (0 : Int32)) hx hb dL_steps_164 (by decide) ?_
            cases hrun
            exact kx28 _ _ _ Y (lv_sub hl [0, 1, 2, 3, 4, 5, 7] rfl)
          · have hrun := o_f hrun c_25
            refine lv_iload hx hb dL_steps_155 (lv_at hl 8 rfl) ?_
            refine lv_if_eq (tgt := 164) hx hb dL_steps_157 (by decide) (fun c_29 => ?_) (fun c_29 => ?_)
            · have hrun := o_t hrun c_29
              refine lv_iconst (v := (0 : Int32)) hx hb dL_steps_164 (by decide) ?_
              cases hrun
              exact kx28 _ _ _ Y (lv_sub hl [0, 1, 2, 3, 4, 5, 7] rfl)
            · have hrun := o_f hrun c_29
              refine lv_iconst (v := (1 : Int32)) hx hb dL_steps_160 (by decide) ?_
              refine lv_goto (tgt := 165) hx hb dL_steps_161 (by decide) ?_
              cases hrun
              exact kx28 _ _ _ Y (lv_sub hl [0, 1, 2, 3, 4, 5, 7] rfl)
        have hrun := e_8
        refine lv_if_ge (tgt := 59) hx hb dL_steps_52 (by decide) (fun c_6 => ?_) (fun c_6 => ?_)
        · have hrun := o_t hrun c_6
          refine lv_iconst (v := (0 : Int32)) hx hb dL_steps_59 (by decide) ?_
          cases hrun
          exact kx9 _ _ _ Y (lv_sub hl [0, 1, 2, 3, 4, 5, 6, 7] rfl)
        · have hrun := o_f hrun c_6
          refine lv_iconst (v := (1 : Int32)) hx hb dL_steps_55 (by decide) ?_
          refine lv_goto (tgt := 60) hx hb dL_steps_56 (by decide) ?_
          cases hrun
          exact kx9 _ _ _ Y (lv_sub hl [0, 1, 2, 3, 4, 5, 6, 7] rfl)
  have lp23 : ∀ (n : Nat) (a2 : Int32) (a3 : Int32) (a4 : Int32) (a5 : Int32) (Ω : sg_T) (q_x : Int32), lL_steps_23 n a2 a3 a4 a5 Ω = some q_x → (∀ (H : Heap) (locs : List Loc) (ls : Array Slot), dy_ D A s (wQ cI g Ω) H locs → lv_has ls 11 [(0, .ref (g 1)), (1, .ref (g 4)), (2, .int q_x), (3, .int a3), (4, .int a4)] → W p l e (rm_ 1 22) s m args below meth c H locs 0 0 (MQ below (me_Qi D (tQ cI) A r (wQ cI g Ω)) args s 0 0 A) (F0 m 217 ls [])) → ∀ (H : Heap) (locs : List Loc) (ls : Array Slot), dy_ D A s (wQ cI g Ω) H locs → lv_has ls 11 [(0, .ref (g 1)), (1, .ref (g 4)), (2, .int a2), (3, .int a3), (4, .int a4), (5, .int a5)] → W p l e (rm_ 1 22) s m args below meth c H locs 0 0 (MQ below (me_Qi D (tQ cI) A r (wQ cI g Ω)) args s 0 0 A) (F0 m 23 ls []) := by
    intro n
    induction n with
    | zero => intro a2 a3 a4 a5 Ω q_x hrun; cases hrun
    | succ n ih =>
      intro a2 a3 a4 a5 Ω q_x hrun kx H locs ls Y hl
      unfold lL_steps_23 at hrun
      refine lv_iload hx hb dL_steps_23 (lv_at hl 5 rfl) ?_
      refine lv_bipush (v := (34 : Int32)) hx hb dL_steps_25 (by decide) ?_
      refine lv_icmp_ge (tgt := 217) hx hb dL_steps_27 (by decide) (fun c_3 => ?_) (fun c_3 => ?_)
      · have hrun := o_t hrun c_3
        cases hrun
        exact kx _ _ _ Y (lv_sub hl [0, 1, 2, 3, 4] rfl)
      · have hrun := o_f hrun c_3
        refine lv_iconst (v := (1 : Int32)) hx hb dL_steps_30 (by decide) ?_
        refine lv_istore (lv' := [(6, .int (1 : Int32)), (0, .ref (g 1)), (1, .ref (g 4)), (2, .int a2), (3, .int a3), (4, .int a4), (5, .int a5)]) hx hb dL_steps_31 hl (Nat.le_of_ble_eq_true rfl) rfl (fun ls hl => ?_)
        refine lv_iconst (v := (0 : Int32)) hx hb dL_steps_33 (by decide) ?_
        refine lv_istore (lv' := [(7, .int (0 : Int32)), (6, .int (1 : Int32)), (0, .ref (g 1)), (1, .ref (g 4)), (2, .int a2), (3, .int a3), (4, .int a4), (5, .int a5)]) hx hb dL_steps_34 hl (Nat.le_of_ble_eq_true rfl) rfl (fun ls hl => ?_)
        obtain ⟨q_30, e_31, hrun⟩ := o_bh hrun
        refine lp36 70 a2 a3 a4 a5 (1 : Int32) (0 : Int32) Ω q_30 e_31 (fun H locs ls Y hl => ?_) _ _ _ Y (lv_sub hl [2, 3, 4, 5, 6, 7, 1, 0] rfl)
        refine lv_iload hx hb dL_steps_173 (lv_at hl 6 rfl) ?_
        obtain ⟨q_33, e_34, hrun⟩ := o_bh hrun
        have kx35 : ∀ (H : Heap) (locs : List Loc) (ls : Array Slot), dy_ D A s (wQ cI g Ω) H locs → lv_has ls 11 [(0, .ref (g 1)), (1, .ref (g 4)), (3, .int a3), (4, .int a4), (5, .int a5), (6, .int q_30)] → W p l e (rm_ 1 22) s m args below meth c H locs 0 0 (MQ below (me_Qi D (tQ cI) A r (wQ cI g Ω)) args s 0 0 A) (F0 m 196 ls [.int q_33]) := by
          intro H locs ls Y hl
          refine lv_istore_n (lv' := [(2, .int q_33), (0, .ref (g 1)), (1, .ref (g 4)), (3, .int a3), (4, .int a4), (5, .int a5), (6, .int q_30)]) hx hb dL_steps_196 rfl hl (Nat.le_of_ble_eq_true rfl) rfl (fun ls hl => ?_)
          refine lv_iload hx hb dL_steps_197 (lv_at hl 6 rfl) ?_
          obtain ⟨q_37, e_38, hrun⟩ := o_bh hrun
          have kx39 : ∀ (H : Heap) (locs : List Loc) (ls : Array Slot), dy_ D A s (wQ cI g Ω) H locs → lv_has ls 11 [(0, .ref (g 1)), (1, .ref (g 4)), (2, .int q_33), (3, .int a3), (4, .int a4)] → W p l e (rm_ 1 22) s m args below meth c H locs 0 0 (MQ below (me_Qi D (tQ cI) A r (wQ cI g Ω)) args s 0 0 A) (F0 m 209 ls [.int q_37]) := by
            intro H locs ls Y hl
            refine lv_istore (lv' := [(5, .int q_37), (0, .ref (g 1)), (1, .ref (g 4)), (2, .int q_33), (3, .int a3), (4, .int a4)]) hx hb dL_steps_209 hl (Nat.le_of_ble_eq_true rfl) rfl (fun ls hl => ?_)
            refine lv_iinc (v := (q_37 + (1 : Int32))) (lv' := [(5, .int (q_37 + (1 : Int32))), (0, .ref (g 1)), (1, .ref (g 4)), (2, .int q_33), (3, .int a3), (4, .int a4)]) hx hb dL_steps_211 hl (k := 0) rfl (by rfl) (Nat.le_of_ble_eq_true rfl) rfl (fun ls hl => ?_)
            refine lv_goto (tgt := 23) hx hb dL_steps_214 (by decide) ?_
            exact ih q_33 a3 a4 (q_37 + (1 : Int32)) Ω q_x hrun kx _ _ _ Y (lv_sub hl [1, 2, 3, 4, 5, 0] rfl)
          have hrun := e_38
          refine lv_if_eq (tgt := 207) hx hb dL_steps_199 (by decide) (fun c_36 => ?_) (fun c_36 => ?_)
          · have hrun := o_t hrun c_36
            refine lv_iload hx hb dL_steps_207 (lv_at hl 5 rfl) ?_
            cases hrun
            exact kx39 _ _ _ Y (lv_sub hl [1, 2, 0, 3, 4] rfl)
          · have hrun := o_f hrun c_36
            refine lv_bipush (v := (34 : Int32)) hx hb dL_steps_202 (by decide) ?_
            refine lv_goto (tgt := 209) hx hb dL_steps_204 (by decide) ?_
            cases hrun
            exact kx39 _ _ _ Y (lv_sub hl [1, 2, 0, 3, 4] rfl)
        have hrun := e_34
        refine lv_if_eq (tgt := 195) hx hb dL_steps_175 (by decide) (fun c_32 => ?_) (fun c_32 => ?_)
        · have hrun := o_t hrun c_32
          refine lv_iload_n hx hb dL_steps_195 rfl (lv_at hl 2 rfl) ?_
          cases hrun
          exact kx35 _ _ _ Y (lv_sub hl [0, 1, 3, 4, 5, 6] rfl)
        · have hrun := o_f hrun c_32
          refine lv_iload hx hb dL_steps_178 (lv_at hl 4 rfl) ?_
          refine lv_iload hx hb dL_steps_180 (lv_at hl 5 rfl) ?_
          refine lv_iadd hx hb dL_steps_182 ?_
          refine lv_iload_n hx hb dL_steps_183 rfl (lv_at hl 2 rfl) ?_
          refine lv_icmp_ge (tgt := 195) hx hb dL_steps_184 (by decide) (fun c_40 => ?_) (fun c_40 => ?_)
          · have hrun := o_t hrun c_40
            refine lv_iload_n hx hb dL_steps_195 rfl (lv_at hl 2 rfl) ?_
            cases hrun
            exact kx35 _ _ _ Y (lv_sub hl [0, 1, 3, 4, 5, 6] rfl)
          · have hrun := o_f hrun c_40
            refine lv_iload hx hb dL_steps_187 (lv_at hl 4 rfl) ?_
            refine lv_iload hx hb dL_steps_189 (lv_at hl 5 rfl) ?_
            refine lv_iadd hx hb dL_steps_191 ?_
            refine lv_goto (tgt := 196) hx hb dL_steps_192 (by decide) ?_
            cases hrun
            exact kx35 _ _ _ Y (lv_sub hl [0, 1, 3, 4, 5, 6] rfl)
  have lp13 : ∀ (n : Nat) (a2 : Int32) (a3 : Int32) (a4 : Int32) (Ω : sg_T) (q_x : Int32), lL_steps_13 n a2 a3 a4 Ω = some q_x → (∀ (H : Heap) (locs : List Loc) (ls : Array Slot), dy_ D A s (wQ cI g Ω) H locs → lv_has ls 11 [(0, .ref (g 1)), (1, .ref (g 4)), (2, .int q_x), (3, .int a3)] → W p l e (rm_ 1 22) s m args below meth c H locs 0 0 (MQ below (me_Qi D (tQ cI) A r (wQ cI g Ω)) args s 0 0 A) (F0 m 223 ls [])) → ∀ (H : Heap) (locs : List Loc) (ls : Array Slot), dy_ D A s (wQ cI g Ω) H locs → lv_has ls 11 [(0, .ref (g 1)), (1, .ref (g 4)), (2, .int a2), (3, .int a3), (4, .int a4)] → W p l e (rm_ 1 22) s m args below meth c H locs 0 0 (MQ below (me_Qi D (tQ cI) A r (wQ cI g Ω)) args s 0 0 A) (F0 m 13 ls []) := by
    intro n
    induction n with
    | zero => intro a2 a3 a4 Ω q_x hrun; cases hrun
    | succ n ih =>
      intro a2 a3 a4 Ω q_x hrun kx H locs ls Y hl
      unfold lL_steps_13 at hrun
      refine lv_iload hx hb dL_steps_13 (lv_at hl 4 rfl) ?_
      refine lv_bipush (v := (17 : Int32)) hx hb dL_steps_15 (by decide) ?_
      refine lv_icmp_ge (tgt := 223) hx hb dL_steps_17 (by decide) (fun c_2 => ?_) (fun c_2 => ?_)
      · have hrun := o_t hrun c_2
        cases hrun
        exact kx _ _ _ Y (lv_sub hl [0, 1, 2, 3] rfl)
      · have hrun := o_f hrun c_2
        refine lv_iconst (v := (0 : Int32)) hx hb dL_steps_20 (by decide) ?_
        refine lv_istore (lv' := [(5, .int (0 : Int32)), (0, .ref (g 1)), (1, .ref (g 4)), (2, .int a2), (3, .int a3), (4, .int a4)]) hx hb dL_steps_21 hl (Nat.le_of_ble_eq_true rfl) rfl (fun ls hl => ?_)
        obtain ⟨q_41, e_42, hrun⟩ := o_bh hrun
        refine lp23 70 a2 a3 a4 (0 : Int32) Ω q_41 e_42 (fun H locs ls Y hl => ?_) _ _ _ Y (lv_sub hl [1, 2, 3, 4, 5, 0] rfl)
        refine lv_iinc (v := (a4 + (1 : Int32))) (lv' := [(4, .int (a4 + (1 : Int32))), (0, .ref (g 1)), (1, .ref (g 4)), (2, .int q_41), (3, .int a3)]) hx hb dL_steps_217 hl (k := 4) rfl (by rfl) (Nat.le_of_ble_eq_true rfl) rfl (fun ls hl => ?_)
        refine lv_goto (tgt := 13) hx hb dL_steps_220 (by decide) ?_
        exact ih q_41 a3 (a4 + (1 : Int32)) Ω q_x hrun kx _ _ _ Y (lv_sub hl [1, 2, 3, 4, 0] rfl)
  have lp5 : ∀ (n : Nat) (a2 : Int32) (a3 : Int32) (Ω : sg_T) (q_x : Int32), lL_steps_5 n a2 a3 Ω = some q_x → (∀ (H : Heap) (locs : List Loc) (ls : Array Slot), dy_ D A s (wQ cI g Ω) H locs → lv_has ls 11 [(0, .ref (g 1)), (1, .ref (g 4)), (2, .int q_x)] → W p l e (rm_ 1 22) s m args below meth c H locs 0 0 (MQ below (me_Qi D (tQ cI) A r (wQ cI g Ω)) args s 0 0 A) (F0 m 229 ls [])) → ∀ (H : Heap) (locs : List Loc) (ls : Array Slot), dy_ D A s (wQ cI g Ω) H locs → lv_has ls 11 [(0, .ref (g 1)), (1, .ref (g 4)), (2, .int a2), (3, .int a3)] → W p l e (rm_ 1 22) s m args below meth c H locs 0 0 (MQ below (me_Qi D (tQ cI) A r (wQ cI g Ω)) args s 0 0 A) (F0 m 5 ls []) := by
    intro n
    induction n with
    | zero => intro a2 a3 Ω q_x hrun; cases hrun
    | succ n ih =>
      intro a2 a3 Ω q_x hrun kx H locs ls Y hl
      unfold lL_steps_5 at hrun
      refine lv_iload_n hx hb dL_steps_5 rfl (lv_at hl 3 rfl) ?_
      refine lv_iconst (v := (2 : Int32)) hx hb dL_steps_6 (by decide) ?_
      refine lv_icmp_ge (tgt := 229) hx hb dL_steps_7 (by decide) (fun c_1 => ?_) (fun c_1 => ?_)
      · have hrun := o_t hrun c_1
        cases hrun
        exact kx _ _ _ Y (lv_sub hl [0, 1, 2] rfl)
      · have hrun := o_f hrun c_1
        refine lv_iconst (v := (0 : Int32)) hx hb dL_steps_10 (by decide) ?_
        refine lv_istore (lv' := [(4, .int (0 : Int32)), (0, .ref (g 1)), (1, .ref (g 4)), (2, .int a2), (3, .int a3)]) hx hb dL_steps_11 hl (Nat.le_of_ble_eq_true rfl) rfl (fun ls hl => ?_)
        obtain ⟨q_43, e_44, hrun⟩ := o_bh hrun
        refine lp13 70 a2 a3 (0 : Int32) Ω q_43 e_44 (fun H locs ls Y hl => ?_) _ _ _ Y (lv_sub hl [1, 2, 3, 4, 0] rfl)
        refine lv_iinc (v := (a3 + (2 : Int32))) (lv' := [(3, .int (a3 + (2 : Int32))), (0, .ref (g 1)), (1, .ref (g 4)), (2, .int q_43)]) hx hb dL_steps_223 hl (k := 3) rfl (by rfl) (Nat.le_of_ble_eq_true rfl) rfl (fun ls hl => ?_)
        refine lv_goto (tgt := 5) hx hb dL_steps_226 (by decide) ?_
        exact ih q_43 (a3 + (2 : Int32)) Ω q_x hrun kx _ _ _ Y (lv_sub hl [1, 2, 3, 0] rfl)
  unfold fL_steps at hrun
  refine lv_bipush (v := (99 : Int32)) hx hb dL_steps_0 (by decide) ?_
  refine lv_istore_n (lv' := [(2, .int (99 : Int32)), (0, .ref (g 1)), (1, .ref (g 4))]) hx hb dL_steps_2 rfl hl (Nat.le_of_ble_eq_true rfl) rfl (fun ls hl => ?_)
  refine lv_iconst (v := (-1 : Int32)) hx hb dL_steps_3 (by decide) ?_
  refine lv_istore_n (lv' := [(3, .int (-1 : Int32)), (2, .int (99 : Int32)), (0, .ref (g 1)), (1, .ref (g 4))]) hx hb dL_steps_4 rfl hl (Nat.le_of_ble_eq_true rfl) rfl (fun ls hl => ?_)
  obtain ⟨q_45, e_46, hrun⟩ := o_bh hrun
  refine lp5 70 (99 : Int32) (-1 : Int32) Ω q_45 e_46 (fun H locs ls Y hl => ?_) _ _ _ Y (lv_sub hl [2, 3, 1, 0] rfl)
  refine lv_iload_n hx hb dL_steps_229 rfl (lv_at hl 2 rfl) ?_
  cases hrun
  exact me_ri S hK Y hr hlk rfl dL_steps_230
end
