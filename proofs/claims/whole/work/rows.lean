section
-- ===== PART A: goes FIRST, ahead of the names: the tables' words, and 'selects' of the private methods out of them =====
/-- a private method of a class that the tables say can be made, by its rows of tables_1 -/
def lw_okq (q : MethodName × Nat) : Prop := (q.1.cls ≠ "java/lang/invoke/MethodHandle" ∧ q.1.cls ≠ "java/lang/invoke/VarHandle") ∧ Cond.instantiable q.1.cls q.2 ∈ tables_1 ∧ Cond.privateMethod q.1 ∈ tables_1 ∧ Cond.instanceMethod q.1 ∈ tables_1
theorem lw_p0 : lw_okq (⟨"SeekLeague$Past", "discardOldest", "()V"⟩, 2) := ⟨⟨by decide +kernel, by decide +kernel⟩, List.mem_of_getElem? (i := 123) (by decide +kernel), List.mem_of_getElem? (i := 197) (by decide +kernel), List.mem_of_getElem? (i := 198) (by decide +kernel)⟩
theorem lw_p1 : lw_okq (⟨"SeekLeague", "makeMoves", "()I"⟩, 5) := ⟨⟨by decide +kernel, by decide +kernel⟩, List.mem_of_getElem? (i := 15) (by decide +kernel), List.mem_of_getElem? (i := 493) (by decide +kernel), List.mem_of_getElem? (i := 494) (by decide +kernel)⟩
theorem lw_p2 : lw_okq (⟨"SeekLeague", "makeMove", "(I)I"⟩, 5) := ⟨⟨by decide +kernel, by decide +kernel⟩, List.mem_of_getElem? (i := 15) (by decide +kernel), List.mem_of_getElem? (i := 505) (by decide +kernel), List.mem_of_getElem? (i := 506) (by decide +kernel)⟩
theorem lw_p3 : lw_okq (⟨"SeekLeagueModel", "record", "()V"⟩, 11) := ⟨⟨by decide +kernel, by decide +kernel⟩, List.mem_of_getElem? (i := 527) (by decide +kernel), List.mem_of_getElem? (i := 580) (by decide +kernel), List.mem_of_getElem? (i := 581) (by decide +kernel)⟩
theorem lw_p4 : lw_okq (⟨"SeekLeagueModel", "hides", "(II)V"⟩, 11) := ⟨⟨by decide +kernel, by decide +kernel⟩, List.mem_of_getElem? (i := 527) (by decide +kernel), List.mem_of_getElem? (i := 602) (by decide +kernel), List.mem_of_getElem? (i := 603) (by decide +kernel)⟩
theorem lw_p5 : lw_okq (⟨"SeekLeagueModel", "isPlayer", "(I)Z"⟩, 11) := ⟨⟨by decide +kernel, by decide +kernel⟩, List.mem_of_getElem? (i := 527) (by decide +kernel), List.mem_of_getElem? (i := 610) (by decide +kernel), List.mem_of_getElem? (i := 611) (by decide +kernel)⟩
theorem lw_p6 : lw_okq (⟨"SeekLeagueModel", "adds", "(III)V"⟩, 11) := ⟨⟨by decide +kernel, by decide +kernel⟩, List.mem_of_getElem? (i := 527) (by decide +kernel), List.mem_of_getElem? (i := 614) (by decide +kernel), List.mem_of_getElem? (i := 615) (by decide +kernel)⟩
theorem lw_p7 : lw_okq (⟨"SeekLeagueModel", "isOpen", "(I)Z"⟩, 11) := ⟨⟨by decide +kernel, by decide +kernel⟩, List.mem_of_getElem? (i := 527) (by decide +kernel), List.mem_of_getElem? (i := 618) (by decide +kernel), List.mem_of_getElem? (i := 619) (by decide +kernel)⟩
theorem lw_p8 : lw_okq (⟨"SeekLeagueModel", "isGood", "(I)Z"⟩, 11) := ⟨⟨by decide +kernel, by decide +kernel⟩, List.mem_of_getElem? (i := 527) (by decide +kernel), List.mem_of_getElem? (i := 622) (by decide +kernel), List.mem_of_getElem? (i := 623) (by decide +kernel)⟩
theorem lw_p9 : lw_okq (⟨"SeekLeagueModel", "isRetired", "(I)Z"⟩, 11) := ⟨⟨by decide +kernel, by decide +kernel⟩, List.mem_of_getElem? (i := 527) (by decide +kernel), List.mem_of_getElem? (i := 629) (by decide +kernel), List.mem_of_getElem? (i := 630) (by decide +kernel)⟩
theorem lw_p10 : lw_okq (⟨"SeekLeagueModel", "ofSpot", "(II)I"⟩, 11) := ⟨⟨by decide +kernel, by decide +kernel⟩, List.mem_of_getElem? (i := 527) (by decide +kernel), List.mem_of_getElem? (i := 633) (by decide +kernel), List.mem_of_getElem? (i := 634) (by decide +kernel)⟩
theorem lw_p11 : lw_okq (⟨"SeekLeagueModel", "hidersAt", "(I)I"⟩, 11) := ⟨⟨by decide +kernel, by decide +kernel⟩, List.mem_of_getElem? (i := 527) (by decide +kernel), List.mem_of_getElem? (i := 637) (by decide +kernel), List.mem_of_getElem? (i := 638) (by decide +kernel)⟩
theorem lw_p12 : lw_okq (⟨"SeekLeagueModel", "of", "(II)I"⟩, 11) := ⟨⟨by decide +kernel, by decide +kernel⟩, List.mem_of_getElem? (i := 527) (by decide +kernel), List.mem_of_getElem? (i := 641) (by decide +kernel), List.mem_of_getElem? (i := 642) (by decide +kernel)⟩
theorem lw_p13 : lw_okq (⟨"SeekLeagueModel", "whyNotHide", "(II)I"⟩, 11) := ⟨⟨by decide +kernel, by decide +kernel⟩, List.mem_of_getElem? (i := 527) (by decide +kernel), List.mem_of_getElem? (i := 652) (by decide +kernel), List.mem_of_getElem? (i := 653) (by decide +kernel)⟩
theorem lw_p14 : lw_okq (⟨"SeekLeagueModel", "seeks", "()I"⟩, 11) := ⟨⟨by decide +kernel, by decide +kernel⟩, List.mem_of_getElem? (i := 527) (by decide +kernel), List.mem_of_getElem? (i := 663) (by decide +kernel), List.mem_of_getElem? (i := 664) (by decide +kernel)⟩
theorem lw_p15 : lw_okq (⟨"SeekLeagueModel", "hidden", "()I"⟩, 11) := ⟨⟨by decide +kernel, by decide +kernel⟩, List.mem_of_getElem? (i := 527) (by decide +kernel), List.mem_of_getElem? (i := 667) (by decide +kernel), List.mem_of_getElem? (i := 668) (by decide +kernel)⟩
def lw_privs_1 : List (MethodName × Nat) := [(⟨"SeekLeague$Past", "discardOldest", "()V"⟩, 2), (⟨"SeekLeague", "makeMoves", "()I"⟩, 5), (⟨"SeekLeague", "makeMove", "(I)I"⟩, 5), (⟨"SeekLeagueModel", "record", "()V"⟩, 11), (⟨"SeekLeagueModel", "hides", "(II)V"⟩, 11), (⟨"SeekLeagueModel", "isPlayer", "(I)Z"⟩, 11), (⟨"SeekLeagueModel", "adds", "(III)V"⟩, 11), (⟨"SeekLeagueModel", "isOpen", "(I)Z"⟩, 11), (⟨"SeekLeagueModel", "isGood", "(I)Z"⟩, 11), (⟨"SeekLeagueModel", "isRetired", "(I)Z"⟩, 11), (⟨"SeekLeagueModel", "ofSpot", "(II)I"⟩, 11), (⟨"SeekLeagueModel", "hidersAt", "(I)I"⟩, 11), (⟨"SeekLeagueModel", "of", "(II)I"⟩, 11), (⟨"SeekLeagueModel", "whyNotHide", "(II)I"⟩, 11), (⟨"SeekLeagueModel", "seeks", "()I"⟩, 11), (⟨"SeekLeagueModel", "hidden", "()I"⟩, 11)]
theorem lw_r1 : ∀ q ∈ lw_privs_1, lw_okq q := List.forall_mem_cons.mpr ⟨lw_p0, List.forall_mem_cons.mpr ⟨lw_p1, List.forall_mem_cons.mpr ⟨lw_p2, List.forall_mem_cons.mpr ⟨lw_p3, List.forall_mem_cons.mpr ⟨lw_p4, List.forall_mem_cons.mpr ⟨lw_p5, List.forall_mem_cons.mpr ⟨lw_p6, List.forall_mem_cons.mpr ⟨lw_p7, List.forall_mem_cons.mpr ⟨lw_p8, List.forall_mem_cons.mpr ⟨lw_p9, List.forall_mem_cons.mpr ⟨lw_p10, List.forall_mem_cons.mpr ⟨lw_p11, List.forall_mem_cons.mpr ⟨lw_p12, List.forall_mem_cons.mpr ⟨lw_p13, List.forall_mem_cons.mpr ⟨lw_p14, List.forall_mem_cons.mpr ⟨lw_p15, fun _ h => absurd h List.not_mem_nil⟩⟩⟩⟩⟩⟩⟩⟩⟩⟩⟩⟩⟩⟩⟩⟩
theorem lw_p16 : lw_okq (⟨"SeekLeagueModel", "endsIfEmpty", "()V"⟩, 11) := ⟨⟨by decide +kernel, by decide +kernel⟩, List.mem_of_getElem? (i := 527) (by decide +kernel), List.mem_of_getElem? (i := 671) (by decide +kernel), List.mem_of_getElem? (i := 672) (by decide +kernel)⟩
theorem lw_p17 : lw_okq (⟨"SeekLeagueModel", "ends", "()V"⟩, 11) := ⟨⟨by decide +kernel, by decide +kernel⟩, List.mem_of_getElem? (i := 527) (by decide +kernel), List.mem_of_getElem? (i := 675) (by decide +kernel), List.mem_of_getElem? (i := 676) (by decide +kernel)⟩
theorem lw_p18 : lw_okq (⟨"SeekLeagueModel", "walks", "(I)I"⟩, 11) := ⟨⟨by decide +kernel, by decide +kernel⟩, List.mem_of_getElem? (i := 527) (by decide +kernel), List.mem_of_getElem? (i := 683) (by decide +kernel), List.mem_of_getElem? (i := 684) (by decide +kernel)⟩
theorem lw_p19 : lw_okq (⟨"SeekLeagueModel", "whyNotCry", "(II)I"⟩, 11) := ⟨⟨by decide +kernel, by decide +kernel⟩, List.mem_of_getElem? (i := 527) (by decide +kernel), List.mem_of_getElem? (i := 691) (by decide +kernel), List.mem_of_getElem? (i := 692) (by decide +kernel)⟩
theorem lw_p20 : lw_okq (⟨"SeekLeagueModel", "cries", "(II)I"⟩, 11) := ⟨⟨by decide +kernel, by decide +kernel⟩, List.mem_of_getElem? (i := 527) (by decide +kernel), List.mem_of_getElem? (i := 695) (by decide +kernel), List.mem_of_getElem? (i := 696) (by decide +kernel)⟩
theorem lw_p21 : lw_okq (⟨"SeekLeagueModel", "finds", "(I)V"⟩, 11) := ⟨⟨by decide +kernel, by decide +kernel⟩, List.mem_of_getElem? (i := 527) (by decide +kernel), List.mem_of_getElem? (i := 699) (by decide +kernel), List.mem_of_getElem? (i := 700) (by decide +kernel)⟩
theorem lw_p22 : lw_okq (⟨"SeekLeagueModel", "escapes", "(II)V"⟩, 11) := ⟨⟨by decide +kernel, by decide +kernel⟩, List.mem_of_getElem? (i := 527) (by decide +kernel), List.mem_of_getElem? (i := 703) (by decide +kernel), List.mem_of_getElem? (i := 704) (by decide +kernel)⟩
theorem lw_p23 : lw_okq (⟨"SeekLeagueModel", "whyNotDash", "(I)I"⟩, 11) := ⟨⟨by decide +kernel, by decide +kernel⟩, List.mem_of_getElem? (i := 527) (by decide +kernel), List.mem_of_getElem? (i := 711) (by decide +kernel), List.mem_of_getElem? (i := 712) (by decide +kernel)⟩
theorem lw_p24 : lw_okq (⟨"SeekLeagueModel", "dashes", "(I)I"⟩, 11) := ⟨⟨by decide +kernel, by decide +kernel⟩, List.mem_of_getElem? (i := 527) (by decide +kernel), List.mem_of_getElem? (i := 715) (by decide +kernel), List.mem_of_getElem? (i := 716) (by decide +kernel)⟩
theorem lw_p25 : lw_okq (⟨"SeekLeagueModel", "isFaster", "(I)Z"⟩, 11) := ⟨⟨by decide +kernel, by decide +kernel⟩, List.mem_of_getElem? (i := 527) (by decide +kernel), List.mem_of_getElem? (i := 719) (by decide +kernel), List.mem_of_getElem? (i := 720) (by decide +kernel)⟩
theorem lw_p26 : lw_okq (⟨"SeekLeagueModel", "placeOf", "(I)I"⟩, 11) := ⟨⟨by decide +kernel, by decide +kernel⟩, List.mem_of_getElem? (i := 527) (by decide +kernel), List.mem_of_getElem? (i := 727) (by decide +kernel), List.mem_of_getElem? (i := 728) (by decide +kernel)⟩
theorem lw_p27 : lw_okq (⟨"SeekLeagueModel", "isBefore", "(II)Z"⟩, 11) := ⟨⟨by decide +kernel, by decide +kernel⟩, List.mem_of_getElem? (i := 527) (by decide +kernel), List.mem_of_getElem? (i := 731) (by decide +kernel), List.mem_of_getElem? (i := 732) (by decide +kernel)⟩
theorem lw_p28 : lw_okq (⟨"SeekLeagueModel", "retired", "()I"⟩, 11) := ⟨⟨by decide +kernel, by decide +kernel⟩, List.mem_of_getElem? (i := 527) (by decide +kernel), List.mem_of_getElem? (i := 751) (by decide +kernel), List.mem_of_getElem? (i := 752) (by decide +kernel)⟩
theorem lw_p29 : lw_okq (⟨"SeekLeagueModel", "sumOfPoints", "()I"⟩, 11) := ⟨⟨by decide +kernel, by decide +kernel⟩, List.mem_of_getElem? (i := 527) (by decide +kernel), List.mem_of_getElem? (i := 755) (by decide +kernel), List.mem_of_getElem? (i := 756) (by decide +kernel)⟩
theorem lw_p30 : lw_okq (⟨"SeekLeagueModel", "isBetter", "(II)Z"⟩, 11) := ⟨⟨by decide +kernel, by decide +kernel⟩, List.mem_of_getElem? (i := 527) (by decide +kernel), List.mem_of_getElem? (i := 771) (by decide +kernel), List.mem_of_getElem? (i := 772) (by decide +kernel)⟩
theorem lw_p31 : lw_okq (⟨"SeekLeagueModel", "seesAll", "(II)Z"⟩, 11) := ⟨⟨by decide +kernel, by decide +kernel⟩, List.mem_of_getElem? (i := 527) (by decide +kernel), List.mem_of_getElem? (i := 779) (by decide +kernel), List.mem_of_getElem? (i := 780) (by decide +kernel)⟩
def lw_privs_2 : List (MethodName × Nat) := [(⟨"SeekLeagueModel", "endsIfEmpty", "()V"⟩, 11), (⟨"SeekLeagueModel", "ends", "()V"⟩, 11), (⟨"SeekLeagueModel", "walks", "(I)I"⟩, 11), (⟨"SeekLeagueModel", "whyNotCry", "(II)I"⟩, 11), (⟨"SeekLeagueModel", "cries", "(II)I"⟩, 11), (⟨"SeekLeagueModel", "finds", "(I)V"⟩, 11), (⟨"SeekLeagueModel", "escapes", "(II)V"⟩, 11), (⟨"SeekLeagueModel", "whyNotDash", "(I)I"⟩, 11), (⟨"SeekLeagueModel", "dashes", "(I)I"⟩, 11), (⟨"SeekLeagueModel", "isFaster", "(I)Z"⟩, 11), (⟨"SeekLeagueModel", "placeOf", "(I)I"⟩, 11), (⟨"SeekLeagueModel", "isBefore", "(II)Z"⟩, 11), (⟨"SeekLeagueModel", "retired", "()I"⟩, 11), (⟨"SeekLeagueModel", "sumOfPoints", "()I"⟩, 11), (⟨"SeekLeagueModel", "isBetter", "(II)Z"⟩, 11), (⟨"SeekLeagueModel", "seesAll", "(II)Z"⟩, 11)]
theorem lw_r2 : ∀ q ∈ lw_privs_2, lw_okq q := List.forall_mem_cons.mpr ⟨lw_p16, List.forall_mem_cons.mpr ⟨lw_p17, List.forall_mem_cons.mpr ⟨lw_p18, List.forall_mem_cons.mpr ⟨lw_p19, List.forall_mem_cons.mpr ⟨lw_p20, List.forall_mem_cons.mpr ⟨lw_p21, List.forall_mem_cons.mpr ⟨lw_p22, List.forall_mem_cons.mpr ⟨lw_p23, List.forall_mem_cons.mpr ⟨lw_p24, List.forall_mem_cons.mpr ⟨lw_p25, List.forall_mem_cons.mpr ⟨lw_p26, List.forall_mem_cons.mpr ⟨lw_p27, List.forall_mem_cons.mpr ⟨lw_p28, List.forall_mem_cons.mpr ⟨lw_p29, List.forall_mem_cons.mpr ⟨lw_p30, List.forall_mem_cons.mpr ⟨lw_p31, fun _ h => absurd h List.not_mem_nil⟩⟩⟩⟩⟩⟩⟩⟩⟩⟩⟩⟩⟩⟩⟩⟩
theorem lw_p32 : lw_okq (⟨"SeekLeagueModel", "readMove", "()V"⟩, 11) := ⟨⟨by decide +kernel, by decide +kernel⟩, List.mem_of_getElem? (i := 527) (by decide +kernel), List.mem_of_getElem? (i := 795) (by decide +kernel), List.mem_of_getElem? (i := 796) (by decide +kernel)⟩
theorem lw_p33 : lw_okq (⟨"SeekLeagueModel", "letter", "()I"⟩, 11) := ⟨⟨by decide +kernel, by decide +kernel⟩, List.mem_of_getElem? (i := 527) (by decide +kernel), List.mem_of_getElem? (i := 799) (by decide +kernel), List.mem_of_getElem? (i := 800) (by decide +kernel)⟩
theorem lw_p34 : lw_okq (⟨"SeekLeagueModel", "wants", "(Z)V"⟩, 11) := ⟨⟨by decide +kernel, by decide +kernel⟩, List.mem_of_getElem? (i := 527) (by decide +kernel), List.mem_of_getElem? (i := 803) (by decide +kernel), List.mem_of_getElem? (i := 804) (by decide +kernel)⟩
theorem lw_p35 : lw_okq (⟨"SeekLeagueModel", "makeOne", "(I)I"⟩, 11) := ⟨⟨by decide +kernel, by decide +kernel⟩, List.mem_of_getElem? (i := 527) (by decide +kernel), List.mem_of_getElem? (i := 812) (by decide +kernel), List.mem_of_getElem? (i := 813) (by decide +kernel)⟩
def lw_privs_3 : List (MethodName × Nat) := [(⟨"SeekLeagueModel", "readMove", "()V"⟩, 11), (⟨"SeekLeagueModel", "letter", "()I"⟩, 11), (⟨"SeekLeagueModel", "wants", "(Z)V"⟩, 11), (⟨"SeekLeagueModel", "makeOne", "(I)I"⟩, 11)]
theorem lw_r3 : ∀ q ∈ lw_privs_3, lw_okq q := List.forall_mem_cons.mpr ⟨lw_p32, List.forall_mem_cons.mpr ⟨lw_p33, List.forall_mem_cons.mpr ⟨lw_p34, List.forall_mem_cons.mpr ⟨lw_p35, fun _ h => absurd h List.not_mem_nil⟩⟩⟩⟩
def lw_privs : List (MethodName × Nat) := lw_privs_1 ++ (lw_privs_2 ++ (lw_privs_3))
def lw_tbl : List Cond := k2_sels lw_privs ++ tables_1
theorem lw_privs_ok : ∀ q ∈ lw_privs, lw_okq q := by
  show ∀ q ∈ lw_privs_1 ++ (lw_privs_2 ++ (lw_privs_3)), lw_okq q
  exact List.forall_mem_append.mpr ⟨lw_r1, List.forall_mem_append.mpr ⟨lw_r2, lw_r3⟩⟩
end
section
/-! ===== BEGIN printed: names, fields, word lists, decode rows ===== -/
def RX0 : String := "SeekLeague$Forecast"
def TX0 : u_T := fun k => match k with
  | _ => ("", "", "", false)
def tyX0 : Nat → FieldType := fun k => match k with
  | _ => .int
theorem nmX0 : ∀ a, a < 0 → ∀ b, b < 0 → a ≠ b → (TX0 a).2.1 ≠ (TX0 b).2.1 := by decide +kernel
theorem tyX0_ok : ∀ k, k < 0 → parseFieldDescriptor (TX0 k).2.2.1 = some (tyX0 k) := by decide +kernel
abbrev cX0_spotsInSight : ByteArray := prog_2_method_2_code
def yX0_spotsInSight : MethodName := ⟨RX0, "spotsInSight", "(LSeekLeague$State;)I"⟩
abbrev cX0_playersWhoWouldEscape : ByteArray := prog_2_method_3_code
def yX0_playersWhoWouldEscape : MethodName := ⟨RX0, "playersWhoWouldEscape", "(LSeekLeague$State;)I"⟩
abbrev cX0_bestHidingSpot : ByteArray := prog_2_method_4_code
def yX0_bestHidingSpot : MethodName := ⟨RX0, "bestHidingSpot", "(LSeekLeague$State;)I"⟩
abbrev cX0_isBetterToHide : ByteArray := prog_2_method_5_code
def yX0_isBetterToHide : MethodName := ⟨RX0, "isBetterToHide", "(LSeekLeague$State;II)Z"⟩
abbrev cX0_stepsToSeeAll : ByteArray := prog_2_method_6_code
def yX0_stepsToSeeAll : MethodName := ⟨RX0, "stepsToSeeAll", "(LSeekLeague$State;)I"⟩
abbrev cX0_stepsDownForTheRest : ByteArray := prog_2_method_7_code
def yX0_stepsDownForTheRest : MethodName := ⟨RX0, "stepsDownForTheRest", "(LSeekLeague$State;I)I"⟩
def RX1 : String := "SeekLeague$MoveText"
def TX1 : u_T := fun k => match k with
  | 0 => ("SeekLeague$MoveText", "signs", "[I", true)
  | _ => ("SeekLeague$MoveText", "length", "I", false)
def tyX1 : Nat → FieldType := fun k => match k with
  | 0 => .array .int
  | _ => .int
theorem nmX1 : ∀ a, a < 2 → ∀ b, b < 2 → a ≠ b → (TX1 a).2.1 ≠ (TX1 b).2.1 := by decide +kernel
theorem tyX1_ok : ∀ k, k < 2 → parseFieldDescriptor (TX1 k).2.2.1 = some (tyX1 k) := by decide +kernel
abbrev cX1_init : ByteArray := prog_3_method_1_code
def yX1_init : MethodName := ⟨RX1, "<init>", "()V"⟩
abbrev cX1_add : ByteArray := prog_3_method_2_code
def yX1_add : MethodName := ⟨RX1, "add", "(I)I"⟩
abbrev cX1_empty : ByteArray := prog_3_method_3_code
def yX1_empty : MethodName := ⟨RX1, "empty", "()I"⟩
abbrev cX1_signAt : ByteArray := prog_3_method_4_code
def yX1_signAt : MethodName := ⟨RX1, "signAt", "(I)I"⟩
abbrev cX1_startsMove : ByteArray := prog_3_method_5_code
def yX1_startsMove : MethodName := ⟨RX1, "startsMove", "(I)Z"⟩
abbrev cX1_firstError : ByteArray := prog_3_method_6_code
def yX1_firstError : MethodName := ⟨RX1, "firstError", "()I"⟩
abbrev cX1_expectedAfter : ByteArray := prog_3_method_7_code
def yX1_expectedAfter : MethodName := ⟨RX1, "expectedAfter", "(II)I"⟩
abbrev cX1_expectedAfterLetter : ByteArray := prog_3_method_8_code
def yX1_expectedAfterLetter : MethodName := ⟨RX1, "expectedAfterLetter", "(I)I"⟩
abbrev cX1_isPlayerDigit : ByteArray := prog_3_method_9_code
def yX1_isPlayerDigit : MethodName := ⟨RX1, "isPlayerDigit", "(I)Z"⟩
abbrev cX1_isSpotLetter : ByteArray := prog_3_method_10_code
def yX1_isSpotLetter : MethodName := ⟨RX1, "isSpotLetter", "(I)Z"⟩
def RX2 : String := "SeekLeague$Moves"
def TX2 : u_T := fun k => match k with
  | _ => ("", "", "", false)
def tyX2 : Nat → FieldType := fun k => match k with
  | _ => .int
theorem nmX2 : ∀ a, a < 0 → ∀ b, b < 0 → a ≠ b → (TX2 a).2.1 ≠ (TX2 b).2.1 := by decide +kernel
theorem tyX2_ok : ∀ k, k < 0 → parseFieldDescriptor (TX2 k).2.2.1 = some (tyX2 k) := by decide +kernel
abbrev cX2_changeSetting : ByteArray := prog_4_method_2_code
def yX2_changeSetting : MethodName := ⟨RX2, "changeSetting", "(LSeekLeague$State;II)I"⟩
abbrev cX2_addPlayer : ByteArray := prog_4_method_3_code
def yX2_addPlayer : MethodName := ⟨RX2, "addPlayer", "(LSeekLeague$State;)I"⟩
abbrev cX2_beginRound : ByteArray := prog_4_method_4_code
def yX2_beginRound : MethodName := ⟨RX2, "beginRound", "(LSeekLeague$State;II)I"⟩
abbrev cX2_countHidingSpots : ByteArray := prog_4_method_5_code
def yX2_countHidingSpots : MethodName := ⟨RX2, "countHidingSpots", "(LSeekLeague$State;)I"⟩
abbrev cX2_hidePlayer : ByteArray := prog_4_method_6_code
def yX2_hidePlayer : MethodName := ⟨RX2, "hidePlayer", "(LSeekLeague$State;II)I"⟩
abbrev cX2_beginSeeking : ByteArray := prog_4_method_7_code
def yX2_beginSeeking : MethodName := ⟨RX2, "beginSeeking", "(LSeekLeague$State;)I"⟩
abbrev cX2_moveSeeker : ByteArray := prog_4_method_8_code
def yX2_moveSeeker : MethodName := ⟨RX2, "moveSeeker", "(LSeekLeague$State;I)I"⟩
abbrev cX2_cryName : ByteArray := prog_4_method_9_code
def yX2_cryName : MethodName := ⟨RX2, "cryName", "(LSeekLeague$State;II)I"⟩
abbrev cX2_dashHome : ByteArray := prog_4_method_10_code
def yX2_dashHome : MethodName := ⟨RX2, "dashHome", "(LSeekLeague$State;I)I"⟩
abbrev cX2_findPlayer : ByteArray := prog_4_method_11_code
def yX2_findPlayer : MethodName := ⟨RX2, "findPlayer", "(LSeekLeague$State;II)V"⟩
abbrev cX2_countFindOfSpot : ByteArray := prog_4_method_12_code
def yX2_countFindOfSpot : MethodName := ⟨RX2, "countFindOfSpot", "(LSeekLeague$State;I)V"⟩
abbrev cX2_countFalseCry : ByteArray := prog_4_method_13_code
def yX2_countFalseCry : MethodName := ⟨RX2, "countFalseCry", "(LSeekLeague$State;)V"⟩
abbrev cX2_letAllEscape : ByteArray := prog_4_method_14_code
def yX2_letAllEscape : MethodName := ⟨RX2, "letAllEscape", "(LSeekLeague$State;)V"⟩
abbrev cX2_escape : ByteArray := prog_4_method_15_code
def yX2_escape : MethodName := ⟨RX2, "escape", "(LSeekLeague$State;II)V"⟩
abbrev cX2_endRoundIfNobodyIsHidden : ByteArray := prog_4_method_16_code
def yX2_endRoundIfNobodyIsHidden : MethodName := ⟨RX2, "endRoundIfNobodyIsHidden", "(LSeekLeague$State;)V"⟩
abbrev cX2_endRound : ByteArray := prog_4_method_17_code
def yX2_endRound : MethodName := ⟨RX2, "endRound", "(LSeekLeague$State;)V"⟩
abbrev cX2_restSpot : ByteArray := prog_4_method_18_code
def yX2_restSpot : MethodName := ⟨RX2, "restSpot", "(LSeekLeague$State;I)V"⟩
def RX3 : String := "SeekLeague$Past"
def TX3 : u_T := fun k => match k with
  | 0 => ("SeekLeague$Past", "states", "[LSeekLeague$State;", true)
  | _ => ("SeekLeague$Past", "count", "I", false)
def tyX3 : Nat → FieldType := fun k => match k with
  | 0 => .array (.object "SeekLeague$State")
  | _ => .int
theorem nmX3 : ∀ a, a < 2 → ∀ b, b < 2 → a ≠ b → (TX3 a).2.1 ≠ (TX3 b).2.1 := by decide +kernel
theorem tyX3_ok : ∀ k, k < 2 → parseFieldDescriptor (TX3 k).2.2.1 = some (tyX3 k) := by decide +kernel
abbrev cX3_init : ByteArray := prog_5_method_1_code
def yX3_init : MethodName := ⟨RX3, "<init>", "()V"⟩
abbrev cX3_draft : ByteArray := prog_5_method_2_code
def yX3_draft : MethodName := ⟨RX3, "draft", "(LSeekLeague$State;)V"⟩
abbrev cX3_keep : ByteArray := prog_5_method_3_code
def yX3_keep : MethodName := ⟨RX3, "keep", "(I)I"⟩
abbrev cX3_discardOldest : ByteArray := prog_5_method_4_code
def yX3_discardOldest : MethodName := ⟨RX3, "discardOldest", "()V"⟩
abbrev cX3_takeBack : ByteArray := prog_5_method_5_code
def yX3_takeBack : MethodName := ⟨RX3, "takeBack", "(LSeekLeague$State;)I"⟩
def RX4 : String := "SeekLeague$Ranks"
def TX4 : u_T := fun k => match k with
  | _ => ("", "", "", false)
def tyX4 : Nat → FieldType := fun k => match k with
  | _ => .int
theorem nmX4 : ∀ a, a < 0 → ∀ b, b < 0 → a ≠ b → (TX4 a).2.1 ≠ (TX4 b).2.1 := by decide +kernel
theorem tyX4_ok : ∀ k, k < 0 → parseFieldDescriptor (TX4 k).2.2.1 = some (tyX4 k) := by decide +kernel
abbrev cX4_isAhead : ByteArray := prog_6_method_2_code
def yX4_isAhead : MethodName := ⟨RX4, "isAhead", "(LSeekLeague$State;II)Z"⟩
abbrev cX4_placeOf : ByteArray := prog_6_method_3_code
def yX4_placeOf : MethodName := ⟨RX4, "placeOf", "(LSeekLeague$State;I)I"⟩
abbrev cX4_playerAt : ByteArray := prog_6_method_4_code
def yX4_playerAt : MethodName := ⟨RX4, "playerAt", "(LSeekLeague$State;I)I"⟩
abbrev cX4_seekerOfNextRound : ByteArray := prog_6_method_5_code
def yX4_seekerOfNextRound : MethodName := ⟨RX4, "seekerOfNextRound", "(LSeekLeague$State;)I"⟩
abbrev cX4_seeksSooner : ByteArray := prog_6_method_6_code
def yX4_seeksSooner : MethodName := ⟨RX4, "seeksSooner", "(LSeekLeague$State;II)Z"⟩
def RX5 : String := "SeekLeague$State"
def TX5 : u_T := fun k => match k with
  | 0 => ("SeekLeague$State", "settings", "[I", true)
  | 1 => ("SeekLeague$State", "points", "[I", true)
  | 2 => ("SeekLeague$State", "seekerRounds", "[I", true)
  | 3 => ("SeekLeague$State", "playersFound", "[I", true)
  | 4 => ("SeekLeague$State", "falseCries", "[I", true)
  | 5 => ("SeekLeague$State", "escapes", "[I", true)
  | 6 => ("SeekLeague$State", "hidesAt", "[I", true)
  | 7 => ("SeekLeague$State", "finds", "[I", true)
  | 8 => ("SeekLeague$State", "restedRounds", "[I", true)
  | 9 => ("SeekLeague$State", "players", "I", false)
  | 10 => ("SeekLeague$State", "roundsEnded", "I", false)
  | 11 => ("SeekLeague$State", "part", "I", false)
  | 12 => ("SeekLeague$State", "seeker", "I", false)
  | 13 => ("SeekLeague$State", "breaths", "I", false)
  | 14 => ("SeekLeague$State", "seekerSpot", "I", false)
  | _ => ("SeekLeague$State", "falseCriesOfRound", "I", false)
def tyX5 : Nat → FieldType := fun k => match k with
  | 0 => .array .int
  | 1 => .array .int
  | 2 => .array .int
  | 3 => .array .int
  | 4 => .array .int
  | 5 => .array .int
  | 6 => .array .int
  | 7 => .array .int
  | 8 => .array .int
  | 9 => .int
  | 10 => .int
  | 11 => .int
  | 12 => .int
  | 13 => .int
  | 14 => .int
  | _ => .int
theorem nmX5 : ∀ a, a < 16 → ∀ b, b < 16 → a ≠ b → (TX5 a).2.1 ≠ (TX5 b).2.1 := by decide +kernel
theorem tyX5_ok : ∀ k, k < 16 → parseFieldDescriptor (TX5 k).2.2.1 = some (tyX5 k) := by decide +kernel
abbrev cX5_init : ByteArray := prog_7_method_1_code
def yX5_init : MethodName := ⟨RX5, "<init>", "()V"⟩
abbrev cX5_copyFrom : ByteArray := prog_7_method_2_code
def yX5_copyFrom : MethodName := ⟨RX5, "copyFrom", "(LSeekLeague$State;)V"⟩
abbrev cX5_isSetting : ByteArray := prog_7_method_3_code
def yX5_isSetting : MethodName := ⟨RX5, "isSetting", "(I)Z"⟩
abbrev cX5_isPlayer : ByteArray := prog_7_method_4_code
def yX5_isPlayer : MethodName := ⟨RX5, "isPlayer", "(I)Z"⟩
abbrev cX5_isHidden : ByteArray := prog_7_method_5_code
def yX5_isHidden : MethodName := ⟨RX5, "isHidden", "(I)Z"⟩
abbrev cX5_hiddenCount : ByteArray := prog_7_method_6_code
def yX5_hiddenCount : MethodName := ⟨RX5, "hiddenCount", "()I"⟩
abbrev cX5_hidersAt : ByteArray := prog_7_method_7_code
def yX5_hidersAt : MethodName := ⟨RX5, "hidersAt", "(I)I"⟩
abbrev cX5_hiderCount : ByteArray := prog_7_method_8_code
def yX5_hiderCount : MethodName := ⟨RX5, "hiderCount", "(I)I"⟩
abbrev cX5_isRetired : ByteArray := prog_7_method_9_code
def yX5_isRetired : MethodName := ⟨RX5, "isRetired", "(I)Z"⟩
abbrev cX5_retiredCount : ByteArray := prog_7_method_10_code
def yX5_retiredCount : MethodName := ⟨RX5, "retiredCount", "()I"⟩
abbrev cX5_isHidingPlace : ByteArray := prog_7_method_11_code
def yX5_isHidingPlace : MethodName := ⟨RX5, "isHidingPlace", "(I)Z"⟩
abbrev cX5_hasRoomToHide : ByteArray := prog_7_method_12_code
def yX5_hasRoomToHide : MethodName := ⟨RX5, "hasRoomToHide", "(I)Z"⟩
abbrev cX5_seekerSees : ByteArray := prog_7_method_13_code
def yX5_seekerSees : MethodName := ⟨RX5, "seekerSees", "(I)Z"⟩
abbrev cX5_wouldEscape : ByteArray := prog_7_method_14_code
def yX5_wouldEscape : MethodName := ⟨RX5, "wouldEscape", "(I)Z"⟩
abbrev cX5_sumOfPoints : ByteArray := prog_7_method_15_code
def yX5_sumOfPoints : MethodName := ⟨RX5, "sumOfPoints", "()I"⟩
def RX6 : String := "SeekLeague$Yard"
def TX6 : u_T := fun k => match k with
  | _ => ("", "", "", false)
def tyX6 : Nat → FieldType := fun k => match k with
  | _ => .int
theorem nmX6 : ∀ a, a < 0 → ∀ b, b < 0 → a ≠ b → (TX6 a).2.1 ≠ (TX6 b).2.1 := by decide +kernel
theorem tyX6_ok : ∀ k, k < 0 → parseFieldDescriptor (TX6 k).2.2.1 = some (tyX6 k) := by decide +kernel
abbrev cX6_isSpot : ByteArray := prog_8_method_2_code
def yX6_isSpot : MethodName := ⟨RX6, "isSpot", "(I)Z"⟩
abbrev cX6_distance : ByteArray := prog_8_method_3_code
def yX6_distance : MethodName := ⟨RX6, "distance", "(II)I"⟩
abbrev cX6_fromBase : ByteArray := prog_8_method_4_code
def yX6_fromBase : MethodName := ⟨RX6, "fromBase", "(I)I"⟩
abbrev cX6_stepsUp : ByteArray := prog_8_method_5_code
def yX6_stepsUp : MethodName := ⟨RX6, "stepsUp", "(II)I"⟩
abbrev cX6_beside : ByteArray := prog_8_method_6_code
def yX6_beside : MethodName := ⟨RX6, "beside", "(II)I"⟩
def RX7 : String := "SeekLeague"
def TX7 : u_T := fun k => match k with
  | 0 => ("SeekLeague", "now", "LSeekLeague$State;", true)
  | 1 => ("SeekLeague", "saved", "LSeekLeague$State;", true)
  | 2 => ("SeekLeague", "past", "LSeekLeague$Past;", true)
  | 3 => ("SeekLeague", "text", "LSeekLeague$MoveText;", true)
  | _ => ("SeekLeague", "hasSaved", "Z", false)
def tyX7 : Nat → FieldType := fun k => match k with
  | 0 => .object "SeekLeague$State"
  | 1 => .object "SeekLeague$State"
  | 2 => .object "SeekLeague$Past"
  | 3 => .object "SeekLeague$MoveText"
  | _ => .boolean
theorem nmX7 : ∀ a, a < 5 → ∀ b, b < 5 → a ≠ b → (TX7 a).2.1 ≠ (TX7 b).2.1 := by decide +kernel
theorem tyX7_ok : ∀ k, k < 5 → parseFieldDescriptor (TX7 k).2.2.1 = some (tyX7 k) := by decide +kernel
abbrev cX7_init : ByteArray := prog_1_method_1_code
def yX7_init : MethodName := ⟨RX7, "<init>", "()V"⟩
abbrev cX7_set : ByteArray := prog_1_method_2_code
def yX7_set : MethodName := ⟨RX7, "set", "(II)I"⟩
abbrev cX7_setting : ByteArray := prog_1_method_3_code
def yX7_setting : MethodName := ⟨RX7, "setting", "(I)I"⟩
abbrev cX7_join : ByteArray := prog_1_method_4_code
def yX7_join : MethodName := ⟨RX7, "join", "()I"⟩
abbrev cX7_start : ByteArray := prog_1_method_5_code
def yX7_start : MethodName := ⟨RX7, "start", "(II)I"⟩
abbrev cX7_hide : ByteArray := prog_1_method_6_code
def yX7_hide : MethodName := ⟨RX7, "hide", "(II)I"⟩
abbrev cX7_seek : ByteArray := prog_1_method_7_code
def yX7_seek : MethodName := ⟨RX7, "seek", "()I"⟩
abbrev cX7_walk : ByteArray := prog_1_method_8_code
def yX7_walk : MethodName := ⟨RX7, "walk", "(I)I"⟩
abbrev cX7_cry : ByteArray := prog_1_method_9_code
def yX7_cry : MethodName := ⟨RX7, "cry", "(II)I"⟩
abbrev cX7_dash : ByteArray := prog_1_method_10_code
def yX7_dash : MethodName := ⟨RX7, "dash", "(I)I"⟩
abbrev cX7_player : ByteArray := prog_1_method_11_code
def yX7_player : MethodName := ⟨RX7, "player", "(II)I"⟩
abbrev cX7_spot : ByteArray := prog_1_method_12_code
def yX7_spot : MethodName := ⟨RX7, "spot", "(II)I"⟩
abbrev cX7_ranked : ByteArray := prog_1_method_13_code
def yX7_ranked : MethodName := ⟨RX7, "ranked", "(I)I"⟩
abbrev cX7_nextSeeker : ByteArray := prog_1_method_14_code
def yX7_nextSeeker : MethodName := ⟨RX7, "nextSeeker", "()I"⟩
abbrev cX7_total : ByteArray := prog_1_method_15_code
def yX7_total : MethodName := ⟨RX7, "total", "(I)I"⟩
abbrev cX7_inSight : ByteArray := prog_1_method_16_code
def yX7_inSight : MethodName := ⟨RX7, "inSight", "()I"⟩
abbrev cX7_couldDash : ByteArray := prog_1_method_17_code
def yX7_couldDash : MethodName := ⟨RX7, "couldDash", "()I"⟩
abbrev cX7_bestSpot : ByteArray := prog_1_method_18_code
def yX7_bestSpot : MethodName := ⟨RX7, "bestSpot", "()I"⟩
abbrev cX7_fewestSteps : ByteArray := prog_1_method_19_code
def yX7_fewestSteps : MethodName := ⟨RX7, "fewestSteps", "()I"⟩
abbrev cX7_append : ByteArray := prog_1_method_20_code
def yX7_append : MethodName := ⟨RX7, "append", "(I)I"⟩
abbrev cX7_clearText : ByteArray := prog_1_method_21_code
def yX7_clearText : MethodName := ⟨RX7, "clearText", "()I"⟩
abbrev cX7_errorPosition : ByteArray := prog_1_method_22_code
def yX7_errorPosition : MethodName := ⟨RX7, "errorPosition", "()I"⟩
abbrev cX7_play : ByteArray := prog_1_method_23_code
def yX7_play : MethodName := ⟨RX7, "play", "()I"⟩
abbrev cX7_makeMoves : ByteArray := prog_1_method_24_code
def yX7_makeMoves : MethodName := ⟨RX7, "makeMoves", "()I"⟩
abbrev cX7_makeMove : ByteArray := prog_1_method_25_code
def yX7_makeMove : MethodName := ⟨RX7, "makeMove", "(I)I"⟩
abbrev cX7_undo : ByteArray := prog_1_method_26_code
def yX7_undo : MethodName := ⟨RX7, "undo", "()I"⟩
abbrev cX7_save : ByteArray := prog_1_method_27_code
def yX7_save : MethodName := ⟨RX7, "save", "()I"⟩
abbrev cX7_restore : ByteArray := prog_1_method_28_code
def yX7_restore : MethodName := ⟨RX7, "restore", "()I"⟩
def RX8 : String := "SeekLeagueModel"
def TX8 : u_T := fun k => match k with
  | 0 => ("SeekLeagueModel", "z", "[I", true)
  | 1 => ("SeekLeagueModel", "past", "[I", true)
  | 2 => ("SeekLeagueModel", "pastMany", "I", false)
  | 3 => ("SeekLeagueModel", "kept", "[I", true)
  | 4 => ("SeekLeagueModel", "isKept", "Z", false)
  | 5 => ("SeekLeagueModel", "buffer", "[C", true)
  | 6 => ("SeekLeagueModel", "typed", "I", false)
  | 7 => ("SeekLeagueModel", "told", "[I", true)
  | 8 => ("SeekLeagueModel", "toldMany", "I", false)
  | 9 => ("SeekLeagueModel", "spot", "I", false)
  | _ => ("SeekLeagueModel", "wrong", "I", false)
def tyX8 : Nat → FieldType := fun k => match k with
  | 0 => .array .int
  | 1 => .array .int
  | 2 => .int
  | 3 => .array .int
  | 4 => .boolean
  | 5 => .array .char
  | 6 => .int
  | 7 => .array .int
  | 8 => .int
  | 9 => .int
  | _ => .int
theorem nmX8 : ∀ a, a < 11 → ∀ b, b < 11 → a ≠ b → (TX8 a).2.1 ≠ (TX8 b).2.1 := by decide +kernel
theorem tyX8_ok : ∀ k, k < 11 → parseFieldDescriptor (TX8 k).2.2.1 = some (tyX8 k) := by decide +kernel
abbrev cX8_init : ByteArray := prog_10_method_1_code
def yX8_init : MethodName := ⟨RX8, "<init>", "()V"⟩
abbrev cX8_in : ByteArray := prog_10_method_2_code
def yX8_in : MethodName := ⟨RX8, "in", "(III)Z"⟩
abbrev cX8_isSpot : ByteArray := prog_10_method_3_code
def yX8_isSpot : MethodName := ⟨RX8, "isSpot", "(I)Z"⟩
abbrev cX8_isPlayer : ByteArray := prog_10_method_4_code
def yX8_isPlayer : MethodName := ⟨RX8, "isPlayer", "(I)Z"⟩
abbrev cX8_of : ByteArray := prog_10_method_5_code
def yX8_of : MethodName := ⟨RX8, "of", "(II)I"⟩
abbrev cX8_adds : ByteArray := prog_10_method_6_code
def yX8_adds : MethodName := ⟨RX8, "adds", "(III)V"⟩
abbrev cX8_hides : ByteArray := prog_10_method_7_code
def yX8_hides : MethodName := ⟨RX8, "hides", "(II)V"⟩
abbrev cX8_ofSpot : ByteArray := prog_10_method_8_code
def yX8_ofSpot : MethodName := ⟨RX8, "ofSpot", "(II)I"⟩
abbrev cX8_isRetired : ByteArray := prog_10_method_9_code
def yX8_isRetired : MethodName := ⟨RX8, "isRetired", "(I)Z"⟩
abbrev cX8_distance : ByteArray := prog_10_method_10_code
def yX8_distance : MethodName := ⟨RX8, "distance", "(II)I"⟩
abbrev cX8_record : ByteArray := prog_10_method_11_code
def yX8_record : MethodName := ⟨RX8, "record", "()V"⟩
abbrev cX8_undo : ByteArray := prog_10_method_12_code
def yX8_undo : MethodName := ⟨RX8, "undo", "()I"⟩
abbrev cX8_save : ByteArray := prog_10_method_13_code
def yX8_save : MethodName := ⟨RX8, "save", "()I"⟩
abbrev cX8_restore : ByteArray := prog_10_method_14_code
def yX8_restore : MethodName := ⟨RX8, "restore", "()I"⟩
abbrev cX8_isInRange : ByteArray := prog_10_method_15_code
def yX8_isInRange : MethodName := ⟨RX8, "isInRange", "(II)Z"⟩
abbrev cX8_set : ByteArray := prog_10_method_16_code
def yX8_set : MethodName := ⟨RX8, "set", "(II)I"⟩
abbrev cX8_setting : ByteArray := prog_10_method_17_code
def yX8_setting : MethodName := ⟨RX8, "setting", "(I)I"⟩
abbrev cX8_join : ByteArray := prog_10_method_18_code
def yX8_join : MethodName := ⟨RX8, "join", "()I"⟩
abbrev cX8_hidersAt : ByteArray := prog_10_method_19_code
def yX8_hidersAt : MethodName := ⟨RX8, "hidersAt", "(I)I"⟩
abbrev cX8_bits : ByteArray := prog_10_method_20_code
def yX8_bits : MethodName := ⟨RX8, "bits", "(I)I"⟩
abbrev cX8_hidden : ByteArray := prog_10_method_21_code
def yX8_hidden : MethodName := ⟨RX8, "hidden", "()I"⟩
abbrev cX8_isGood : ByteArray := prog_10_method_22_code
def yX8_isGood : MethodName := ⟨RX8, "isGood", "(I)Z"⟩
abbrev cX8_isOpen : ByteArray := prog_10_method_23_code
def yX8_isOpen : MethodName := ⟨RX8, "isOpen", "(I)Z"⟩
abbrev cX8_start : ByteArray := prog_10_method_24_code
def yX8_start : MethodName := ⟨RX8, "start", "(II)I"⟩
abbrev cX8_whyNotHide : ByteArray := prog_10_method_25_code
def yX8_whyNotHide : MethodName := ⟨RX8, "whyNotHide", "(II)I"⟩
abbrev cX8_hide : ByteArray := prog_10_method_26_code
def yX8_hide : MethodName := ⟨RX8, "hide", "(II)I"⟩
abbrev cX8_ends : ByteArray := prog_10_method_27_code
def yX8_ends : MethodName := ⟨RX8, "ends", "()V"⟩
abbrev cX8_endsIfEmpty : ByteArray := prog_10_method_28_code
def yX8_endsIfEmpty : MethodName := ⟨RX8, "endsIfEmpty", "()V"⟩
abbrev cX8_seeks : ByteArray := prog_10_method_29_code
def yX8_seeks : MethodName := ⟨RX8, "seeks", "()I"⟩
abbrev cX8_seek : ByteArray := prog_10_method_30_code
def yX8_seek : MethodName := ⟨RX8, "seek", "()I"⟩
abbrev cX8_walks : ByteArray := prog_10_method_31_code
def yX8_walks : MethodName := ⟨RX8, "walks", "(I)I"⟩
abbrev cX8_walk : ByteArray := prog_10_method_32_code
def yX8_walk : MethodName := ⟨RX8, "walk", "(I)I"⟩
abbrev cX8_whyNotCry : ByteArray := prog_10_method_33_code
def yX8_whyNotCry : MethodName := ⟨RX8, "whyNotCry", "(II)I"⟩
abbrev cX8_finds : ByteArray := prog_10_method_34_code
def yX8_finds : MethodName := ⟨RX8, "finds", "(I)V"⟩
abbrev cX8_escapes : ByteArray := prog_10_method_35_code
def yX8_escapes : MethodName := ⟨RX8, "escapes", "(II)V"⟩
abbrev cX8_cries : ByteArray := prog_10_method_36_code
def yX8_cries : MethodName := ⟨RX8, "cries", "(II)I"⟩
abbrev cX8_cry : ByteArray := prog_10_method_37_code
def yX8_cry : MethodName := ⟨RX8, "cry", "(II)I"⟩
abbrev cX8_whyNotDash : ByteArray := prog_10_method_38_code
def yX8_whyNotDash : MethodName := ⟨RX8, "whyNotDash", "(I)I"⟩
abbrev cX8_isFaster : ByteArray := prog_10_method_39_code
def yX8_isFaster : MethodName := ⟨RX8, "isFaster", "(I)Z"⟩
abbrev cX8_dashes : ByteArray := prog_10_method_40_code
def yX8_dashes : MethodName := ⟨RX8, "dashes", "(I)I"⟩
abbrev cX8_dash : ByteArray := prog_10_method_41_code
def yX8_dash : MethodName := ⟨RX8, "dash", "(I)I"⟩
abbrev cX8_isBefore : ByteArray := prog_10_method_42_code
def yX8_isBefore : MethodName := ⟨RX8, "isBefore", "(II)Z"⟩
abbrev cX8_placeOf : ByteArray := prog_10_method_43_code
def yX8_placeOf : MethodName := ⟨RX8, "placeOf", "(I)I"⟩
abbrev cX8_player : ByteArray := prog_10_method_44_code
def yX8_player : MethodName := ⟨RX8, "player", "(II)I"⟩
abbrev cX8_spot : ByteArray := prog_10_method_45_code
def yX8_spot : MethodName := ⟨RX8, "spot", "(II)I"⟩
abbrev cX8_ranked : ByteArray := prog_10_method_46_code
def yX8_ranked : MethodName := ⟨RX8, "ranked", "(I)I"⟩
abbrev cX8_nextSeeker : ByteArray := prog_10_method_47_code
def yX8_nextSeeker : MethodName := ⟨RX8, "nextSeeker", "()I"⟩
abbrev cX8_sumOfPoints : ByteArray := prog_10_method_48_code
def yX8_sumOfPoints : MethodName := ⟨RX8, "sumOfPoints", "()I"⟩
abbrev cX8_retired : ByteArray := prog_10_method_49_code
def yX8_retired : MethodName := ⟨RX8, "retired", "()I"⟩
abbrev cX8_total : ByteArray := prog_10_method_50_code
def yX8_total : MethodName := ⟨RX8, "total", "(I)I"⟩
abbrev cX8_inSight : ByteArray := prog_10_method_51_code
def yX8_inSight : MethodName := ⟨RX8, "inSight", "()I"⟩
abbrev cX8_couldDash : ByteArray := prog_10_method_52_code
def yX8_couldDash : MethodName := ⟨RX8, "couldDash", "()I"⟩
abbrev cX8_isBetter : ByteArray := prog_10_method_53_code
def yX8_isBetter : MethodName := ⟨RX8, "isBetter", "(II)Z"⟩
abbrev cX8_bestSpot : ByteArray := prog_10_method_54_code
def yX8_bestSpot : MethodName := ⟨RX8, "bestSpot", "()I"⟩
abbrev cX8_seesAll : ByteArray := prog_10_method_55_code
def yX8_seesAll : MethodName := ⟨RX8, "seesAll", "(II)Z"⟩
abbrev cX8_fewestSteps : ByteArray := prog_10_method_56_code
def yX8_fewestSteps : MethodName := ⟨RX8, "fewestSteps", "()I"⟩
abbrev cX8_append : ByteArray := prog_10_method_57_code
def yX8_append : MethodName := ⟨RX8, "append", "(I)I"⟩
abbrev cX8_clearText : ByteArray := prog_10_method_58_code
def yX8_clearText : MethodName := ⟨RX8, "clearText", "()I"⟩
abbrev cX8_letter : ByteArray := prog_10_method_59_code
def yX8_letter : MethodName := ⟨RX8, "letter", "()I"⟩
abbrev cX8_wants : ByteArray := prog_10_method_60_code
def yX8_wants : MethodName := ⟨RX8, "wants", "(Z)V"⟩
abbrev cX8_readMove : ByteArray := prog_10_method_61_code
def yX8_readMove : MethodName := ⟨RX8, "readMove", "()V"⟩
abbrev cX8_errorPosition : ByteArray := prog_10_method_62_code
def yX8_errorPosition : MethodName := ⟨RX8, "errorPosition", "()I"⟩
abbrev cX8_makeOne : ByteArray := prog_10_method_63_code
def yX8_makeOne : MethodName := ⟨RX8, "makeOne", "(I)I"⟩
abbrev cX8_play : ByteArray := prog_10_method_64_code
def yX8_play : MethodName := ⟨RX8, "play", "()I"⟩
def RJ6 : String := "java/lang/Integer"
def TJ6 : u_T := fun k => match k with
  | _ => ("", "", "", false)
def tyJ6 : Nat → FieldType := fun k => match k with
  | _ => .int
theorem nmJ6 : ∀ a, a < 0 → ∀ b, b < 0 → a ≠ b → (TJ6 a).2.1 ≠ (TJ6 b).2.1 := by decide +kernel
theorem tyJ6_ok : ∀ k, k < 0 → parseFieldDescriptor (TJ6 k).2.2.1 = some (tyJ6 k) := by decide +kernel
abbrev cJ6_bitCount_0f7a4 : ByteArray := prog_11_method_49_code
def yJ6_bitCount_0f7a4 : MethodName := ⟨RJ6, "bitCount", "(I)I"⟩
def RJ9 : String := "java/lang/Math"
def TJ9 : u_T := fun k => match k with
  | _ => ("", "", "", false)
def tyJ9 : Nat → FieldType := fun k => match k with
  | _ => .int
theorem nmJ9 : ∀ a, a < 0 → ∀ b, b < 0 → a ≠ b → (TJ9 a).2.1 ≠ (TJ9 b).2.1 := by decide +kernel
theorem tyJ9_ok : ∀ k, k < 0 → parseFieldDescriptor (TJ9 k).2.2.1 = some (tyJ9 k) := by decide +kernel
abbrev cJ9_floorMod_7cf53 : ByteArray := prog_12_method_50_code
def yJ9_floorMod_7cf53 : MethodName := ⟨RJ9, "floorMod", "(II)I"⟩
abbrev cJ9_max_7cf53 : ByteArray := prog_12_method_65_code
def yJ9_max_7cf53 : MethodName := ⟨RJ9, "max", "(II)I"⟩
abbrev cJ9_min_7cf53 : ByteArray := prog_12_method_69_code
def yJ9_min_7cf53 : MethodName := ⟨RJ9, "min", "(II)I"⟩
def RJ10 : String := "java/lang/System"
def TJ10 : u_T := fun k => match k with
  | _ => ("", "", "", false)
def tyJ10 : Nat → FieldType := fun k => match k with
  | _ => .int
theorem nmJ10 : ∀ a, a < 0 → ∀ b, b < 0 → a ≠ b → (TJ10 a).2.1 ≠ (TJ10 b).2.1 := by decide +kernel
theorem tyJ10_ok : ∀ k, k < 0 → parseFieldDescriptor (TJ10 k).2.2.1 = some (tyJ10 k) := by decide +kernel
def RJ7 : String := "java/util/Arrays"
def TJ7 : u_T := fun k => match k with
  | _ => ("", "", "", false)
def tyJ7 : Nat → FieldType := fun k => match k with
  | _ => .int
theorem nmJ7 : ∀ a, a < 0 → ∀ b, b < 0 → a ≠ b → (TJ7 a).2.1 ≠ (TJ7 b).2.1 := by decide +kernel
theorem tyJ7_ok : ∀ k, k < 0 → parseFieldDescriptor (TJ7 k).2.2.1 = some (tyJ7 k) := by decide +kernel
abbrev cJ7_fill_53178 : ByteArray := prog_14_method_103_code
def yJ7_fill_53178 : MethodName := ⟨RJ7, "fill", "([II)V"⟩
def RL : String := "SeekLeagueLaw"
abbrev cL_law : ByteArray := code
def yL_law : MethodName := ⟨RL, "law", "([I)Z"⟩
abbrev vwCl : List vw_C := [(RX1, TX1, 2), (RX3, TX3, 2), (RX5, TX5, 16), (RX7, TX7, 5), (RX8, TX8, 11)]
end
section
theorem dX0_spotsInSight_0 : decode cX0_spotsInSight 0 = .ok (.aload_n 0, 1) := by decide +kernel
theorem dX0_spotsInSight_1 : decode cX0_spotsInSight 1 = .ok (.getfield 9, 3) := by decide +kernel
theorem dX0_spotsInSight_4 : decode cX0_spotsInSight 4 = .ok (.iconst 2, 1) := by decide +kernel
theorem dX0_spotsInSight_5 : decode cX0_spotsInSight 5 = .ok (.if_icmp .eq 7, 3) := by decide +kernel
theorem dX0_spotsInSight_8 : decode cX0_spotsInSight 8 = .ok (.sipush (-10003), 3) := by decide +kernel
theorem dX0_spotsInSight_11 : decode cX0_spotsInSight 11 = .ok (.ireturn, 1) := by decide +kernel
theorem dX0_spotsInSight_12 : decode cX0_spotsInSight 12 = .ok (.iconst 0, 1) := by decide +kernel
theorem dX0_spotsInSight_13 : decode cX0_spotsInSight 13 = .ok (.istore_n 1, 1) := by decide +kernel
theorem dX0_spotsInSight_14 : decode cX0_spotsInSight 14 = .ok (.iconst 0, 1) := by decide +kernel
theorem dX0_spotsInSight_15 : decode cX0_spotsInSight 15 = .ok (.istore_n 2, 1) := by decide +kernel
theorem dX0_spotsInSight_16 : decode cX0_spotsInSight 16 = .ok (.iload_n 2, 1) := by decide +kernel
theorem dX0_spotsInSight_17 : decode cX0_spotsInSight 17 = .ok (.bipush 16, 2) := by decide +kernel
theorem dX0_spotsInSight_19 : decode cX0_spotsInSight 19 = .ok (.if_icmp .ge 23, 3) := by decide +kernel
theorem dX0_spotsInSight_22 : decode cX0_spotsInSight 22 = .ok (.aload_n 0, 1) := by decide +kernel
theorem dX0_spotsInSight_23 : decode cX0_spotsInSight 23 = .ok (.iload_n 2, 1) := by decide +kernel
theorem dX0_spotsInSight_24 : decode cX0_spotsInSight 24 = .ok (.invokevirtual 17, 3) := by decide +kernel
theorem dX0_spotsInSight_27 : decode cX0_spotsInSight 27 = .ok (.ifCond .eq 9, 3) := by decide +kernel
theorem dX0_spotsInSight_30 : decode cX0_spotsInSight 30 = .ok (.iload_n 1, 1) := by decide +kernel
theorem dX0_spotsInSight_31 : decode cX0_spotsInSight 31 = .ok (.iconst 1, 1) := by decide +kernel
theorem dX0_spotsInSight_32 : decode cX0_spotsInSight 32 = .ok (.iload_n 2, 1) := by decide +kernel
theorem dX0_spotsInSight_33 : decode cX0_spotsInSight 33 = .ok (.ishl, 1) := by decide +kernel
theorem dX0_spotsInSight_34 : decode cX0_spotsInSight 34 = .ok (.ior, 1) := by decide +kernel
theorem dX0_spotsInSight_35 : decode cX0_spotsInSight 35 = .ok (.istore_n 1, 1) := by decide +kernel
theorem dX0_spotsInSight_36 : decode cX0_spotsInSight 36 = .ok (.iinc 2 1, 3) := by decide +kernel
theorem dX0_spotsInSight_39 : decode cX0_spotsInSight 39 = .ok (.goto (-23), 3) := by decide +kernel
theorem dX0_spotsInSight_42 : decode cX0_spotsInSight 42 = .ok (.iload_n 1, 1) := by decide +kernel
theorem dX0_spotsInSight_43 : decode cX0_spotsInSight 43 = .ok (.ireturn, 1) := by decide +kernel
theorem dX0_playersWhoWouldEscape_0 : decode cX0_playersWhoWouldEscape 0 = .ok (.aload_n 0, 1) := by decide +kernel
theorem dX0_playersWhoWouldEscape_1 : decode cX0_playersWhoWouldEscape 1 = .ok (.getfield 9, 3) := by decide +kernel
theorem dX0_playersWhoWouldEscape_4 : decode cX0_playersWhoWouldEscape 4 = .ok (.iconst 2, 1) := by decide +kernel
theorem dX0_playersWhoWouldEscape_5 : decode cX0_playersWhoWouldEscape 5 = .ok (.if_icmp .eq 7, 3) := by decide +kernel
theorem dX0_playersWhoWouldEscape_8 : decode cX0_playersWhoWouldEscape 8 = .ok (.sipush (-10003), 3) := by decide +kernel
theorem dX0_playersWhoWouldEscape_11 : decode cX0_playersWhoWouldEscape 11 = .ok (.ireturn, 1) := by decide +kernel
theorem dX0_playersWhoWouldEscape_12 : decode cX0_playersWhoWouldEscape 12 = .ok (.iconst 0, 1) := by decide +kernel
theorem dX0_playersWhoWouldEscape_13 : decode cX0_playersWhoWouldEscape 13 = .ok (.istore_n 1, 1) := by decide +kernel
theorem dX0_playersWhoWouldEscape_14 : decode cX0_playersWhoWouldEscape 14 = .ok (.iconst 0, 1) := by decide +kernel
theorem dX0_playersWhoWouldEscape_15 : decode cX0_playersWhoWouldEscape 15 = .ok (.istore_n 2, 1) := by decide +kernel
theorem dX0_playersWhoWouldEscape_16 : decode cX0_playersWhoWouldEscape 16 = .ok (.iload_n 2, 1) := by decide +kernel
theorem dX0_playersWhoWouldEscape_17 : decode cX0_playersWhoWouldEscape 17 = .ok (.aload_n 0, 1) := by decide +kernel
theorem dX0_playersWhoWouldEscape_18 : decode cX0_playersWhoWouldEscape 18 = .ok (.getfield 21, 3) := by decide +kernel
theorem dX0_playersWhoWouldEscape_21 : decode cX0_playersWhoWouldEscape 21 = .ok (.if_icmp .ge 23, 3) := by decide +kernel
theorem dX0_playersWhoWouldEscape_24 : decode cX0_playersWhoWouldEscape 24 = .ok (.aload_n 0, 1) := by decide +kernel
theorem dX0_playersWhoWouldEscape_25 : decode cX0_playersWhoWouldEscape 25 = .ok (.iload_n 2, 1) := by decide +kernel
theorem dX0_playersWhoWouldEscape_26 : decode cX0_playersWhoWouldEscape 26 = .ok (.invokevirtual 24, 3) := by decide +kernel
theorem dX0_playersWhoWouldEscape_29 : decode cX0_playersWhoWouldEscape 29 = .ok (.ifCond .eq 9, 3) := by decide +kernel
theorem dX0_playersWhoWouldEscape_32 : decode cX0_playersWhoWouldEscape 32 = .ok (.iload_n 1, 1) := by decide +kernel
theorem dX0_playersWhoWouldEscape_33 : decode cX0_playersWhoWouldEscape 33 = .ok (.iconst 1, 1) := by decide +kernel
theorem dX0_playersWhoWouldEscape_34 : decode cX0_playersWhoWouldEscape 34 = .ok (.iload_n 2, 1) := by decide +kernel
theorem dX0_playersWhoWouldEscape_35 : decode cX0_playersWhoWouldEscape 35 = .ok (.ishl, 1) := by decide +kernel
theorem dX0_playersWhoWouldEscape_36 : decode cX0_playersWhoWouldEscape 36 = .ok (.ior, 1) := by decide +kernel
theorem dX0_playersWhoWouldEscape_37 : decode cX0_playersWhoWouldEscape 37 = .ok (.istore_n 1, 1) := by decide +kernel
theorem dX0_playersWhoWouldEscape_38 : decode cX0_playersWhoWouldEscape 38 = .ok (.iinc 2 1, 3) := by decide +kernel
theorem dX0_playersWhoWouldEscape_41 : decode cX0_playersWhoWouldEscape 41 = .ok (.goto (-25), 3) := by decide +kernel
theorem dX0_playersWhoWouldEscape_44 : decode cX0_playersWhoWouldEscape 44 = .ok (.iload_n 1, 1) := by decide +kernel
theorem dX0_playersWhoWouldEscape_45 : decode cX0_playersWhoWouldEscape 45 = .ok (.ireturn, 1) := by decide +kernel
theorem dX0_bestHidingSpot_0 : decode cX0_bestHidingSpot 0 = .ok (.aload_n 0, 1) := by decide +kernel
theorem dX0_bestHidingSpot_1 : decode cX0_bestHidingSpot 1 = .ok (.getfield 9, 3) := by decide +kernel
theorem dX0_bestHidingSpot_4 : decode cX0_bestHidingSpot 4 = .ok (.iconst 1, 1) := by decide +kernel
theorem dX0_bestHidingSpot_5 : decode cX0_bestHidingSpot 5 = .ok (.if_icmp .eq 7, 3) := by decide +kernel
theorem dX0_bestHidingSpot_8 : decode cX0_bestHidingSpot 8 = .ok (.sipush (-10003), 3) := by decide +kernel
theorem dX0_bestHidingSpot_11 : decode cX0_bestHidingSpot 11 = .ok (.ireturn, 1) := by decide +kernel
theorem dX0_bestHidingSpot_12 : decode cX0_bestHidingSpot 12 = .ok (.sipush (-10006), 3) := by decide +kernel
theorem dX0_bestHidingSpot_15 : decode cX0_bestHidingSpot 15 = .ok (.istore_n 1, 1) := by decide +kernel
theorem dX0_bestHidingSpot_16 : decode cX0_bestHidingSpot 16 = .ok (.iconst 0, 1) := by decide +kernel
theorem dX0_bestHidingSpot_17 : decode cX0_bestHidingSpot 17 = .ok (.istore_n 2, 1) := by decide +kernel
theorem dX0_bestHidingSpot_18 : decode cX0_bestHidingSpot 18 = .ok (.iload_n 2, 1) := by decide +kernel
theorem dX0_bestHidingSpot_19 : decode cX0_bestHidingSpot 19 = .ok (.bipush 16, 2) := by decide +kernel
theorem dX0_bestHidingSpot_21 : decode cX0_bestHidingSpot 21 = .ok (.if_icmp .ge 35, 3) := by decide +kernel
theorem dX0_bestHidingSpot_24 : decode cX0_bestHidingSpot 24 = .ok (.aload_n 0, 1) := by decide +kernel
theorem dX0_bestHidingSpot_25 : decode cX0_bestHidingSpot 25 = .ok (.iload_n 2, 1) := by decide +kernel
theorem dX0_bestHidingSpot_26 : decode cX0_bestHidingSpot 26 = .ok (.invokevirtual 27, 3) := by decide +kernel
theorem dX0_bestHidingSpot_29 : decode cX0_bestHidingSpot 29 = .ok (.ifCond .eq 21, 3) := by decide +kernel
theorem dX0_bestHidingSpot_32 : decode cX0_bestHidingSpot 32 = .ok (.iload_n 1, 1) := by decide +kernel
theorem dX0_bestHidingSpot_33 : decode cX0_bestHidingSpot 33 = .ok (.invokestatic 30, 3) := by decide +kernel
theorem dX0_bestHidingSpot_36 : decode cX0_bestHidingSpot 36 = .ok (.ifCond .eq 12, 3) := by decide +kernel
theorem dX0_bestHidingSpot_39 : decode cX0_bestHidingSpot 39 = .ok (.aload_n 0, 1) := by decide +kernel
theorem dX0_bestHidingSpot_40 : decode cX0_bestHidingSpot 40 = .ok (.iload_n 2, 1) := by decide +kernel
theorem dX0_bestHidingSpot_41 : decode cX0_bestHidingSpot 41 = .ok (.iload_n 1, 1) := by decide +kernel
theorem dX0_bestHidingSpot_42 : decode cX0_bestHidingSpot 42 = .ok (.invokestatic 33, 3) := by decide +kernel
theorem dX0_bestHidingSpot_45 : decode cX0_bestHidingSpot 45 = .ok (.ifCond .eq 5, 3) := by decide +kernel
theorem dX0_bestHidingSpot_48 : decode cX0_bestHidingSpot 48 = .ok (.iload_n 2, 1) := by decide +kernel
theorem dX0_bestHidingSpot_49 : decode cX0_bestHidingSpot 49 = .ok (.istore_n 1, 1) := by decide +kernel
theorem dX0_bestHidingSpot_50 : decode cX0_bestHidingSpot 50 = .ok (.iinc 2 1, 3) := by decide +kernel
theorem dX0_bestHidingSpot_53 : decode cX0_bestHidingSpot 53 = .ok (.goto (-35), 3) := by decide +kernel
theorem dX0_bestHidingSpot_56 : decode cX0_bestHidingSpot 56 = .ok (.iload_n 1, 1) := by decide +kernel
theorem dX0_bestHidingSpot_57 : decode cX0_bestHidingSpot 57 = .ok (.ireturn, 1) := by decide +kernel
theorem dX0_isBetterToHide_0 : decode cX0_isBetterToHide 0 = .ok (.iload_n 1, 1) := by decide +kernel
theorem dX0_isBetterToHide_1 : decode cX0_isBetterToHide 1 = .ok (.invokestatic 39, 3) := by decide +kernel
theorem dX0_isBetterToHide_4 : decode cX0_isBetterToHide 4 = .ok (.iload_n 2, 1) := by decide +kernel
theorem dX0_isBetterToHide_5 : decode cX0_isBetterToHide 5 = .ok (.invokestatic 39, 3) := by decide +kernel
theorem dX0_isBetterToHide_8 : decode cX0_isBetterToHide 8 = .ok (.if_icmp .eq 20, 3) := by decide +kernel
theorem dX0_isBetterToHide_11 : decode cX0_isBetterToHide 11 = .ok (.iload_n 1, 1) := by decide +kernel
theorem dX0_isBetterToHide_12 : decode cX0_isBetterToHide 12 = .ok (.invokestatic 39, 3) := by decide +kernel
theorem dX0_isBetterToHide_15 : decode cX0_isBetterToHide 15 = .ok (.iload_n 2, 1) := by decide +kernel
theorem dX0_isBetterToHide_16 : decode cX0_isBetterToHide 16 = .ok (.invokestatic 39, 3) := by decide +kernel
theorem dX0_isBetterToHide_19 : decode cX0_isBetterToHide 19 = .ok (.if_icmp .le 7, 3) := by decide +kernel
theorem dX0_isBetterToHide_22 : decode cX0_isBetterToHide 22 = .ok (.iconst 1, 1) := by decide +kernel
theorem dX0_isBetterToHide_23 : decode cX0_isBetterToHide 23 = .ok (.goto 4, 3) := by decide +kernel
theorem dX0_isBetterToHide_26 : decode cX0_isBetterToHide 26 = .ok (.iconst 0, 1) := by decide +kernel
theorem dX0_isBetterToHide_27 : decode cX0_isBetterToHide 27 = .ok (.ireturn, 1) := by decide +kernel
theorem dX0_isBetterToHide_28 : decode cX0_isBetterToHide 28 = .ok (.aload_n 0, 1) := by decide +kernel
theorem dX0_isBetterToHide_29 : decode cX0_isBetterToHide 29 = .ok (.getfield 43, 3) := by decide +kernel
theorem dX0_isBetterToHide_32 : decode cX0_isBetterToHide 32 = .ok (.iload_n 1, 1) := by decide +kernel
theorem dX0_isBetterToHide_33 : decode cX0_isBetterToHide 33 = .ok (.iaload, 1) := by decide +kernel
theorem dX0_isBetterToHide_34 : decode cX0_isBetterToHide 34 = .ok (.aload_n 0, 1) := by decide +kernel
theorem dX0_isBetterToHide_35 : decode cX0_isBetterToHide 35 = .ok (.getfield 43, 3) := by decide +kernel
theorem dX0_isBetterToHide_38 : decode cX0_isBetterToHide 38 = .ok (.iload_n 2, 1) := by decide +kernel
theorem dX0_isBetterToHide_39 : decode cX0_isBetterToHide 39 = .ok (.iaload, 1) := by decide +kernel
theorem dX0_isBetterToHide_40 : decode cX0_isBetterToHide 40 = .ok (.if_icmp .eq 24, 3) := by decide +kernel
theorem dX0_isBetterToHide_43 : decode cX0_isBetterToHide 43 = .ok (.aload_n 0, 1) := by decide +kernel
theorem dX0_isBetterToHide_44 : decode cX0_isBetterToHide 44 = .ok (.getfield 43, 3) := by decide +kernel
theorem dX0_isBetterToHide_47 : decode cX0_isBetterToHide 47 = .ok (.iload_n 1, 1) := by decide +kernel
theorem dX0_isBetterToHide_48 : decode cX0_isBetterToHide 48 = .ok (.iaload, 1) := by decide +kernel
theorem dX0_isBetterToHide_49 : decode cX0_isBetterToHide 49 = .ok (.aload_n 0, 1) := by decide +kernel
theorem dX0_isBetterToHide_50 : decode cX0_isBetterToHide 50 = .ok (.getfield 43, 3) := by decide +kernel
theorem dX0_isBetterToHide_53 : decode cX0_isBetterToHide 53 = .ok (.iload_n 2, 1) := by decide +kernel
theorem dX0_isBetterToHide_54 : decode cX0_isBetterToHide 54 = .ok (.iaload, 1) := by decide +kernel
theorem dX0_isBetterToHide_55 : decode cX0_isBetterToHide 55 = .ok (.if_icmp .ge 7, 3) := by decide +kernel
theorem dX0_isBetterToHide_58 : decode cX0_isBetterToHide 58 = .ok (.iconst 1, 1) := by decide +kernel
theorem dX0_isBetterToHide_59 : decode cX0_isBetterToHide 59 = .ok (.goto 4, 3) := by decide +kernel
theorem dX0_isBetterToHide_62 : decode cX0_isBetterToHide 62 = .ok (.iconst 0, 1) := by decide +kernel
theorem dX0_isBetterToHide_63 : decode cX0_isBetterToHide 63 = .ok (.ireturn, 1) := by decide +kernel
theorem dX0_isBetterToHide_64 : decode cX0_isBetterToHide 64 = .ok (.aload_n 0, 1) := by decide +kernel
theorem dX0_isBetterToHide_65 : decode cX0_isBetterToHide 65 = .ok (.iload_n 1, 1) := by decide +kernel
theorem dX0_isBetterToHide_66 : decode cX0_isBetterToHide 66 = .ok (.invokevirtual 47, 3) := by decide +kernel
theorem dX0_isBetterToHide_69 : decode cX0_isBetterToHide 69 = .ok (.aload_n 0, 1) := by decide +kernel
theorem dX0_isBetterToHide_70 : decode cX0_isBetterToHide 70 = .ok (.iload_n 2, 1) := by decide +kernel
theorem dX0_isBetterToHide_71 : decode cX0_isBetterToHide 71 = .ok (.invokevirtual 47, 3) := by decide +kernel
theorem dX0_isBetterToHide_74 : decode cX0_isBetterToHide 74 = .ok (.if_icmp .eq 22, 3) := by decide +kernel
theorem dX0_isBetterToHide_77 : decode cX0_isBetterToHide 77 = .ok (.aload_n 0, 1) := by decide +kernel
theorem dX0_isBetterToHide_78 : decode cX0_isBetterToHide 78 = .ok (.iload_n 1, 1) := by decide +kernel
theorem dX0_isBetterToHide_79 : decode cX0_isBetterToHide 79 = .ok (.invokevirtual 47, 3) := by decide +kernel
theorem dX0_isBetterToHide_82 : decode cX0_isBetterToHide 82 = .ok (.aload_n 0, 1) := by decide +kernel
theorem dX0_isBetterToHide_83 : decode cX0_isBetterToHide 83 = .ok (.iload_n 2, 1) := by decide +kernel
theorem dX0_isBetterToHide_84 : decode cX0_isBetterToHide 84 = .ok (.invokevirtual 47, 3) := by decide +kernel
theorem dX0_isBetterToHide_87 : decode cX0_isBetterToHide 87 = .ok (.if_icmp .ge 7, 3) := by decide +kernel
theorem dX0_isBetterToHide_90 : decode cX0_isBetterToHide 90 = .ok (.iconst 1, 1) := by decide +kernel
theorem dX0_isBetterToHide_91 : decode cX0_isBetterToHide 91 = .ok (.goto 4, 3) := by decide +kernel
theorem dX0_isBetterToHide_94 : decode cX0_isBetterToHide 94 = .ok (.iconst 0, 1) := by decide +kernel
theorem dX0_isBetterToHide_95 : decode cX0_isBetterToHide 95 = .ok (.ireturn, 1) := by decide +kernel
theorem dX0_isBetterToHide_96 : decode cX0_isBetterToHide 96 = .ok (.iload_n 1, 1) := by decide +kernel
theorem dX0_isBetterToHide_97 : decode cX0_isBetterToHide 97 = .ok (.iload_n 2, 1) := by decide +kernel
theorem dX0_isBetterToHide_98 : decode cX0_isBetterToHide 98 = .ok (.if_icmp .ge 7, 3) := by decide +kernel
theorem dX0_isBetterToHide_101 : decode cX0_isBetterToHide 101 = .ok (.iconst 1, 1) := by decide +kernel
theorem dX0_isBetterToHide_102 : decode cX0_isBetterToHide 102 = .ok (.goto 4, 3) := by decide +kernel
theorem dX0_isBetterToHide_105 : decode cX0_isBetterToHide 105 = .ok (.iconst 0, 1) := by decide +kernel
theorem dX0_isBetterToHide_106 : decode cX0_isBetterToHide 106 = .ok (.ireturn, 1) := by decide +kernel
theorem dX0_stepsToSeeAll_0 : decode cX0_stepsToSeeAll 0 = .ok (.aload_n 0, 1) := by decide +kernel
theorem dX0_stepsToSeeAll_1 : decode cX0_stepsToSeeAll 1 = .ok (.getfield 9, 3) := by decide +kernel
theorem dX0_stepsToSeeAll_4 : decode cX0_stepsToSeeAll 4 = .ok (.iconst 2, 1) := by decide +kernel
theorem dX0_stepsToSeeAll_5 : decode cX0_stepsToSeeAll 5 = .ok (.if_icmp .eq 7, 3) := by decide +kernel
theorem dX0_stepsToSeeAll_8 : decode cX0_stepsToSeeAll 8 = .ok (.sipush (-10003), 3) := by decide +kernel
theorem dX0_stepsToSeeAll_11 : decode cX0_stepsToSeeAll 11 = .ok (.ireturn, 1) := by decide +kernel
theorem dX0_stepsToSeeAll_12 : decode cX0_stepsToSeeAll 12 = .ok (.bipush 16, 2) := by decide +kernel
theorem dX0_stepsToSeeAll_14 : decode cX0_stepsToSeeAll 14 = .ok (.istore_n 1, 1) := by decide +kernel
theorem dX0_stepsToSeeAll_15 : decode cX0_stepsToSeeAll 15 = .ok (.iconst 0, 1) := by decide +kernel
theorem dX0_stepsToSeeAll_16 : decode cX0_stepsToSeeAll 16 = .ok (.istore_n 2, 1) := by decide +kernel
theorem dX0_stepsToSeeAll_17 : decode cX0_stepsToSeeAll 17 = .ok (.iload_n 2, 1) := by decide +kernel
theorem dX0_stepsToSeeAll_18 : decode cX0_stepsToSeeAll 18 = .ok (.bipush 16, 2) := by decide +kernel
theorem dX0_stepsToSeeAll_20 : decode cX0_stepsToSeeAll 20 = .ok (.if_icmp .ge 29, 3) := by decide +kernel
theorem dX0_stepsToSeeAll_23 : decode cX0_stepsToSeeAll 23 = .ok (.aload_n 0, 1) := by decide +kernel
theorem dX0_stepsToSeeAll_24 : decode cX0_stepsToSeeAll 24 = .ok (.iload_n 2, 1) := by decide +kernel
theorem dX0_stepsToSeeAll_25 : decode cX0_stepsToSeeAll 25 = .ok (.invokestatic 50, 3) := by decide +kernel
theorem dX0_stepsToSeeAll_28 : decode cX0_stepsToSeeAll 28 = .ok (.istore_n 3, 1) := by decide +kernel
theorem dX0_stepsToSeeAll_29 : decode cX0_stepsToSeeAll 29 = .ok (.iload_n 1, 1) := by decide +kernel
theorem dX0_stepsToSeeAll_30 : decode cX0_stepsToSeeAll 30 = .ok (.iload_n 2, 1) := by decide +kernel
theorem dX0_stepsToSeeAll_31 : decode cX0_stepsToSeeAll 31 = .ok (.iload_n 3, 1) := by decide +kernel
theorem dX0_stepsToSeeAll_32 : decode cX0_stepsToSeeAll 32 = .ok (.iadd, 1) := by decide +kernel
theorem dX0_stepsToSeeAll_33 : decode cX0_stepsToSeeAll 33 = .ok (.iload_n 2, 1) := by decide +kernel
theorem dX0_stepsToSeeAll_34 : decode cX0_stepsToSeeAll 34 = .ok (.iload_n 3, 1) := by decide +kernel
theorem dX0_stepsToSeeAll_35 : decode cX0_stepsToSeeAll 35 = .ok (.invokestatic 54, 3) := by decide +kernel
theorem dX0_stepsToSeeAll_38 : decode cX0_stepsToSeeAll 38 = .ok (.iadd, 1) := by decide +kernel
theorem dX0_stepsToSeeAll_39 : decode cX0_stepsToSeeAll 39 = .ok (.invokestatic 54, 3) := by decide +kernel
theorem dX0_stepsToSeeAll_42 : decode cX0_stepsToSeeAll 42 = .ok (.istore_n 1, 1) := by decide +kernel
theorem dX0_stepsToSeeAll_43 : decode cX0_stepsToSeeAll 43 = .ok (.iinc 2 1, 3) := by decide +kernel
theorem dX0_stepsToSeeAll_46 : decode cX0_stepsToSeeAll 46 = .ok (.goto (-29), 3) := by decide +kernel
theorem dX0_stepsToSeeAll_49 : decode cX0_stepsToSeeAll 49 = .ok (.iload_n 1, 1) := by decide +kernel
theorem dX0_stepsToSeeAll_50 : decode cX0_stepsToSeeAll 50 = .ok (.ireturn, 1) := by decide +kernel
theorem dX0_stepsDownForTheRest_0 : decode cX0_stepsDownForTheRest 0 = .ok (.iconst 0, 1) := by decide +kernel
theorem dX0_stepsDownForTheRest_1 : decode cX0_stepsDownForTheRest 1 = .ok (.istore_n 2, 1) := by decide +kernel
theorem dX0_stepsDownForTheRest_2 : decode cX0_stepsDownForTheRest 2 = .ok (.iconst 0, 1) := by decide +kernel
theorem dX0_stepsDownForTheRest_3 : decode cX0_stepsDownForTheRest 3 = .ok (.istore_n 3, 1) := by decide +kernel
theorem dX0_stepsDownForTheRest_4 : decode cX0_stepsDownForTheRest 4 = .ok (.iload_n 3, 1) := by decide +kernel
theorem dX0_stepsDownForTheRest_5 : decode cX0_stepsDownForTheRest 5 = .ok (.aload_n 0, 1) := by decide +kernel
theorem dX0_stepsDownForTheRest_6 : decode cX0_stepsDownForTheRest 6 = .ok (.getfield 21, 3) := by decide +kernel
theorem dX0_stepsDownForTheRest_9 : decode cX0_stepsDownForTheRest 9 = .ok (.if_icmp .ge 79, 3) := by decide +kernel
theorem dX0_stepsDownForTheRest_12 : decode cX0_stepsDownForTheRest 12 = .ok (.aload_n 0, 1) := by decide +kernel
theorem dX0_stepsDownForTheRest_13 : decode cX0_stepsDownForTheRest 13 = .ok (.iload_n 3, 1) := by decide +kernel
theorem dX0_stepsDownForTheRest_14 : decode cX0_stepsDownForTheRest 14 = .ok (.invokevirtual 60, 3) := by decide +kernel
theorem dX0_stepsDownForTheRest_17 : decode cX0_stepsDownForTheRest 17 = .ok (.ifCond .eq 65, 3) := by decide +kernel
theorem dX0_stepsDownForTheRest_20 : decode cX0_stepsDownForTheRest 20 = .ok (.aload_n 0, 1) := by decide +kernel
theorem dX0_stepsDownForTheRest_21 : decode cX0_stepsDownForTheRest 21 = .ok (.aload_n 0, 1) := by decide +kernel
theorem dX0_stepsDownForTheRest_22 : decode cX0_stepsDownForTheRest 22 = .ok (.getfield 63, 3) := by decide +kernel
theorem dX0_stepsDownForTheRest_25 : decode cX0_stepsDownForTheRest 25 = .ok (.iload_n 3, 1) := by decide +kernel
theorem dX0_stepsDownForTheRest_26 : decode cX0_stepsDownForTheRest 26 = .ok (.iaload, 1) := by decide +kernel
theorem dX0_stepsDownForTheRest_27 : decode cX0_stepsDownForTheRest 27 = .ok (.invokevirtual 17, 3) := by decide +kernel
theorem dX0_stepsDownForTheRest_30 : decode cX0_stepsDownForTheRest 30 = .ok (.ifCond .ne 52, 3) := by decide +kernel
theorem dX0_stepsDownForTheRest_33 : decode cX0_stepsDownForTheRest 33 = .ok (.aload_n 0, 1) := by decide +kernel
theorem dX0_stepsDownForTheRest_34 : decode cX0_stepsDownForTheRest 34 = .ok (.getfield 66, 3) := by decide +kernel
theorem dX0_stepsDownForTheRest_37 : decode cX0_stepsDownForTheRest 37 = .ok (.aload_n 0, 1) := by decide +kernel
theorem dX0_stepsDownForTheRest_38 : decode cX0_stepsDownForTheRest 38 = .ok (.getfield 63, 3) := by decide +kernel
theorem dX0_stepsDownForTheRest_41 : decode cX0_stepsDownForTheRest 41 = .ok (.iload_n 3, 1) := by decide +kernel
theorem dX0_stepsDownForTheRest_42 : decode cX0_stepsDownForTheRest 42 = .ok (.iaload, 1) := by decide +kernel
theorem dX0_stepsDownForTheRest_43 : decode cX0_stepsDownForTheRest 43 = .ok (.invokestatic 69, 3) := by decide +kernel
theorem dX0_stepsDownForTheRest_46 : decode cX0_stepsDownForTheRest 46 = .ok (.istore 4, 2) := by decide +kernel
theorem dX0_stepsDownForTheRest_48 : decode cX0_stepsDownForTheRest 48 = .ok (.bipush 16, 2) := by decide +kernel
theorem dX0_stepsDownForTheRest_50 : decode cX0_stepsDownForTheRest 50 = .ok (.iload 4, 2) := by decide +kernel
theorem dX0_stepsDownForTheRest_52 : decode cX0_stepsDownForTheRest 52 = .ok (.isub, 1) := by decide +kernel
theorem dX0_stepsDownForTheRest_53 : decode cX0_stepsDownForTheRest 53 = .ok (.istore 5, 2) := by decide +kernel
theorem dX0_stepsDownForTheRest_55 : decode cX0_stepsDownForTheRest 55 = .ok (.iload 4, 2) := by decide +kernel
theorem dX0_stepsDownForTheRest_57 : decode cX0_stepsDownForTheRest 57 = .ok (.aload_n 0, 1) := by decide +kernel
theorem dX0_stepsDownForTheRest_58 : decode cX0_stepsDownForTheRest 58 = .ok (.getfield 72, 3) := by decide +kernel
theorem dX0_stepsDownForTheRest_61 : decode cX0_stepsDownForTheRest 61 = .ok (.iconst 0, 1) := by decide +kernel
theorem dX0_stepsDownForTheRest_62 : decode cX0_stepsDownForTheRest 62 = .ok (.iaload, 1) := by decide +kernel
theorem dX0_stepsDownForTheRest_63 : decode cX0_stepsDownForTheRest 63 = .ok (.isub, 1) := by decide +kernel
theorem dX0_stepsDownForTheRest_64 : decode cX0_stepsDownForTheRest 64 = .ok (.iload_n 1, 1) := by decide +kernel
theorem dX0_stepsDownForTheRest_65 : decode cX0_stepsDownForTheRest 65 = .ok (.if_icmp .le 17, 3) := by decide +kernel
theorem dX0_stepsDownForTheRest_68 : decode cX0_stepsDownForTheRest 68 = .ok (.iload_n 2, 1) := by decide +kernel
theorem dX0_stepsDownForTheRest_69 : decode cX0_stepsDownForTheRest 69 = .ok (.iload 5, 2) := by decide +kernel
theorem dX0_stepsDownForTheRest_71 : decode cX0_stepsDownForTheRest 71 = .ok (.aload_n 0, 1) := by decide +kernel
theorem dX0_stepsDownForTheRest_72 : decode cX0_stepsDownForTheRest 72 = .ok (.getfield 72, 3) := by decide +kernel
theorem dX0_stepsDownForTheRest_75 : decode cX0_stepsDownForTheRest 75 = .ok (.iconst 0, 1) := by decide +kernel
theorem dX0_stepsDownForTheRest_76 : decode cX0_stepsDownForTheRest 76 = .ok (.iaload, 1) := by decide +kernel
theorem dX0_stepsDownForTheRest_77 : decode cX0_stepsDownForTheRest 77 = .ok (.isub, 1) := by decide +kernel
theorem dX0_stepsDownForTheRest_78 : decode cX0_stepsDownForTheRest 78 = .ok (.invokestatic 75, 3) := by decide +kernel
theorem dX0_stepsDownForTheRest_81 : decode cX0_stepsDownForTheRest 81 = .ok (.istore_n 2, 1) := by decide +kernel
theorem dX0_stepsDownForTheRest_82 : decode cX0_stepsDownForTheRest 82 = .ok (.iinc 3 1, 3) := by decide +kernel
theorem dX0_stepsDownForTheRest_85 : decode cX0_stepsDownForTheRest 85 = .ok (.goto (-81), 3) := by decide +kernel
theorem dX0_stepsDownForTheRest_88 : decode cX0_stepsDownForTheRest 88 = .ok (.iload_n 2, 1) := by decide +kernel
theorem dX0_stepsDownForTheRest_89 : decode cX0_stepsDownForTheRest 89 = .ok (.ireturn, 1) := by decide +kernel
theorem dX1_init_0 : decode cX1_init 0 = .ok (.aload_n 0, 1) := by decide +kernel
theorem dX1_init_1 : decode cX1_init 1 = .ok (.invokespecial 3, 3) := by decide +kernel
theorem dX1_init_4 : decode cX1_init 4 = .ok (.aload_n 0, 1) := by decide +kernel
theorem dX1_init_5 : decode cX1_init 5 = .ok (.bipush 60, 2) := by decide +kernel
theorem dX1_init_7 : decode cX1_init 7 = .ok (.newarray .int, 2) := by decide +kernel
theorem dX1_init_9 : decode cX1_init 9 = .ok (.putfield 9, 3) := by decide +kernel
theorem dX1_init_12 : decode cX1_init 12 = .ok (.aload_n 0, 1) := by decide +kernel
theorem dX1_init_13 : decode cX1_init 13 = .ok (.iconst 0, 1) := by decide +kernel
theorem dX1_init_14 : decode cX1_init 14 = .ok (.putfield 15, 3) := by decide +kernel
theorem dX1_init_17 : decode cX1_init 17 = .ok (.return_, 1) := by decide +kernel
theorem dX1_add_0 : decode cX1_add 0 = .ok (.iload_n 1, 1) := by decide +kernel
theorem dX1_add_1 : decode cX1_add 1 = .ok (.bipush 33, 2) := by decide +kernel
theorem dX1_add_3 : decode cX1_add 3 = .ok (.if_icmp .lt 9, 3) := by decide +kernel
theorem dX1_add_6 : decode cX1_add 6 = .ok (.iload_n 1, 1) := by decide +kernel
theorem dX1_add_7 : decode cX1_add 7 = .ok (.bipush 126, 2) := by decide +kernel
theorem dX1_add_9 : decode cX1_add 9 = .ok (.if_icmp .le 7, 3) := by decide +kernel
theorem dX1_add_12 : decode cX1_add 12 = .ok (.sipush (-10002), 3) := by decide +kernel
theorem dX1_add_15 : decode cX1_add 15 = .ok (.ireturn, 1) := by decide +kernel
theorem dX1_add_16 : decode cX1_add 16 = .ok (.aload_n 0, 1) := by decide +kernel
theorem dX1_add_17 : decode cX1_add 17 = .ok (.getfield 15, 3) := by decide +kernel
theorem dX1_add_20 : decode cX1_add 20 = .ok (.bipush 60, 2) := by decide +kernel
theorem dX1_add_22 : decode cX1_add 22 = .ok (.if_icmp .lt 7, 3) := by decide +kernel
theorem dX1_add_25 : decode cX1_add 25 = .ok (.sipush (-10004), 3) := by decide +kernel
theorem dX1_add_28 : decode cX1_add 28 = .ok (.ireturn, 1) := by decide +kernel
theorem dX1_add_29 : decode cX1_add 29 = .ok (.aload_n 0, 1) := by decide +kernel
theorem dX1_add_30 : decode cX1_add 30 = .ok (.getfield 9, 3) := by decide +kernel
theorem dX1_add_33 : decode cX1_add 33 = .ok (.aload_n 0, 1) := by decide +kernel
theorem dX1_add_34 : decode cX1_add 34 = .ok (.getfield 15, 3) := by decide +kernel
theorem dX1_add_37 : decode cX1_add 37 = .ok (.iload_n 1, 1) := by decide +kernel
theorem dX1_add_38 : decode cX1_add 38 = .ok (.iastore, 1) := by decide +kernel
theorem dX1_add_39 : decode cX1_add 39 = .ok (.aload_n 0, 1) := by decide +kernel
theorem dX1_add_40 : decode cX1_add 40 = .ok (.dup, 1) := by decide +kernel
theorem dX1_add_41 : decode cX1_add 41 = .ok (.getfield 15, 3) := by decide +kernel
theorem dX1_add_44 : decode cX1_add 44 = .ok (.iconst 1, 1) := by decide +kernel
theorem dX1_add_45 : decode cX1_add 45 = .ok (.iadd, 1) := by decide +kernel
theorem dX1_add_46 : decode cX1_add 46 = .ok (.putfield 15, 3) := by decide +kernel
theorem dX1_add_49 : decode cX1_add 49 = .ok (.aload_n 0, 1) := by decide +kernel
theorem dX1_add_50 : decode cX1_add 50 = .ok (.getfield 15, 3) := by decide +kernel
theorem dX1_add_53 : decode cX1_add 53 = .ok (.ireturn, 1) := by decide +kernel
theorem dX1_empty_0 : decode cX1_empty 0 = .ok (.aload_n 0, 1) := by decide +kernel
theorem dX1_empty_1 : decode cX1_empty 1 = .ok (.getfield 15, 3) := by decide +kernel
theorem dX1_empty_4 : decode cX1_empty 4 = .ok (.istore_n 1, 1) := by decide +kernel
theorem dX1_empty_5 : decode cX1_empty 5 = .ok (.aload_n 0, 1) := by decide +kernel
theorem dX1_empty_6 : decode cX1_empty 6 = .ok (.iconst 0, 1) := by decide +kernel
theorem dX1_empty_7 : decode cX1_empty 7 = .ok (.putfield 15, 3) := by decide +kernel
theorem dX1_empty_10 : decode cX1_empty 10 = .ok (.iload_n 1, 1) := by decide +kernel
theorem dX1_empty_11 : decode cX1_empty 11 = .ok (.ireturn, 1) := by decide +kernel
theorem dX1_signAt_0 : decode cX1_signAt 0 = .ok (.iload_n 1, 1) := by decide +kernel
theorem dX1_signAt_1 : decode cX1_signAt 1 = .ok (.ifCond .lt 20, 3) := by decide +kernel
theorem dX1_signAt_4 : decode cX1_signAt 4 = .ok (.iload_n 1, 1) := by decide +kernel
theorem dX1_signAt_5 : decode cX1_signAt 5 = .ok (.aload_n 0, 1) := by decide +kernel
theorem dX1_signAt_6 : decode cX1_signAt 6 = .ok (.getfield 15, 3) := by decide +kernel
theorem dX1_signAt_9 : decode cX1_signAt 9 = .ok (.if_icmp .ge 12, 3) := by decide +kernel
theorem dX1_signAt_12 : decode cX1_signAt 12 = .ok (.aload_n 0, 1) := by decide +kernel
theorem dX1_signAt_13 : decode cX1_signAt 13 = .ok (.getfield 9, 3) := by decide +kernel
theorem dX1_signAt_16 : decode cX1_signAt 16 = .ok (.iload_n 1, 1) := by decide +kernel
theorem dX1_signAt_17 : decode cX1_signAt 17 = .ok (.iaload, 1) := by decide +kernel
theorem dX1_signAt_18 : decode cX1_signAt 18 = .ok (.goto 5, 3) := by decide +kernel
theorem dX1_signAt_21 : decode cX1_signAt 21 = .ok (.bipush 32, 2) := by decide +kernel
theorem dX1_signAt_23 : decode cX1_signAt 23 = .ok (.ireturn, 1) := by decide +kernel
theorem dX1_startsMove_0 : decode cX1_startsMove 0 = .ok (.iload_n 1, 1) := by decide +kernel
theorem dX1_startsMove_1 : decode cX1_startsMove 1 = .ok (.aload_n 0, 1) := by decide +kernel
theorem dX1_startsMove_2 : decode cX1_startsMove 2 = .ok (.getfield 15, 3) := by decide +kernel
theorem dX1_startsMove_5 : decode cX1_startsMove 5 = .ok (.if_icmp .ge 23, 3) := by decide +kernel
theorem dX1_startsMove_8 : decode cX1_startsMove 8 = .ok (.iload_n 1, 1) := by decide +kernel
theorem dX1_startsMove_9 : decode cX1_startsMove 9 = .ok (.ifCond .eq 15, 3) := by decide +kernel
theorem dX1_startsMove_12 : decode cX1_startsMove 12 = .ok (.aload_n 0, 1) := by decide +kernel
theorem dX1_startsMove_13 : decode cX1_startsMove 13 = .ok (.iload_n 1, 1) := by decide +kernel
theorem dX1_startsMove_14 : decode cX1_startsMove 14 = .ok (.iconst 1, 1) := by decide +kernel
theorem dX1_startsMove_15 : decode cX1_startsMove 15 = .ok (.isub, 1) := by decide +kernel
theorem dX1_startsMove_16 : decode cX1_startsMove 16 = .ok (.invokevirtual 19, 3) := by decide +kernel
theorem dX1_startsMove_19 : decode cX1_startsMove 19 = .ok (.bipush 44, 2) := by decide +kernel
theorem dX1_startsMove_21 : decode cX1_startsMove 21 = .ok (.if_icmp .ne 7, 3) := by decide +kernel
theorem dX1_startsMove_24 : decode cX1_startsMove 24 = .ok (.iconst 1, 1) := by decide +kernel
theorem dX1_startsMove_25 : decode cX1_startsMove 25 = .ok (.goto 4, 3) := by decide +kernel
theorem dX1_startsMove_28 : decode cX1_startsMove 28 = .ok (.iconst 0, 1) := by decide +kernel
theorem dX1_startsMove_29 : decode cX1_startsMove 29 = .ok (.ireturn, 1) := by decide +kernel
theorem dX1_firstError_0 : decode cX1_firstError 0 = .ok (.iconst 1, 1) := by decide +kernel
theorem dX1_firstError_1 : decode cX1_firstError 1 = .ok (.istore_n 1, 1) := by decide +kernel
theorem dX1_firstError_2 : decode cX1_firstError 2 = .ok (.iconst 0, 1) := by decide +kernel
theorem dX1_firstError_3 : decode cX1_firstError 3 = .ok (.istore_n 2, 1) := by decide +kernel
theorem dX1_firstError_4 : decode cX1_firstError 4 = .ok (.iload_n 2, 1) := by decide +kernel
theorem dX1_firstError_5 : decode cX1_firstError 5 = .ok (.aload_n 0, 1) := by decide +kernel
theorem dX1_firstError_6 : decode cX1_firstError 6 = .ok (.getfield 15, 3) := by decide +kernel
theorem dX1_firstError_9 : decode cX1_firstError 9 = .ok (.if_icmp .ge 26, 3) := by decide +kernel
theorem dX1_firstError_12 : decode cX1_firstError 12 = .ok (.iload_n 1, 1) := by decide +kernel
theorem dX1_firstError_13 : decode cX1_firstError 13 = .ok (.aload_n 0, 1) := by decide +kernel
theorem dX1_firstError_14 : decode cX1_firstError 14 = .ok (.getfield 9, 3) := by decide +kernel
theorem dX1_firstError_17 : decode cX1_firstError 17 = .ok (.iload_n 2, 1) := by decide +kernel
theorem dX1_firstError_18 : decode cX1_firstError 18 = .ok (.iaload, 1) := by decide +kernel
theorem dX1_firstError_19 : decode cX1_firstError 19 = .ok (.invokestatic 23, 3) := by decide +kernel
theorem dX1_firstError_22 : decode cX1_firstError 22 = .ok (.istore_n 1, 1) := by decide +kernel
theorem dX1_firstError_23 : decode cX1_firstError 23 = .ok (.iload_n 1, 1) := by decide +kernel
theorem dX1_firstError_24 : decode cX1_firstError 24 = .ok (.ifCond .ne 5, 3) := by decide +kernel
theorem dX1_firstError_27 : decode cX1_firstError 27 = .ok (.iload_n 2, 1) := by decide +kernel
theorem dX1_firstError_28 : decode cX1_firstError 28 = .ok (.ireturn, 1) := by decide +kernel
theorem dX1_firstError_29 : decode cX1_firstError 29 = .ok (.iinc 2 1, 3) := by decide +kernel
theorem dX1_firstError_32 : decode cX1_firstError 32 = .ok (.goto (-28), 3) := by decide +kernel
theorem dX1_firstError_35 : decode cX1_firstError 35 = .ok (.iload_n 1, 1) := by decide +kernel
theorem dX1_firstError_36 : decode cX1_firstError 36 = .ok (.iconst 5, 1) := by decide +kernel
theorem dX1_firstError_37 : decode cX1_firstError 37 = .ok (.if_icmp .ne 9, 3) := by decide +kernel
theorem dX1_firstError_40 : decode cX1_firstError 40 = .ok (.sipush (-10006), 3) := by decide +kernel
theorem dX1_firstError_43 : decode cX1_firstError 43 = .ok (.goto 7, 3) := by decide +kernel
theorem dX1_firstError_46 : decode cX1_firstError 46 = .ok (.aload_n 0, 1) := by decide +kernel
theorem dX1_firstError_47 : decode cX1_firstError 47 = .ok (.getfield 15, 3) := by decide +kernel
theorem dX1_firstError_50 : decode cX1_firstError 50 = .ok (.ireturn, 1) := by decide +kernel
theorem dX1_expectedAfter_0 : decode cX1_expectedAfter 0 = .ok (.iload_n 0, 1) := by decide +kernel
theorem dX1_expectedAfter_1 : decode cX1_expectedAfter 1 = .ok (.tableswitch 91 1 5 #[35, 40, 53, 66, 79], 35) := by decide +kernel
theorem dX1_expectedAfter_36 : decode cX1_expectedAfter 36 = .ok (.iload_n 1, 1) := by decide +kernel
theorem dX1_expectedAfter_37 : decode cX1_expectedAfter 37 = .ok (.invokestatic 27, 3) := by decide +kernel
theorem dX1_expectedAfter_40 : decode cX1_expectedAfter 40 = .ok (.ireturn, 1) := by decide +kernel
theorem dX1_expectedAfter_41 : decode cX1_expectedAfter 41 = .ok (.iload_n 1, 1) := by decide +kernel
theorem dX1_expectedAfter_42 : decode cX1_expectedAfter 42 = .ok (.invokestatic 30, 3) := by decide +kernel
theorem dX1_expectedAfter_45 : decode cX1_expectedAfter 45 = .ok (.ifCond .eq 7, 3) := by decide +kernel
theorem dX1_expectedAfter_48 : decode cX1_expectedAfter 48 = .ok (.iconst 4, 1) := by decide +kernel
theorem dX1_expectedAfter_49 : decode cX1_expectedAfter 49 = .ok (.goto 4, 3) := by decide +kernel
theorem dX1_expectedAfter_52 : decode cX1_expectedAfter 52 = .ok (.iconst 0, 1) := by decide +kernel
theorem dX1_expectedAfter_53 : decode cX1_expectedAfter 53 = .ok (.ireturn, 1) := by decide +kernel
theorem dX1_expectedAfter_54 : decode cX1_expectedAfter 54 = .ok (.iload_n 1, 1) := by decide +kernel
theorem dX1_expectedAfter_55 : decode cX1_expectedAfter 55 = .ok (.invokestatic 30, 3) := by decide +kernel
theorem dX1_expectedAfter_58 : decode cX1_expectedAfter 58 = .ok (.ifCond .eq 7, 3) := by decide +kernel
theorem dX1_expectedAfter_61 : decode cX1_expectedAfter 61 = .ok (.iconst 5, 1) := by decide +kernel
theorem dX1_expectedAfter_62 : decode cX1_expectedAfter 62 = .ok (.goto 4, 3) := by decide +kernel
theorem dX1_expectedAfter_65 : decode cX1_expectedAfter 65 = .ok (.iconst 0, 1) := by decide +kernel
theorem dX1_expectedAfter_66 : decode cX1_expectedAfter 66 = .ok (.ireturn, 1) := by decide +kernel
theorem dX1_expectedAfter_67 : decode cX1_expectedAfter 67 = .ok (.iload_n 1, 1) := by decide +kernel
theorem dX1_expectedAfter_68 : decode cX1_expectedAfter 68 = .ok (.invokestatic 34, 3) := by decide +kernel
theorem dX1_expectedAfter_71 : decode cX1_expectedAfter 71 = .ok (.ifCond .eq 7, 3) := by decide +kernel
theorem dX1_expectedAfter_74 : decode cX1_expectedAfter 74 = .ok (.iconst 5, 1) := by decide +kernel
theorem dX1_expectedAfter_75 : decode cX1_expectedAfter 75 = .ok (.goto 4, 3) := by decide +kernel
theorem dX1_expectedAfter_78 : decode cX1_expectedAfter 78 = .ok (.iconst 0, 1) := by decide +kernel
theorem dX1_expectedAfter_79 : decode cX1_expectedAfter 79 = .ok (.ireturn, 1) := by decide +kernel
theorem dX1_expectedAfter_80 : decode cX1_expectedAfter 80 = .ok (.iload_n 1, 1) := by decide +kernel
theorem dX1_expectedAfter_81 : decode cX1_expectedAfter 81 = .ok (.bipush 44, 2) := by decide +kernel
theorem dX1_expectedAfter_83 : decode cX1_expectedAfter 83 = .ok (.if_icmp .ne 7, 3) := by decide +kernel
theorem dX1_expectedAfter_86 : decode cX1_expectedAfter 86 = .ok (.iconst 1, 1) := by decide +kernel
theorem dX1_expectedAfter_87 : decode cX1_expectedAfter 87 = .ok (.goto 4, 3) := by decide +kernel
theorem dX1_expectedAfter_90 : decode cX1_expectedAfter 90 = .ok (.iconst 0, 1) := by decide +kernel
theorem dX1_expectedAfter_91 : decode cX1_expectedAfter 91 = .ok (.ireturn, 1) := by decide +kernel
theorem dX1_expectedAfter_92 : decode cX1_expectedAfter 92 = .ok (.iconst 0, 1) := by decide +kernel
theorem dX1_expectedAfter_93 : decode cX1_expectedAfter 93 = .ok (.ireturn, 1) := by decide +kernel
theorem dX1_expectedAfterLetter_0 : decode cX1_expectedAfterLetter 0 = .ok (.iload_n 0, 1) := by decide +kernel
theorem dX1_expectedAfterLetter_1 : decode cX1_expectedAfterLetter 1 = .ok (.lookupswitch 65 #[(43, 63), (45, 63), (98, 63), (99, 59), (100, 61), (104, 59)], 59) := by decide +kernel
theorem dX1_expectedAfterLetter_60 : decode cX1_expectedAfterLetter 60 = .ok (.iconst 2, 1) := by decide +kernel
theorem dX1_expectedAfterLetter_61 : decode cX1_expectedAfterLetter 61 = .ok (.ireturn, 1) := by decide +kernel
theorem dX1_expectedAfterLetter_62 : decode cX1_expectedAfterLetter 62 = .ok (.iconst 3, 1) := by decide +kernel
theorem dX1_expectedAfterLetter_63 : decode cX1_expectedAfterLetter 63 = .ok (.ireturn, 1) := by decide +kernel
theorem dX1_expectedAfterLetter_64 : decode cX1_expectedAfterLetter 64 = .ok (.iconst 5, 1) := by decide +kernel
theorem dX1_expectedAfterLetter_65 : decode cX1_expectedAfterLetter 65 = .ok (.ireturn, 1) := by decide +kernel
theorem dX1_expectedAfterLetter_66 : decode cX1_expectedAfterLetter 66 = .ok (.iconst 0, 1) := by decide +kernel
theorem dX1_expectedAfterLetter_67 : decode cX1_expectedAfterLetter 67 = .ok (.ireturn, 1) := by decide +kernel
theorem dX1_isPlayerDigit_0 : decode cX1_isPlayerDigit 0 = .ok (.iload_n 0, 1) := by decide +kernel
theorem dX1_isPlayerDigit_1 : decode cX1_isPlayerDigit 1 = .ok (.bipush 48, 2) := by decide +kernel
theorem dX1_isPlayerDigit_3 : decode cX1_isPlayerDigit 3 = .ok (.if_icmp .lt 13, 3) := by decide +kernel
theorem dX1_isPlayerDigit_6 : decode cX1_isPlayerDigit 6 = .ok (.iload_n 0, 1) := by decide +kernel
theorem dX1_isPlayerDigit_7 : decode cX1_isPlayerDigit 7 = .ok (.bipush 55, 2) := by decide +kernel
theorem dX1_isPlayerDigit_9 : decode cX1_isPlayerDigit 9 = .ok (.if_icmp .gt 7, 3) := by decide +kernel
theorem dX1_isPlayerDigit_12 : decode cX1_isPlayerDigit 12 = .ok (.iconst 1, 1) := by decide +kernel
theorem dX1_isPlayerDigit_13 : decode cX1_isPlayerDigit 13 = .ok (.goto 4, 3) := by decide +kernel
theorem dX1_isPlayerDigit_16 : decode cX1_isPlayerDigit 16 = .ok (.iconst 0, 1) := by decide +kernel
theorem dX1_isPlayerDigit_17 : decode cX1_isPlayerDigit 17 = .ok (.ireturn, 1) := by decide +kernel
theorem dX1_isSpotLetter_0 : decode cX1_isSpotLetter 0 = .ok (.iload_n 0, 1) := by decide +kernel
theorem dX1_isSpotLetter_1 : decode cX1_isSpotLetter 1 = .ok (.bipush 97, 2) := by decide +kernel
theorem dX1_isSpotLetter_3 : decode cX1_isSpotLetter 3 = .ok (.if_icmp .lt 13, 3) := by decide +kernel
theorem dX1_isSpotLetter_6 : decode cX1_isSpotLetter 6 = .ok (.iload_n 0, 1) := by decide +kernel
theorem dX1_isSpotLetter_7 : decode cX1_isSpotLetter 7 = .ok (.bipush 112, 2) := by decide +kernel
theorem dX1_isSpotLetter_9 : decode cX1_isSpotLetter 9 = .ok (.if_icmp .gt 7, 3) := by decide +kernel
theorem dX1_isSpotLetter_12 : decode cX1_isSpotLetter 12 = .ok (.iconst 1, 1) := by decide +kernel
theorem dX1_isSpotLetter_13 : decode cX1_isSpotLetter 13 = .ok (.goto 4, 3) := by decide +kernel
theorem dX1_isSpotLetter_16 : decode cX1_isSpotLetter 16 = .ok (.iconst 0, 1) := by decide +kernel
theorem dX1_isSpotLetter_17 : decode cX1_isSpotLetter 17 = .ok (.ireturn, 1) := by decide +kernel
theorem dX2_changeSetting_0 : decode cX2_changeSetting 0 = .ok (.iload_n 1, 1) := by decide +kernel
theorem dX2_changeSetting_1 : decode cX2_changeSetting 1 = .ok (.invokestatic 9, 3) := by decide +kernel
theorem dX2_changeSetting_4 : decode cX2_changeSetting 4 = .ok (.ifCond .ne 7, 3) := by decide +kernel
theorem dX2_changeSetting_7 : decode cX2_changeSetting 7 = .ok (.sipush (-10002), 3) := by decide +kernel
theorem dX2_changeSetting_10 : decode cX2_changeSetting 10 = .ok (.ireturn, 1) := by decide +kernel
theorem dX2_changeSetting_11 : decode cX2_changeSetting 11 = .ok (.iload_n 2, 1) := by decide +kernel
theorem dX2_changeSetting_12 : decode cX2_changeSetting 12 = .ok (.getstatic 15, 3) := by decide +kernel
theorem dX2_changeSetting_15 : decode cX2_changeSetting 15 = .ok (.iload_n 1, 1) := by decide +kernel
theorem dX2_changeSetting_16 : decode cX2_changeSetting 16 = .ok (.iaload, 1) := by decide +kernel
theorem dX2_changeSetting_17 : decode cX2_changeSetting 17 = .ok (.if_icmp .lt 12, 3) := by decide +kernel
theorem dX2_changeSetting_20 : decode cX2_changeSetting 20 = .ok (.iload_n 2, 1) := by decide +kernel
theorem dX2_changeSetting_21 : decode cX2_changeSetting 21 = .ok (.getstatic 19, 3) := by decide +kernel
theorem dX2_changeSetting_24 : decode cX2_changeSetting 24 = .ok (.iload_n 1, 1) := by decide +kernel
theorem dX2_changeSetting_25 : decode cX2_changeSetting 25 = .ok (.iaload, 1) := by decide +kernel
theorem dX2_changeSetting_26 : decode cX2_changeSetting 26 = .ok (.if_icmp .le 7, 3) := by decide +kernel
theorem dX2_changeSetting_29 : decode cX2_changeSetting 29 = .ok (.sipush (-10002), 3) := by decide +kernel
theorem dX2_changeSetting_32 : decode cX2_changeSetting 32 = .ok (.ireturn, 1) := by decide +kernel
theorem dX2_changeSetting_33 : decode cX2_changeSetting 33 = .ok (.aload_n 0, 1) := by decide +kernel
theorem dX2_changeSetting_34 : decode cX2_changeSetting 34 = .ok (.getfield 22, 3) := by decide +kernel
theorem dX2_changeSetting_37 : decode cX2_changeSetting 37 = .ok (.iload_n 1, 1) := by decide +kernel
theorem dX2_changeSetting_38 : decode cX2_changeSetting 38 = .ok (.iaload, 1) := by decide +kernel
theorem dX2_changeSetting_39 : decode cX2_changeSetting 39 = .ok (.istore_n 3, 1) := by decide +kernel
theorem dX2_changeSetting_40 : decode cX2_changeSetting 40 = .ok (.aload_n 0, 1) := by decide +kernel
theorem dX2_changeSetting_41 : decode cX2_changeSetting 41 = .ok (.getfield 22, 3) := by decide +kernel
theorem dX2_changeSetting_44 : decode cX2_changeSetting 44 = .ok (.iload_n 1, 1) := by decide +kernel
theorem dX2_changeSetting_45 : decode cX2_changeSetting 45 = .ok (.iload_n 2, 1) := by decide +kernel
theorem dX2_changeSetting_46 : decode cX2_changeSetting 46 = .ok (.iastore, 1) := by decide +kernel
theorem dX2_changeSetting_47 : decode cX2_changeSetting 47 = .ok (.iload_n 3, 1) := by decide +kernel
theorem dX2_changeSetting_48 : decode cX2_changeSetting 48 = .ok (.ireturn, 1) := by decide +kernel
theorem dX2_addPlayer_0 : decode cX2_addPlayer 0 = .ok (.aload_n 0, 1) := by decide +kernel
theorem dX2_addPlayer_1 : decode cX2_addPlayer 1 = .ok (.getfield 25, 3) := by decide +kernel
theorem dX2_addPlayer_4 : decode cX2_addPlayer 4 = .ok (.ifCond .eq 7, 3) := by decide +kernel
theorem dX2_addPlayer_7 : decode cX2_addPlayer 7 = .ok (.sipush (-10003), 3) := by decide +kernel
theorem dX2_addPlayer_10 : decode cX2_addPlayer 10 = .ok (.ireturn, 1) := by decide +kernel
theorem dX2_addPlayer_11 : decode cX2_addPlayer 11 = .ok (.aload_n 0, 1) := by decide +kernel
theorem dX2_addPlayer_12 : decode cX2_addPlayer 12 = .ok (.getfield 29, 3) := by decide +kernel
theorem dX2_addPlayer_15 : decode cX2_addPlayer 15 = .ok (.bipush 8, 2) := by decide +kernel
theorem dX2_addPlayer_17 : decode cX2_addPlayer 17 = .ok (.if_icmp .lt 7, 3) := by decide +kernel
theorem dX2_addPlayer_20 : decode cX2_addPlayer 20 = .ok (.sipush (-10004), 3) := by decide +kernel
theorem dX2_addPlayer_23 : decode cX2_addPlayer 23 = .ok (.ireturn, 1) := by decide +kernel
theorem dX2_addPlayer_24 : decode cX2_addPlayer 24 = .ok (.aload_n 0, 1) := by decide +kernel
theorem dX2_addPlayer_25 : decode cX2_addPlayer 25 = .ok (.getfield 29, 3) := by decide +kernel
theorem dX2_addPlayer_28 : decode cX2_addPlayer 28 = .ok (.istore_n 1, 1) := by decide +kernel
theorem dX2_addPlayer_29 : decode cX2_addPlayer 29 = .ok (.aload_n 0, 1) := by decide +kernel
theorem dX2_addPlayer_30 : decode cX2_addPlayer 30 = .ok (.iload_n 1, 1) := by decide +kernel
theorem dX2_addPlayer_31 : decode cX2_addPlayer 31 = .ok (.iconst 1, 1) := by decide +kernel
theorem dX2_addPlayer_32 : decode cX2_addPlayer 32 = .ok (.iadd, 1) := by decide +kernel
theorem dX2_addPlayer_33 : decode cX2_addPlayer 33 = .ok (.putfield 29, 3) := by decide +kernel
theorem dX2_addPlayer_36 : decode cX2_addPlayer 36 = .ok (.iload_n 1, 1) := by decide +kernel
theorem dX2_addPlayer_37 : decode cX2_addPlayer 37 = .ok (.ireturn, 1) := by decide +kernel
theorem dX2_beginRound_0 : decode cX2_beginRound 0 = .ok (.aload_n 0, 1) := by decide +kernel
theorem dX2_beginRound_1 : decode cX2_beginRound 1 = .ok (.iload_n 1, 1) := by decide +kernel
theorem dX2_beginRound_2 : decode cX2_beginRound 2 = .ok (.invokevirtual 32, 3) := by decide +kernel
theorem dX2_beginRound_5 : decode cX2_beginRound 5 = .ok (.ifCond .ne 7, 3) := by decide +kernel
theorem dX2_beginRound_8 : decode cX2_beginRound 8 = .ok (.sipush (-10001), 3) := by decide +kernel
theorem dX2_beginRound_11 : decode cX2_beginRound 11 = .ok (.ireturn, 1) := by decide +kernel
theorem dX2_beginRound_12 : decode cX2_beginRound 12 = .ok (.iload_n 2, 1) := by decide +kernel
theorem dX2_beginRound_13 : decode cX2_beginRound 13 = .ok (.iconst 1, 1) := by decide +kernel
theorem dX2_beginRound_14 : decode cX2_beginRound 14 = .ok (.if_icmp .lt 9, 3) := by decide +kernel
theorem dX2_beginRound_17 : decode cX2_beginRound 17 = .ok (.iload_n 2, 1) := by decide +kernel
theorem dX2_beginRound_18 : decode cX2_beginRound 18 = .ok (.bipush 8, 2) := by decide +kernel
theorem dX2_beginRound_20 : decode cX2_beginRound 20 = .ok (.if_icmp .le 7, 3) := by decide +kernel
theorem dX2_beginRound_23 : decode cX2_beginRound 23 = .ok (.sipush (-10002), 3) := by decide +kernel
theorem dX2_beginRound_26 : decode cX2_beginRound 26 = .ok (.ireturn, 1) := by decide +kernel
theorem dX2_beginRound_27 : decode cX2_beginRound 27 = .ok (.aload_n 0, 1) := by decide +kernel
theorem dX2_beginRound_28 : decode cX2_beginRound 28 = .ok (.getfield 25, 3) := by decide +kernel
theorem dX2_beginRound_31 : decode cX2_beginRound 31 = .ok (.ifCond .ne 11, 3) := by decide +kernel
theorem dX2_beginRound_34 : decode cX2_beginRound 34 = .ok (.aload_n 0, 1) := by decide +kernel
theorem dX2_beginRound_35 : decode cX2_beginRound 35 = .ok (.getfield 29, 3) := by decide +kernel
theorem dX2_beginRound_38 : decode cX2_beginRound 38 = .ok (.iconst 2, 1) := by decide +kernel
theorem dX2_beginRound_39 : decode cX2_beginRound 39 = .ok (.if_icmp .ge 7, 3) := by decide +kernel
theorem dX2_beginRound_42 : decode cX2_beginRound 42 = .ok (.sipush (-10003), 3) := by decide +kernel
theorem dX2_beginRound_45 : decode cX2_beginRound 45 = .ok (.ireturn, 1) := by decide +kernel
theorem dX2_beginRound_46 : decode cX2_beginRound 46 = .ok (.aload_n 0, 1) := by decide +kernel
theorem dX2_beginRound_47 : decode cX2_beginRound 47 = .ok (.iconst 1, 1) := by decide +kernel
theorem dX2_beginRound_48 : decode cX2_beginRound 48 = .ok (.putfield 25, 3) := by decide +kernel
theorem dX2_beginRound_51 : decode cX2_beginRound 51 = .ok (.aload_n 0, 1) := by decide +kernel
theorem dX2_beginRound_52 : decode cX2_beginRound 52 = .ok (.iload_n 1, 1) := by decide +kernel
theorem dX2_beginRound_53 : decode cX2_beginRound 53 = .ok (.putfield 35, 3) := by decide +kernel
theorem dX2_beginRound_56 : decode cX2_beginRound 56 = .ok (.aload_n 0, 1) := by decide +kernel
theorem dX2_beginRound_57 : decode cX2_beginRound 57 = .ok (.iload_n 2, 1) := by decide +kernel
theorem dX2_beginRound_58 : decode cX2_beginRound 58 = .ok (.putfield 38, 3) := by decide +kernel
theorem dX2_beginRound_61 : decode cX2_beginRound 61 = .ok (.aload_n 0, 1) := by decide +kernel
theorem dX2_beginRound_62 : decode cX2_beginRound 62 = .ok (.getfield 41, 3) := by decide +kernel
theorem dX2_beginRound_65 : decode cX2_beginRound 65 = .ok (.iload_n 1, 1) := by decide +kernel
theorem dX2_beginRound_66 : decode cX2_beginRound 66 = .ok (.dup2, 1) := by decide +kernel
theorem dX2_beginRound_67 : decode cX2_beginRound 67 = .ok (.iaload, 1) := by decide +kernel
theorem dX2_beginRound_68 : decode cX2_beginRound 68 = .ok (.iconst 1, 1) := by decide +kernel
theorem dX2_beginRound_69 : decode cX2_beginRound 69 = .ok (.iadd, 1) := by decide +kernel
theorem dX2_beginRound_70 : decode cX2_beginRound 70 = .ok (.iastore, 1) := by decide +kernel
theorem dX2_beginRound_71 : decode cX2_beginRound 71 = .ok (.aload_n 0, 1) := by decide +kernel
theorem dX2_beginRound_72 : decode cX2_beginRound 72 = .ok (.invokestatic 44, 3) := by decide +kernel
theorem dX2_beginRound_75 : decode cX2_beginRound 75 = .ok (.ireturn, 1) := by decide +kernel
theorem dX2_countHidingSpots_0 : decode cX2_countHidingSpots 0 = .ok (.iconst 0, 1) := by decide +kernel
theorem dX2_countHidingSpots_1 : decode cX2_countHidingSpots 1 = .ok (.istore_n 1, 1) := by decide +kernel
theorem dX2_countHidingSpots_2 : decode cX2_countHidingSpots 2 = .ok (.iconst 0, 1) := by decide +kernel
theorem dX2_countHidingSpots_3 : decode cX2_countHidingSpots 3 = .ok (.istore_n 2, 1) := by decide +kernel
theorem dX2_countHidingSpots_4 : decode cX2_countHidingSpots 4 = .ok (.iload_n 2, 1) := by decide +kernel
theorem dX2_countHidingSpots_5 : decode cX2_countHidingSpots 5 = .ok (.bipush 16, 2) := by decide +kernel
theorem dX2_countHidingSpots_7 : decode cX2_countHidingSpots 7 = .ok (.if_icmp .ge 20, 3) := by decide +kernel
theorem dX2_countHidingSpots_10 : decode cX2_countHidingSpots 10 = .ok (.aload_n 0, 1) := by decide +kernel
theorem dX2_countHidingSpots_11 : decode cX2_countHidingSpots 11 = .ok (.iload_n 2, 1) := by decide +kernel
theorem dX2_countHidingSpots_12 : decode cX2_countHidingSpots 12 = .ok (.invokevirtual 52, 3) := by decide +kernel
theorem dX2_countHidingSpots_15 : decode cX2_countHidingSpots 15 = .ok (.ifCond .eq 6, 3) := by decide +kernel
theorem dX2_countHidingSpots_18 : decode cX2_countHidingSpots 18 = .ok (.iinc 1 1, 3) := by decide +kernel
theorem dX2_countHidingSpots_21 : decode cX2_countHidingSpots 21 = .ok (.iinc 2 1, 3) := by decide +kernel
theorem dX2_countHidingSpots_24 : decode cX2_countHidingSpots 24 = .ok (.goto (-20), 3) := by decide +kernel
theorem dX2_countHidingSpots_27 : decode cX2_countHidingSpots 27 = .ok (.iload_n 1, 1) := by decide +kernel
theorem dX2_countHidingSpots_28 : decode cX2_countHidingSpots 28 = .ok (.ireturn, 1) := by decide +kernel
theorem dX2_hidePlayer_0 : decode cX2_hidePlayer 0 = .ok (.aload_n 0, 1) := by decide +kernel
theorem dX2_hidePlayer_1 : decode cX2_hidePlayer 1 = .ok (.iload_n 1, 1) := by decide +kernel
theorem dX2_hidePlayer_2 : decode cX2_hidePlayer 2 = .ok (.invokevirtual 32, 3) := by decide +kernel
theorem dX2_hidePlayer_5 : decode cX2_hidePlayer 5 = .ok (.ifCond .eq 10, 3) := by decide +kernel
theorem dX2_hidePlayer_8 : decode cX2_hidePlayer 8 = .ok (.iload_n 2, 1) := by decide +kernel
theorem dX2_hidePlayer_9 : decode cX2_hidePlayer 9 = .ok (.invokestatic 55, 3) := by decide +kernel
theorem dX2_hidePlayer_12 : decode cX2_hidePlayer 12 = .ok (.ifCond .ne 7, 3) := by decide +kernel
theorem dX2_hidePlayer_15 : decode cX2_hidePlayer 15 = .ok (.sipush (-10001), 3) := by decide +kernel
theorem dX2_hidePlayer_18 : decode cX2_hidePlayer 18 = .ok (.ireturn, 1) := by decide +kernel
theorem dX2_hidePlayer_19 : decode cX2_hidePlayer 19 = .ok (.aload_n 0, 1) := by decide +kernel
theorem dX2_hidePlayer_20 : decode cX2_hidePlayer 20 = .ok (.getfield 25, 3) := by decide +kernel
theorem dX2_hidePlayer_23 : decode cX2_hidePlayer 23 = .ok (.iconst 1, 1) := by decide +kernel
theorem dX2_hidePlayer_24 : decode cX2_hidePlayer 24 = .ok (.if_icmp .ne 19, 3) := by decide +kernel
theorem dX2_hidePlayer_27 : decode cX2_hidePlayer 27 = .ok (.iload_n 1, 1) := by decide +kernel
theorem dX2_hidePlayer_28 : decode cX2_hidePlayer 28 = .ok (.aload_n 0, 1) := by decide +kernel
theorem dX2_hidePlayer_29 : decode cX2_hidePlayer 29 = .ok (.getfield 35, 3) := by decide +kernel
theorem dX2_hidePlayer_32 : decode cX2_hidePlayer 32 = .ok (.if_icmp .eq 11, 3) := by decide +kernel
theorem dX2_hidePlayer_35 : decode cX2_hidePlayer 35 = .ok (.aload_n 0, 1) := by decide +kernel
theorem dX2_hidePlayer_36 : decode cX2_hidePlayer 36 = .ok (.iload_n 1, 1) := by decide +kernel
theorem dX2_hidePlayer_37 : decode cX2_hidePlayer 37 = .ok (.invokevirtual 58, 3) := by decide +kernel
theorem dX2_hidePlayer_40 : decode cX2_hidePlayer 40 = .ok (.ifCond .eq 7, 3) := by decide +kernel
theorem dX2_hidePlayer_43 : decode cX2_hidePlayer 43 = .ok (.sipush (-10003), 3) := by decide +kernel
theorem dX2_hidePlayer_46 : decode cX2_hidePlayer 46 = .ok (.ireturn, 1) := by decide +kernel
theorem dX2_hidePlayer_47 : decode cX2_hidePlayer 47 = .ok (.aload_n 0, 1) := by decide +kernel
theorem dX2_hidePlayer_48 : decode cX2_hidePlayer 48 = .ok (.iload_n 2, 1) := by decide +kernel
theorem dX2_hidePlayer_49 : decode cX2_hidePlayer 49 = .ok (.invokevirtual 61, 3) := by decide +kernel
theorem dX2_hidePlayer_52 : decode cX2_hidePlayer 52 = .ok (.ifCond .ne 7, 3) := by decide +kernel
theorem dX2_hidePlayer_55 : decode cX2_hidePlayer 55 = .ok (.sipush (-10003), 3) := by decide +kernel
theorem dX2_hidePlayer_58 : decode cX2_hidePlayer 58 = .ok (.ireturn, 1) := by decide +kernel
theorem dX2_hidePlayer_59 : decode cX2_hidePlayer 59 = .ok (.aload_n 0, 1) := by decide +kernel
theorem dX2_hidePlayer_60 : decode cX2_hidePlayer 60 = .ok (.iload_n 2, 1) := by decide +kernel
theorem dX2_hidePlayer_61 : decode cX2_hidePlayer 61 = .ok (.invokevirtual 52, 3) := by decide +kernel
theorem dX2_hidePlayer_64 : decode cX2_hidePlayer 64 = .ok (.ifCond .ne 7, 3) := by decide +kernel
theorem dX2_hidePlayer_67 : decode cX2_hidePlayer 67 = .ok (.sipush (-10004), 3) := by decide +kernel
theorem dX2_hidePlayer_70 : decode cX2_hidePlayer 70 = .ok (.ireturn, 1) := by decide +kernel
theorem dX2_hidePlayer_71 : decode cX2_hidePlayer 71 = .ok (.aload_n 0, 1) := by decide +kernel
theorem dX2_hidePlayer_72 : decode cX2_hidePlayer 72 = .ok (.getfield 64, 3) := by decide +kernel
theorem dX2_hidePlayer_75 : decode cX2_hidePlayer 75 = .ok (.iload_n 1, 1) := by decide +kernel
theorem dX2_hidePlayer_76 : decode cX2_hidePlayer 76 = .ok (.iload_n 2, 1) := by decide +kernel
theorem dX2_hidePlayer_77 : decode cX2_hidePlayer 77 = .ok (.iastore, 1) := by decide +kernel
theorem dX2_hidePlayer_78 : decode cX2_hidePlayer 78 = .ok (.iload_n 2, 1) := by decide +kernel
theorem dX2_hidePlayer_79 : decode cX2_hidePlayer 79 = .ok (.invokestatic 67, 3) := by decide +kernel
theorem dX2_hidePlayer_82 : decode cX2_hidePlayer 82 = .ok (.ireturn, 1) := by decide +kernel
theorem dX2_beginSeeking_0 : decode cX2_beginSeeking 0 = .ok (.aload_n 0, 1) := by decide +kernel
theorem dX2_beginSeeking_1 : decode cX2_beginSeeking 1 = .ok (.getfield 25, 3) := by decide +kernel
theorem dX2_beginSeeking_4 : decode cX2_beginSeeking 4 = .ok (.iconst 1, 1) := by decide +kernel
theorem dX2_beginSeeking_5 : decode cX2_beginSeeking 5 = .ok (.if_icmp .eq 7, 3) := by decide +kernel
theorem dX2_beginSeeking_8 : decode cX2_beginSeeking 8 = .ok (.sipush (-10003), 3) := by decide +kernel
theorem dX2_beginSeeking_11 : decode cX2_beginSeeking 11 = .ok (.ireturn, 1) := by decide +kernel
theorem dX2_beginSeeking_12 : decode cX2_beginSeeking 12 = .ok (.aload_n 0, 1) := by decide +kernel
theorem dX2_beginSeeking_13 : decode cX2_beginSeeking 13 = .ok (.iconst 2, 1) := by decide +kernel
theorem dX2_beginSeeking_14 : decode cX2_beginSeeking 14 = .ok (.putfield 25, 3) := by decide +kernel
theorem dX2_beginSeeking_17 : decode cX2_beginSeeking 17 = .ok (.aload_n 0, 1) := by decide +kernel
theorem dX2_beginSeeking_18 : decode cX2_beginSeeking 18 = .ok (.iconst 0, 1) := by decide +kernel
theorem dX2_beginSeeking_19 : decode cX2_beginSeeking 19 = .ok (.putfield 71, 3) := by decide +kernel
theorem dX2_beginSeeking_22 : decode cX2_beginSeeking 22 = .ok (.aload_n 0, 1) := by decide +kernel
theorem dX2_beginSeeking_23 : decode cX2_beginSeeking 23 = .ok (.invokevirtual 74, 3) := by decide +kernel
theorem dX2_beginSeeking_26 : decode cX2_beginSeeking 26 = .ok (.istore_n 1, 1) := by decide +kernel
theorem dX2_beginSeeking_27 : decode cX2_beginSeeking 27 = .ok (.aload_n 0, 1) := by decide +kernel
theorem dX2_beginSeeking_28 : decode cX2_beginSeeking 28 = .ok (.invokestatic 78, 3) := by decide +kernel
theorem dX2_beginSeeking_31 : decode cX2_beginSeeking 31 = .ok (.iload_n 1, 1) := by decide +kernel
theorem dX2_beginSeeking_32 : decode cX2_beginSeeking 32 = .ok (.ireturn, 1) := by decide +kernel
theorem dX2_moveSeeker_0 : decode cX2_moveSeeker 0 = .ok (.iload_n 1, 1) := by decide +kernel
theorem dX2_moveSeeker_1 : decode cX2_moveSeeker 1 = .ok (.iconst (-1), 1) := by decide +kernel
theorem dX2_moveSeeker_2 : decode cX2_moveSeeker 2 = .ok (.if_icmp .lt 8, 3) := by decide +kernel
theorem dX2_moveSeeker_5 : decode cX2_moveSeeker 5 = .ok (.iload_n 1, 1) := by decide +kernel
theorem dX2_moveSeeker_6 : decode cX2_moveSeeker 6 = .ok (.iconst 1, 1) := by decide +kernel
theorem dX2_moveSeeker_7 : decode cX2_moveSeeker 7 = .ok (.if_icmp .le 7, 3) := by decide +kernel
theorem dX2_moveSeeker_10 : decode cX2_moveSeeker 10 = .ok (.sipush (-10002), 3) := by decide +kernel
theorem dX2_moveSeeker_13 : decode cX2_moveSeeker 13 = .ok (.ireturn, 1) := by decide +kernel
theorem dX2_moveSeeker_14 : decode cX2_moveSeeker 14 = .ok (.aload_n 0, 1) := by decide +kernel
theorem dX2_moveSeeker_15 : decode cX2_moveSeeker 15 = .ok (.getfield 25, 3) := by decide +kernel
theorem dX2_moveSeeker_18 : decode cX2_moveSeeker 18 = .ok (.iconst 2, 1) := by decide +kernel
theorem dX2_moveSeeker_19 : decode cX2_moveSeeker 19 = .ok (.if_icmp .eq 7, 3) := by decide +kernel
theorem dX2_moveSeeker_22 : decode cX2_moveSeeker 22 = .ok (.sipush (-10003), 3) := by decide +kernel
theorem dX2_moveSeeker_25 : decode cX2_moveSeeker 25 = .ok (.ireturn, 1) := by decide +kernel
theorem dX2_moveSeeker_26 : decode cX2_moveSeeker 26 = .ok (.aload_n 0, 1) := by decide +kernel
theorem dX2_moveSeeker_27 : decode cX2_moveSeeker 27 = .ok (.aload_n 0, 1) := by decide +kernel
theorem dX2_moveSeeker_28 : decode cX2_moveSeeker 28 = .ok (.getfield 71, 3) := by decide +kernel
theorem dX2_moveSeeker_31 : decode cX2_moveSeeker 31 = .ok (.iload_n 1, 1) := by decide +kernel
theorem dX2_moveSeeker_32 : decode cX2_moveSeeker 32 = .ok (.invokestatic 82, 3) := by decide +kernel
theorem dX2_moveSeeker_35 : decode cX2_moveSeeker 35 = .ok (.putfield 71, 3) := by decide +kernel
theorem dX2_moveSeeker_38 : decode cX2_moveSeeker 38 = .ok (.aload_n 0, 1) := by decide +kernel
theorem dX2_moveSeeker_39 : decode cX2_moveSeeker 39 = .ok (.getfield 71, 3) := by decide +kernel
theorem dX2_moveSeeker_42 : decode cX2_moveSeeker 42 = .ok (.ireturn, 1) := by decide +kernel
theorem dX2_cryName_0 : decode cX2_cryName 0 = .ok (.aload_n 0, 1) := by decide +kernel
theorem dX2_cryName_1 : decode cX2_cryName 1 = .ok (.iload_n 1, 1) := by decide +kernel
theorem dX2_cryName_2 : decode cX2_cryName 2 = .ok (.invokevirtual 32, 3) := by decide +kernel
theorem dX2_cryName_5 : decode cX2_cryName 5 = .ok (.ifCond .eq 10, 3) := by decide +kernel
theorem dX2_cryName_8 : decode cX2_cryName 8 = .ok (.iload_n 2, 1) := by decide +kernel
theorem dX2_cryName_9 : decode cX2_cryName 9 = .ok (.invokestatic 55, 3) := by decide +kernel
theorem dX2_cryName_12 : decode cX2_cryName 12 = .ok (.ifCond .ne 7, 3) := by decide +kernel
theorem dX2_cryName_15 : decode cX2_cryName 15 = .ok (.sipush (-10001), 3) := by decide +kernel
theorem dX2_cryName_18 : decode cX2_cryName 18 = .ok (.ireturn, 1) := by decide +kernel
theorem dX2_cryName_19 : decode cX2_cryName 19 = .ok (.aload_n 0, 1) := by decide +kernel
theorem dX2_cryName_20 : decode cX2_cryName 20 = .ok (.getfield 25, 3) := by decide +kernel
theorem dX2_cryName_23 : decode cX2_cryName 23 = .ok (.iconst 2, 1) := by decide +kernel
theorem dX2_cryName_24 : decode cX2_cryName 24 = .ok (.if_icmp .ne 19, 3) := by decide +kernel
theorem dX2_cryName_27 : decode cX2_cryName 27 = .ok (.iload_n 1, 1) := by decide +kernel
theorem dX2_cryName_28 : decode cX2_cryName 28 = .ok (.aload_n 0, 1) := by decide +kernel
theorem dX2_cryName_29 : decode cX2_cryName 29 = .ok (.getfield 35, 3) := by decide +kernel
theorem dX2_cryName_32 : decode cX2_cryName 32 = .ok (.if_icmp .eq 11, 3) := by decide +kernel
theorem dX2_cryName_35 : decode cX2_cryName 35 = .ok (.aload_n 0, 1) := by decide +kernel
theorem dX2_cryName_36 : decode cX2_cryName 36 = .ok (.iload_n 2, 1) := by decide +kernel
theorem dX2_cryName_37 : decode cX2_cryName 37 = .ok (.invokevirtual 86, 3) := by decide +kernel
theorem dX2_cryName_40 : decode cX2_cryName 40 = .ok (.ifCond .ne 7, 3) := by decide +kernel
theorem dX2_cryName_43 : decode cX2_cryName 43 = .ok (.sipush (-10003), 3) := by decide +kernel
theorem dX2_cryName_46 : decode cX2_cryName 46 = .ok (.ireturn, 1) := by decide +kernel
theorem dX2_cryName_47 : decode cX2_cryName 47 = .ok (.aload_n 0, 1) := by decide +kernel
theorem dX2_cryName_48 : decode cX2_cryName 48 = .ok (.getfield 64, 3) := by decide +kernel
theorem dX2_cryName_51 : decode cX2_cryName 51 = .ok (.iload_n 1, 1) := by decide +kernel
theorem dX2_cryName_52 : decode cX2_cryName 52 = .ok (.iaload, 1) := by decide +kernel
theorem dX2_cryName_53 : decode cX2_cryName 53 = .ok (.iload_n 2, 1) := by decide +kernel
theorem dX2_cryName_54 : decode cX2_cryName 54 = .ok (.if_icmp .eq 9, 3) := by decide +kernel
theorem dX2_cryName_57 : decode cX2_cryName 57 = .ok (.aload_n 0, 1) := by decide +kernel
theorem dX2_cryName_58 : decode cX2_cryName 58 = .ok (.invokestatic 89, 3) := by decide +kernel
theorem dX2_cryName_61 : decode cX2_cryName 61 = .ok (.iconst 0, 1) := by decide +kernel
theorem dX2_cryName_62 : decode cX2_cryName 62 = .ok (.ireturn, 1) := by decide +kernel
theorem dX2_cryName_63 : decode cX2_cryName 63 = .ok (.aload_n 0, 1) := by decide +kernel
theorem dX2_cryName_64 : decode cX2_cryName 64 = .ok (.iload_n 2, 1) := by decide +kernel
theorem dX2_cryName_65 : decode cX2_cryName 65 = .ok (.invokestatic 92, 3) := by decide +kernel
theorem dX2_cryName_68 : decode cX2_cryName 68 = .ok (.aload_n 0, 1) := by decide +kernel
theorem dX2_cryName_69 : decode cX2_cryName 69 = .ok (.iload_n 1, 1) := by decide +kernel
theorem dX2_cryName_70 : decode cX2_cryName 70 = .ok (.iconst 2, 1) := by decide +kernel
theorem dX2_cryName_71 : decode cX2_cryName 71 = .ok (.invokestatic 96, 3) := by decide +kernel
theorem dX2_cryName_74 : decode cX2_cryName 74 = .ok (.iconst 1, 1) := by decide +kernel
theorem dX2_cryName_75 : decode cX2_cryName 75 = .ok (.ireturn, 1) := by decide +kernel
theorem dX2_dashHome_0 : decode cX2_dashHome 0 = .ok (.aload_n 0, 1) := by decide +kernel
theorem dX2_dashHome_1 : decode cX2_dashHome 1 = .ok (.iload_n 1, 1) := by decide +kernel
theorem dX2_dashHome_2 : decode cX2_dashHome 2 = .ok (.invokevirtual 32, 3) := by decide +kernel
theorem dX2_dashHome_5 : decode cX2_dashHome 5 = .ok (.ifCond .ne 7, 3) := by decide +kernel
theorem dX2_dashHome_8 : decode cX2_dashHome 8 = .ok (.sipush (-10001), 3) := by decide +kernel
theorem dX2_dashHome_11 : decode cX2_dashHome 11 = .ok (.ireturn, 1) := by decide +kernel
theorem dX2_dashHome_12 : decode cX2_dashHome 12 = .ok (.aload_n 0, 1) := by decide +kernel
theorem dX2_dashHome_13 : decode cX2_dashHome 13 = .ok (.getfield 25, 3) := by decide +kernel
theorem dX2_dashHome_16 : decode cX2_dashHome 16 = .ok (.iconst 2, 1) := by decide +kernel
theorem dX2_dashHome_17 : decode cX2_dashHome 17 = .ok (.if_icmp .ne 11, 3) := by decide +kernel
theorem dX2_dashHome_20 : decode cX2_dashHome 20 = .ok (.aload_n 0, 1) := by decide +kernel
theorem dX2_dashHome_21 : decode cX2_dashHome 21 = .ok (.iload_n 1, 1) := by decide +kernel
theorem dX2_dashHome_22 : decode cX2_dashHome 22 = .ok (.invokevirtual 58, 3) := by decide +kernel
theorem dX2_dashHome_25 : decode cX2_dashHome 25 = .ok (.ifCond .ne 7, 3) := by decide +kernel
theorem dX2_dashHome_28 : decode cX2_dashHome 28 = .ok (.sipush (-10003), 3) := by decide +kernel
theorem dX2_dashHome_31 : decode cX2_dashHome 31 = .ok (.ireturn, 1) := by decide +kernel
theorem dX2_dashHome_32 : decode cX2_dashHome 32 = .ok (.aload_n 0, 1) := by decide +kernel
theorem dX2_dashHome_33 : decode cX2_dashHome 33 = .ok (.iload_n 1, 1) := by decide +kernel
theorem dX2_dashHome_34 : decode cX2_dashHome 34 = .ok (.invokevirtual 100, 3) := by decide +kernel
theorem dX2_dashHome_37 : decode cX2_dashHome 37 = .ok (.ifCond .ne 11, 3) := by decide +kernel
theorem dX2_dashHome_40 : decode cX2_dashHome 40 = .ok (.aload_n 0, 1) := by decide +kernel
theorem dX2_dashHome_41 : decode cX2_dashHome 41 = .ok (.iload_n 1, 1) := by decide +kernel
theorem dX2_dashHome_42 : decode cX2_dashHome 42 = .ok (.iconst 1, 1) := by decide +kernel
theorem dX2_dashHome_43 : decode cX2_dashHome 43 = .ok (.invokestatic 96, 3) := by decide +kernel
theorem dX2_dashHome_46 : decode cX2_dashHome 46 = .ok (.iconst 0, 1) := by decide +kernel
theorem dX2_dashHome_47 : decode cX2_dashHome 47 = .ok (.ireturn, 1) := by decide +kernel
theorem dX2_dashHome_48 : decode cX2_dashHome 48 = .ok (.aload_n 0, 1) := by decide +kernel
theorem dX2_dashHome_49 : decode cX2_dashHome 49 = .ok (.iload_n 1, 1) := by decide +kernel
theorem dX2_dashHome_50 : decode cX2_dashHome 50 = .ok (.iconst 3, 1) := by decide +kernel
theorem dX2_dashHome_51 : decode cX2_dashHome 51 = .ok (.invokestatic 103, 3) := by decide +kernel
theorem dX2_dashHome_54 : decode cX2_dashHome 54 = .ok (.aload_n 0, 1) := by decide +kernel
theorem dX2_dashHome_55 : decode cX2_dashHome 55 = .ok (.invokestatic 78, 3) := by decide +kernel
theorem dX2_dashHome_58 : decode cX2_dashHome 58 = .ok (.iconst 1, 1) := by decide +kernel
theorem dX2_dashHome_59 : decode cX2_dashHome 59 = .ok (.ireturn, 1) := by decide +kernel
theorem dX2_findPlayer_0 : decode cX2_findPlayer 0 = .ok (.aload_n 0, 1) := by decide +kernel
theorem dX2_findPlayer_1 : decode cX2_findPlayer 1 = .ok (.getfield 64, 3) := by decide +kernel
theorem dX2_findPlayer_4 : decode cX2_findPlayer 4 = .ok (.iload_n 1, 1) := by decide +kernel
theorem dX2_findPlayer_5 : decode cX2_findPlayer 5 = .ok (.sipush (-10006), 3) := by decide +kernel
theorem dX2_findPlayer_8 : decode cX2_findPlayer 8 = .ok (.iastore, 1) := by decide +kernel
theorem dX2_findPlayer_9 : decode cX2_findPlayer 9 = .ok (.aload_n 0, 1) := by decide +kernel
theorem dX2_findPlayer_10 : decode cX2_findPlayer 10 = .ok (.aload_n 0, 1) := by decide +kernel
theorem dX2_findPlayer_11 : decode cX2_findPlayer 11 = .ok (.getfield 35, 3) := by decide +kernel
theorem dX2_findPlayer_14 : decode cX2_findPlayer 14 = .ok (.invokevirtual 32, 3) := by decide +kernel
theorem dX2_findPlayer_17 : decode cX2_findPlayer 17 = .ok (.ifCond .eq 29, 3) := by decide +kernel
theorem dX2_findPlayer_20 : decode cX2_findPlayer 20 = .ok (.aload_n 0, 1) := by decide +kernel
theorem dX2_findPlayer_21 : decode cX2_findPlayer 21 = .ok (.getfield 106, 3) := by decide +kernel
theorem dX2_findPlayer_24 : decode cX2_findPlayer 24 = .ok (.aload_n 0, 1) := by decide +kernel
theorem dX2_findPlayer_25 : decode cX2_findPlayer 25 = .ok (.getfield 35, 3) := by decide +kernel
theorem dX2_findPlayer_28 : decode cX2_findPlayer 28 = .ok (.dup2, 1) := by decide +kernel
theorem dX2_findPlayer_29 : decode cX2_findPlayer 29 = .ok (.iaload, 1) := by decide +kernel
theorem dX2_findPlayer_30 : decode cX2_findPlayer 30 = .ok (.iload_n 2, 1) := by decide +kernel
theorem dX2_findPlayer_31 : decode cX2_findPlayer 31 = .ok (.iadd, 1) := by decide +kernel
theorem dX2_findPlayer_32 : decode cX2_findPlayer 32 = .ok (.iastore, 1) := by decide +kernel
theorem dX2_findPlayer_33 : decode cX2_findPlayer 33 = .ok (.aload_n 0, 1) := by decide +kernel
theorem dX2_findPlayer_34 : decode cX2_findPlayer 34 = .ok (.getfield 109, 3) := by decide +kernel
theorem dX2_findPlayer_37 : decode cX2_findPlayer 37 = .ok (.aload_n 0, 1) := by decide +kernel
theorem dX2_findPlayer_38 : decode cX2_findPlayer 38 = .ok (.getfield 35, 3) := by decide +kernel
theorem dX2_findPlayer_41 : decode cX2_findPlayer 41 = .ok (.dup2, 1) := by decide +kernel
theorem dX2_findPlayer_42 : decode cX2_findPlayer 42 = .ok (.iaload, 1) := by decide +kernel
theorem dX2_findPlayer_43 : decode cX2_findPlayer 43 = .ok (.iconst 1, 1) := by decide +kernel
theorem dX2_findPlayer_44 : decode cX2_findPlayer 44 = .ok (.iadd, 1) := by decide +kernel
theorem dX2_findPlayer_45 : decode cX2_findPlayer 45 = .ok (.iastore, 1) := by decide +kernel
theorem dX2_findPlayer_46 : decode cX2_findPlayer 46 = .ok (.aload_n 0, 1) := by decide +kernel
theorem dX2_findPlayer_47 : decode cX2_findPlayer 47 = .ok (.invokestatic 78, 3) := by decide +kernel
theorem dX2_findPlayer_50 : decode cX2_findPlayer 50 = .ok (.return_, 1) := by decide +kernel
theorem dX2_countFindOfSpot_0 : decode cX2_countFindOfSpot 0 = .ok (.aload_n 0, 1) := by decide +kernel
theorem dX2_countFindOfSpot_1 : decode cX2_countFindOfSpot 1 = .ok (.getfield 112, 3) := by decide +kernel
theorem dX2_countFindOfSpot_4 : decode cX2_countFindOfSpot 4 = .ok (.iload_n 1, 1) := by decide +kernel
theorem dX2_countFindOfSpot_5 : decode cX2_countFindOfSpot 5 = .ok (.dup2, 1) := by decide +kernel
theorem dX2_countFindOfSpot_6 : decode cX2_countFindOfSpot 6 = .ok (.iaload, 1) := by decide +kernel
theorem dX2_countFindOfSpot_7 : decode cX2_countFindOfSpot 7 = .ok (.iconst 1, 1) := by decide +kernel
theorem dX2_countFindOfSpot_8 : decode cX2_countFindOfSpot 8 = .ok (.iadd, 1) := by decide +kernel
theorem dX2_countFindOfSpot_9 : decode cX2_countFindOfSpot 9 = .ok (.iastore, 1) := by decide +kernel
theorem dX2_countFindOfSpot_10 : decode cX2_countFindOfSpot 10 = .ok (.aload_n 0, 1) := by decide +kernel
theorem dX2_countFindOfSpot_11 : decode cX2_countFindOfSpot 11 = .ok (.getfield 112, 3) := by decide +kernel
theorem dX2_countFindOfSpot_14 : decode cX2_countFindOfSpot 14 = .ok (.iload_n 1, 1) := by decide +kernel
theorem dX2_countFindOfSpot_15 : decode cX2_countFindOfSpot 15 = .ok (.iaload, 1) := by decide +kernel
theorem dX2_countFindOfSpot_16 : decode cX2_countFindOfSpot 16 = .ok (.aload_n 0, 1) := by decide +kernel
theorem dX2_countFindOfSpot_17 : decode cX2_countFindOfSpot 17 = .ok (.getfield 22, 3) := by decide +kernel
theorem dX2_countFindOfSpot_20 : decode cX2_countFindOfSpot 20 = .ok (.iconst 1, 1) := by decide +kernel
theorem dX2_countFindOfSpot_21 : decode cX2_countFindOfSpot 21 = .ok (.iaload, 1) := by decide +kernel
theorem dX2_countFindOfSpot_22 : decode cX2_countFindOfSpot 22 = .ok (.if_icmp .lt 7, 3) := by decide +kernel
theorem dX2_countFindOfSpot_25 : decode cX2_countFindOfSpot 25 = .ok (.iconst 1, 1) := by decide +kernel
theorem dX2_countFindOfSpot_26 : decode cX2_countFindOfSpot 26 = .ok (.goto 4, 3) := by decide +kernel
theorem dX2_countFindOfSpot_29 : decode cX2_countFindOfSpot 29 = .ok (.iconst 0, 1) := by decide +kernel
theorem dX2_countFindOfSpot_30 : decode cX2_countFindOfSpot 30 = .ok (.istore_n 2, 1) := by decide +kernel
theorem dX2_countFindOfSpot_31 : decode cX2_countFindOfSpot 31 = .ok (.iload_n 2, 1) := by decide +kernel
theorem dX2_countFindOfSpot_32 : decode cX2_countFindOfSpot 32 = .ok (.ifCond .eq 18, 3) := by decide +kernel
theorem dX2_countFindOfSpot_35 : decode cX2_countFindOfSpot 35 = .ok (.aload_n 0, 1) := by decide +kernel
theorem dX2_countFindOfSpot_36 : decode cX2_countFindOfSpot 36 = .ok (.iload_n 1, 1) := by decide +kernel
theorem dX2_countFindOfSpot_37 : decode cX2_countFindOfSpot 37 = .ok (.invokevirtual 115, 3) := by decide +kernel
theorem dX2_countFindOfSpot_40 : decode cX2_countFindOfSpot 40 = .ok (.ifCond .ne 10, 3) := by decide +kernel
theorem dX2_countFindOfSpot_43 : decode cX2_countFindOfSpot 43 = .ok (.aload_n 0, 1) := by decide +kernel
theorem dX2_countFindOfSpot_44 : decode cX2_countFindOfSpot 44 = .ok (.getfield 118, 3) := by decide +kernel
theorem dX2_countFindOfSpot_47 : decode cX2_countFindOfSpot 47 = .ok (.iload_n 1, 1) := by decide +kernel
theorem dX2_countFindOfSpot_48 : decode cX2_countFindOfSpot 48 = .ok (.iconst 0, 1) := by decide +kernel
theorem dX2_countFindOfSpot_49 : decode cX2_countFindOfSpot 49 = .ok (.iastore, 1) := by decide +kernel
theorem dX2_countFindOfSpot_50 : decode cX2_countFindOfSpot 50 = .ok (.return_, 1) := by decide +kernel
theorem dX2_countFalseCry_0 : decode cX2_countFalseCry 0 = .ok (.aload_n 0, 1) := by decide +kernel
theorem dX2_countFalseCry_1 : decode cX2_countFalseCry 1 = .ok (.dup, 1) := by decide +kernel
theorem dX2_countFalseCry_2 : decode cX2_countFalseCry 2 = .ok (.getfield 121, 3) := by decide +kernel
theorem dX2_countFalseCry_5 : decode cX2_countFalseCry 5 = .ok (.iconst 1, 1) := by decide +kernel
theorem dX2_countFalseCry_6 : decode cX2_countFalseCry 6 = .ok (.iadd, 1) := by decide +kernel
theorem dX2_countFalseCry_7 : decode cX2_countFalseCry 7 = .ok (.putfield 121, 3) := by decide +kernel
theorem dX2_countFalseCry_10 : decode cX2_countFalseCry 10 = .ok (.aload_n 0, 1) := by decide +kernel
theorem dX2_countFalseCry_11 : decode cX2_countFalseCry 11 = .ok (.aload_n 0, 1) := by decide +kernel
theorem dX2_countFalseCry_12 : decode cX2_countFalseCry 12 = .ok (.getfield 35, 3) := by decide +kernel
theorem dX2_countFalseCry_15 : decode cX2_countFalseCry 15 = .ok (.invokevirtual 32, 3) := by decide +kernel
theorem dX2_countFalseCry_18 : decode cX2_countFalseCry 18 = .ok (.ifCond .eq 29, 3) := by decide +kernel
theorem dX2_countFalseCry_21 : decode cX2_countFalseCry 21 = .ok (.aload_n 0, 1) := by decide +kernel
theorem dX2_countFalseCry_22 : decode cX2_countFalseCry 22 = .ok (.getfield 106, 3) := by decide +kernel
theorem dX2_countFalseCry_25 : decode cX2_countFalseCry 25 = .ok (.aload_n 0, 1) := by decide +kernel
theorem dX2_countFalseCry_26 : decode cX2_countFalseCry 26 = .ok (.getfield 35, 3) := by decide +kernel
theorem dX2_countFalseCry_29 : decode cX2_countFalseCry 29 = .ok (.dup2, 1) := by decide +kernel
theorem dX2_countFalseCry_30 : decode cX2_countFalseCry 30 = .ok (.iaload, 1) := by decide +kernel
theorem dX2_countFalseCry_31 : decode cX2_countFalseCry 31 = .ok (.iconst (-1), 1) := by decide +kernel
theorem dX2_countFalseCry_32 : decode cX2_countFalseCry 32 = .ok (.iadd, 1) := by decide +kernel
theorem dX2_countFalseCry_33 : decode cX2_countFalseCry 33 = .ok (.iastore, 1) := by decide +kernel
theorem dX2_countFalseCry_34 : decode cX2_countFalseCry 34 = .ok (.aload_n 0, 1) := by decide +kernel
theorem dX2_countFalseCry_35 : decode cX2_countFalseCry 35 = .ok (.getfield 124, 3) := by decide +kernel
theorem dX2_countFalseCry_38 : decode cX2_countFalseCry 38 = .ok (.aload_n 0, 1) := by decide +kernel
theorem dX2_countFalseCry_39 : decode cX2_countFalseCry 39 = .ok (.getfield 35, 3) := by decide +kernel
theorem dX2_countFalseCry_42 : decode cX2_countFalseCry 42 = .ok (.dup2, 1) := by decide +kernel
theorem dX2_countFalseCry_43 : decode cX2_countFalseCry 43 = .ok (.iaload, 1) := by decide +kernel
theorem dX2_countFalseCry_44 : decode cX2_countFalseCry 44 = .ok (.iconst 1, 1) := by decide +kernel
theorem dX2_countFalseCry_45 : decode cX2_countFalseCry 45 = .ok (.iadd, 1) := by decide +kernel
theorem dX2_countFalseCry_46 : decode cX2_countFalseCry 46 = .ok (.iastore, 1) := by decide +kernel
theorem dX2_countFalseCry_47 : decode cX2_countFalseCry 47 = .ok (.aload_n 0, 1) := by decide +kernel
theorem dX2_countFalseCry_48 : decode cX2_countFalseCry 48 = .ok (.getfield 121, 3) := by decide +kernel
theorem dX2_countFalseCry_51 : decode cX2_countFalseCry 51 = .ok (.aload_n 0, 1) := by decide +kernel
theorem dX2_countFalseCry_52 : decode cX2_countFalseCry 52 = .ok (.getfield 22, 3) := by decide +kernel
theorem dX2_countFalseCry_55 : decode cX2_countFalseCry 55 = .ok (.iconst 3, 1) := by decide +kernel
theorem dX2_countFalseCry_56 : decode cX2_countFalseCry 56 = .ok (.iaload, 1) := by decide +kernel
theorem dX2_countFalseCry_57 : decode cX2_countFalseCry 57 = .ok (.if_icmp .lt 11, 3) := by decide +kernel
theorem dX2_countFalseCry_60 : decode cX2_countFalseCry 60 = .ok (.aload_n 0, 1) := by decide +kernel
theorem dX2_countFalseCry_61 : decode cX2_countFalseCry 61 = .ok (.invokestatic 127, 3) := by decide +kernel
theorem dX2_countFalseCry_64 : decode cX2_countFalseCry 64 = .ok (.aload_n 0, 1) := by decide +kernel
theorem dX2_countFalseCry_65 : decode cX2_countFalseCry 65 = .ok (.invokestatic 130, 3) := by decide +kernel
theorem dX2_countFalseCry_68 : decode cX2_countFalseCry 68 = .ok (.return_, 1) := by decide +kernel
theorem dX2_letAllEscape_0 : decode cX2_letAllEscape 0 = .ok (.iconst 0, 1) := by decide +kernel
theorem dX2_letAllEscape_1 : decode cX2_letAllEscape 1 = .ok (.istore_n 1, 1) := by decide +kernel
theorem dX2_letAllEscape_2 : decode cX2_letAllEscape 2 = .ok (.iload_n 1, 1) := by decide +kernel
theorem dX2_letAllEscape_3 : decode cX2_letAllEscape 3 = .ok (.aload_n 0, 1) := by decide +kernel
theorem dX2_letAllEscape_4 : decode cX2_letAllEscape 4 = .ok (.getfield 29, 3) := by decide +kernel
theorem dX2_letAllEscape_7 : decode cX2_letAllEscape 7 = .ok (.if_icmp .ge 23, 3) := by decide +kernel
theorem dX2_letAllEscape_10 : decode cX2_letAllEscape 10 = .ok (.aload_n 0, 1) := by decide +kernel
theorem dX2_letAllEscape_11 : decode cX2_letAllEscape 11 = .ok (.iload_n 1, 1) := by decide +kernel
theorem dX2_letAllEscape_12 : decode cX2_letAllEscape 12 = .ok (.invokevirtual 58, 3) := by decide +kernel
theorem dX2_letAllEscape_15 : decode cX2_letAllEscape 15 = .ok (.ifCond .eq 9, 3) := by decide +kernel
theorem dX2_letAllEscape_18 : decode cX2_letAllEscape 18 = .ok (.aload_n 0, 1) := by decide +kernel
theorem dX2_letAllEscape_19 : decode cX2_letAllEscape 19 = .ok (.iload_n 1, 1) := by decide +kernel
theorem dX2_letAllEscape_20 : decode cX2_letAllEscape 20 = .ok (.iconst 1, 1) := by decide +kernel
theorem dX2_letAllEscape_21 : decode cX2_letAllEscape 21 = .ok (.invokestatic 103, 3) := by decide +kernel
theorem dX2_letAllEscape_24 : decode cX2_letAllEscape 24 = .ok (.iinc 1 1, 3) := by decide +kernel
theorem dX2_letAllEscape_27 : decode cX2_letAllEscape 27 = .ok (.goto (-25), 3) := by decide +kernel
theorem dX2_letAllEscape_30 : decode cX2_letAllEscape 30 = .ok (.return_, 1) := by decide +kernel
theorem dX2_escape_0 : decode cX2_escape 0 = .ok (.aload_n 0, 1) := by decide +kernel
theorem dX2_escape_1 : decode cX2_escape 1 = .ok (.getfield 64, 3) := by decide +kernel
theorem dX2_escape_4 : decode cX2_escape 4 = .ok (.iload_n 1, 1) := by decide +kernel
theorem dX2_escape_5 : decode cX2_escape 5 = .ok (.sipush (-10006), 3) := by decide +kernel
theorem dX2_escape_8 : decode cX2_escape 8 = .ok (.iastore, 1) := by decide +kernel
theorem dX2_escape_9 : decode cX2_escape 9 = .ok (.aload_n 0, 1) := by decide +kernel
theorem dX2_escape_10 : decode cX2_escape 10 = .ok (.getfield 106, 3) := by decide +kernel
theorem dX2_escape_13 : decode cX2_escape 13 = .ok (.iload_n 1, 1) := by decide +kernel
theorem dX2_escape_14 : decode cX2_escape 14 = .ok (.dup2, 1) := by decide +kernel
theorem dX2_escape_15 : decode cX2_escape 15 = .ok (.iaload, 1) := by decide +kernel
theorem dX2_escape_16 : decode cX2_escape 16 = .ok (.iload_n 2, 1) := by decide +kernel
theorem dX2_escape_17 : decode cX2_escape 17 = .ok (.iadd, 1) := by decide +kernel
theorem dX2_escape_18 : decode cX2_escape 18 = .ok (.iastore, 1) := by decide +kernel
theorem dX2_escape_19 : decode cX2_escape 19 = .ok (.aload_n 0, 1) := by decide +kernel
theorem dX2_escape_20 : decode cX2_escape 20 = .ok (.getfield 133, 3) := by decide +kernel
theorem dX2_escape_23 : decode cX2_escape 23 = .ok (.iload_n 1, 1) := by decide +kernel
theorem dX2_escape_24 : decode cX2_escape 24 = .ok (.dup2, 1) := by decide +kernel
theorem dX2_escape_25 : decode cX2_escape 25 = .ok (.iaload, 1) := by decide +kernel
theorem dX2_escape_26 : decode cX2_escape 26 = .ok (.iconst 1, 1) := by decide +kernel
theorem dX2_escape_27 : decode cX2_escape 27 = .ok (.iadd, 1) := by decide +kernel
theorem dX2_escape_28 : decode cX2_escape 28 = .ok (.iastore, 1) := by decide +kernel
theorem dX2_escape_29 : decode cX2_escape 29 = .ok (.return_, 1) := by decide +kernel
theorem dX2_endRoundIfNobodyIsHidden_0 : decode cX2_endRoundIfNobodyIsHidden 0 = .ok (.aload_n 0, 1) := by decide +kernel
theorem dX2_endRoundIfNobodyIsHidden_1 : decode cX2_endRoundIfNobodyIsHidden 1 = .ok (.invokevirtual 74, 3) := by decide +kernel
theorem dX2_endRoundIfNobodyIsHidden_4 : decode cX2_endRoundIfNobodyIsHidden 4 = .ok (.ifCond .ne 7, 3) := by decide +kernel
theorem dX2_endRoundIfNobodyIsHidden_7 : decode cX2_endRoundIfNobodyIsHidden 7 = .ok (.aload_n 0, 1) := by decide +kernel
theorem dX2_endRoundIfNobodyIsHidden_8 : decode cX2_endRoundIfNobodyIsHidden 8 = .ok (.invokestatic 130, 3) := by decide +kernel
theorem dX2_endRoundIfNobodyIsHidden_11 : decode cX2_endRoundIfNobodyIsHidden 11 = .ok (.return_, 1) := by decide +kernel
theorem dX2_endRound_0 : decode cX2_endRound 0 = .ok (.aload_n 0, 1) := by decide +kernel
theorem dX2_endRound_1 : decode cX2_endRound 1 = .ok (.iconst 0, 1) := by decide +kernel
theorem dX2_endRound_2 : decode cX2_endRound 2 = .ok (.putfield 25, 3) := by decide +kernel
theorem dX2_endRound_5 : decode cX2_endRound 5 = .ok (.aload_n 0, 1) := by decide +kernel
theorem dX2_endRound_6 : decode cX2_endRound 6 = .ok (.sipush (-10006), 3) := by decide +kernel
theorem dX2_endRound_9 : decode cX2_endRound 9 = .ok (.putfield 35, 3) := by decide +kernel
theorem dX2_endRound_12 : decode cX2_endRound 12 = .ok (.aload_n 0, 1) := by decide +kernel
theorem dX2_endRound_13 : decode cX2_endRound 13 = .ok (.sipush (-10006), 3) := by decide +kernel
theorem dX2_endRound_16 : decode cX2_endRound 16 = .ok (.putfield 38, 3) := by decide +kernel
theorem dX2_endRound_19 : decode cX2_endRound 19 = .ok (.aload_n 0, 1) := by decide +kernel
theorem dX2_endRound_20 : decode cX2_endRound 20 = .ok (.sipush (-10006), 3) := by decide +kernel
theorem dX2_endRound_23 : decode cX2_endRound 23 = .ok (.putfield 71, 3) := by decide +kernel
theorem dX2_endRound_26 : decode cX2_endRound 26 = .ok (.aload_n 0, 1) := by decide +kernel
theorem dX2_endRound_27 : decode cX2_endRound 27 = .ok (.iconst 0, 1) := by decide +kernel
theorem dX2_endRound_28 : decode cX2_endRound 28 = .ok (.putfield 121, 3) := by decide +kernel
theorem dX2_endRound_31 : decode cX2_endRound 31 = .ok (.aload_n 0, 1) := by decide +kernel
theorem dX2_endRound_32 : decode cX2_endRound 32 = .ok (.dup, 1) := by decide +kernel
theorem dX2_endRound_33 : decode cX2_endRound 33 = .ok (.getfield 136, 3) := by decide +kernel
theorem dX2_endRound_36 : decode cX2_endRound 36 = .ok (.iconst 1, 1) := by decide +kernel
theorem dX2_endRound_37 : decode cX2_endRound 37 = .ok (.iadd, 1) := by decide +kernel
theorem dX2_endRound_38 : decode cX2_endRound 38 = .ok (.putfield 136, 3) := by decide +kernel
theorem dX2_endRound_41 : decode cX2_endRound 41 = .ok (.iconst 0, 1) := by decide +kernel
theorem dX2_endRound_42 : decode cX2_endRound 42 = .ok (.istore_n 1, 1) := by decide +kernel
theorem dX2_endRound_43 : decode cX2_endRound 43 = .ok (.iload_n 1, 1) := by decide +kernel
theorem dX2_endRound_44 : decode cX2_endRound 44 = .ok (.bipush 16, 2) := by decide +kernel
theorem dX2_endRound_46 : decode cX2_endRound 46 = .ok (.if_icmp .ge 22, 3) := by decide +kernel
theorem dX2_endRound_49 : decode cX2_endRound 49 = .ok (.aload_n 0, 1) := by decide +kernel
theorem dX2_endRound_50 : decode cX2_endRound 50 = .ok (.iload_n 1, 1) := by decide +kernel
theorem dX2_endRound_51 : decode cX2_endRound 51 = .ok (.invokevirtual 115, 3) := by decide +kernel
theorem dX2_endRound_54 : decode cX2_endRound 54 = .ok (.ifCond .eq 8, 3) := by decide +kernel
theorem dX2_endRound_57 : decode cX2_endRound 57 = .ok (.aload_n 0, 1) := by decide +kernel
theorem dX2_endRound_58 : decode cX2_endRound 58 = .ok (.iload_n 1, 1) := by decide +kernel
theorem dX2_endRound_59 : decode cX2_endRound 59 = .ok (.invokestatic 139, 3) := by decide +kernel
theorem dX2_endRound_62 : decode cX2_endRound 62 = .ok (.iinc 1 1, 3) := by decide +kernel
theorem dX2_endRound_65 : decode cX2_endRound 65 = .ok (.goto (-22), 3) := by decide +kernel
theorem dX2_endRound_68 : decode cX2_endRound 68 = .ok (.return_, 1) := by decide +kernel
theorem dX2_restSpot_0 : decode cX2_restSpot 0 = .ok (.aload_n 0, 1) := by decide +kernel
theorem dX2_restSpot_1 : decode cX2_restSpot 1 = .ok (.getfield 118, 3) := by decide +kernel
theorem dX2_restSpot_4 : decode cX2_restSpot 4 = .ok (.iload_n 1, 1) := by decide +kernel
theorem dX2_restSpot_5 : decode cX2_restSpot 5 = .ok (.dup2, 1) := by decide +kernel
theorem dX2_restSpot_6 : decode cX2_restSpot 6 = .ok (.iaload, 1) := by decide +kernel
theorem dX2_restSpot_7 : decode cX2_restSpot 7 = .ok (.iconst 1, 1) := by decide +kernel
theorem dX2_restSpot_8 : decode cX2_restSpot 8 = .ok (.iadd, 1) := by decide +kernel
theorem dX2_restSpot_9 : decode cX2_restSpot 9 = .ok (.iastore, 1) := by decide +kernel
theorem dX2_restSpot_10 : decode cX2_restSpot 10 = .ok (.aload_n 0, 1) := by decide +kernel
theorem dX2_restSpot_11 : decode cX2_restSpot 11 = .ok (.getfield 22, 3) := by decide +kernel
theorem dX2_restSpot_14 : decode cX2_restSpot 14 = .ok (.iconst 2, 1) := by decide +kernel
theorem dX2_restSpot_15 : decode cX2_restSpot 15 = .ok (.iaload, 1) := by decide +kernel
theorem dX2_restSpot_16 : decode cX2_restSpot 16 = .ok (.istore_n 2, 1) := by decide +kernel
theorem dX2_restSpot_17 : decode cX2_restSpot 17 = .ok (.iload_n 2, 1) := by decide +kernel
theorem dX2_restSpot_18 : decode cX2_restSpot 18 = .ok (.ifCond .eq 27, 3) := by decide +kernel
theorem dX2_restSpot_21 : decode cX2_restSpot 21 = .ok (.aload_n 0, 1) := by decide +kernel
theorem dX2_restSpot_22 : decode cX2_restSpot 22 = .ok (.getfield 118, 3) := by decide +kernel
theorem dX2_restSpot_25 : decode cX2_restSpot 25 = .ok (.iload_n 1, 1) := by decide +kernel
theorem dX2_restSpot_26 : decode cX2_restSpot 26 = .ok (.iaload, 1) := by decide +kernel
theorem dX2_restSpot_27 : decode cX2_restSpot 27 = .ok (.iload_n 2, 1) := by decide +kernel
theorem dX2_restSpot_28 : decode cX2_restSpot 28 = .ok (.if_icmp .lt 17, 3) := by decide +kernel
theorem dX2_restSpot_31 : decode cX2_restSpot 31 = .ok (.aload_n 0, 1) := by decide +kernel
theorem dX2_restSpot_32 : decode cX2_restSpot 32 = .ok (.getfield 118, 3) := by decide +kernel
theorem dX2_restSpot_35 : decode cX2_restSpot 35 = .ok (.iload_n 1, 1) := by decide +kernel
theorem dX2_restSpot_36 : decode cX2_restSpot 36 = .ok (.iconst (-1), 1) := by decide +kernel
theorem dX2_restSpot_37 : decode cX2_restSpot 37 = .ok (.iastore, 1) := by decide +kernel
theorem dX2_restSpot_38 : decode cX2_restSpot 38 = .ok (.aload_n 0, 1) := by decide +kernel
theorem dX2_restSpot_39 : decode cX2_restSpot 39 = .ok (.getfield 112, 3) := by decide +kernel
theorem dX2_restSpot_42 : decode cX2_restSpot 42 = .ok (.iload_n 1, 1) := by decide +kernel
theorem dX2_restSpot_43 : decode cX2_restSpot 43 = .ok (.iconst 0, 1) := by decide +kernel
theorem dX2_restSpot_44 : decode cX2_restSpot 44 = .ok (.iastore, 1) := by decide +kernel
theorem dX2_restSpot_45 : decode cX2_restSpot 45 = .ok (.return_, 1) := by decide +kernel
theorem dX3_init_0 : decode cX3_init 0 = .ok (.aload_n 0, 1) := by decide +kernel
theorem dX3_init_1 : decode cX3_init 1 = .ok (.invokespecial 3, 3) := by decide +kernel
theorem dX3_init_4 : decode cX3_init 4 = .ok (.aload_n 0, 1) := by decide +kernel
theorem dX3_init_5 : decode cX3_init 5 = .ok (.bipush 6, 2) := by decide +kernel
theorem dX3_init_7 : decode cX3_init 7 = .ok (.anewarray 9, 3) := by decide +kernel
theorem dX3_init_10 : decode cX3_init 10 = .ok (.putfield 11, 3) := by decide +kernel
theorem dX3_init_13 : decode cX3_init 13 = .ok (.aload_n 0, 1) := by decide +kernel
theorem dX3_init_14 : decode cX3_init 14 = .ok (.iconst 0, 1) := by decide +kernel
theorem dX3_init_15 : decode cX3_init 15 = .ok (.putfield 17, 3) := by decide +kernel
theorem dX3_init_18 : decode cX3_init 18 = .ok (.iconst 0, 1) := by decide +kernel
theorem dX3_init_19 : decode cX3_init 19 = .ok (.istore_n 1, 1) := by decide +kernel
theorem dX3_init_20 : decode cX3_init 20 = .ok (.iload_n 1, 1) := by decide +kernel
theorem dX3_init_21 : decode cX3_init 21 = .ok (.aload_n 0, 1) := by decide +kernel
theorem dX3_init_22 : decode cX3_init 22 = .ok (.getfield 11, 3) := by decide +kernel
theorem dX3_init_25 : decode cX3_init 25 = .ok (.arraylength, 1) := by decide +kernel
theorem dX3_init_26 : decode cX3_init 26 = .ok (.if_icmp .ge 22, 3) := by decide +kernel
theorem dX3_init_29 : decode cX3_init 29 = .ok (.aload_n 0, 1) := by decide +kernel
theorem dX3_init_30 : decode cX3_init 30 = .ok (.getfield 11, 3) := by decide +kernel
theorem dX3_init_33 : decode cX3_init 33 = .ok (.iload_n 1, 1) := by decide +kernel
theorem dX3_init_34 : decode cX3_init 34 = .ok (.new 9, 3) := by decide +kernel
theorem dX3_init_37 : decode cX3_init 37 = .ok (.dup, 1) := by decide +kernel
theorem dX3_init_38 : decode cX3_init 38 = .ok (.invokespecial 21, 3) := by decide +kernel
theorem dX3_init_41 : decode cX3_init 41 = .ok (.aastore, 1) := by decide +kernel
theorem dX3_init_42 : decode cX3_init 42 = .ok (.iinc 1 1, 3) := by decide +kernel
theorem dX3_init_45 : decode cX3_init 45 = .ok (.goto (-25), 3) := by decide +kernel
theorem dX3_init_48 : decode cX3_init 48 = .ok (.return_, 1) := by decide +kernel
theorem dX3_draft_0 : decode cX3_draft 0 = .ok (.aload_n 0, 1) := by decide +kernel
theorem dX3_draft_1 : decode cX3_draft 1 = .ok (.getfield 11, 3) := by decide +kernel
theorem dX3_draft_4 : decode cX3_draft 4 = .ok (.aload_n 0, 1) := by decide +kernel
theorem dX3_draft_5 : decode cX3_draft 5 = .ok (.getfield 17, 3) := by decide +kernel
theorem dX3_draft_8 : decode cX3_draft 8 = .ok (.aaload, 1) := by decide +kernel
theorem dX3_draft_9 : decode cX3_draft 9 = .ok (.aload_n 1, 1) := by decide +kernel
theorem dX3_draft_10 : decode cX3_draft 10 = .ok (.invokevirtual 22, 3) := by decide +kernel
theorem dX3_draft_13 : decode cX3_draft 13 = .ok (.return_, 1) := by decide +kernel
theorem dX3_keep_0 : decode cX3_keep 0 = .ok (.iload_n 1, 1) := by decide +kernel
theorem dX3_keep_1 : decode cX3_keep 1 = .ok (.ifCond .ge 5, 3) := by decide +kernel
theorem dX3_keep_4 : decode cX3_keep 4 = .ok (.iload_n 1, 1) := by decide +kernel
theorem dX3_keep_5 : decode cX3_keep 5 = .ok (.ireturn, 1) := by decide +kernel
theorem dX3_keep_6 : decode cX3_keep 6 = .ok (.aload_n 0, 1) := by decide +kernel
theorem dX3_keep_7 : decode cX3_keep 7 = .ok (.getfield 17, 3) := by decide +kernel
theorem dX3_keep_10 : decode cX3_keep 10 = .ok (.iconst 5, 1) := by decide +kernel
theorem dX3_keep_11 : decode cX3_keep 11 = .ok (.if_icmp .ge 16, 3) := by decide +kernel
theorem dX3_keep_14 : decode cX3_keep 14 = .ok (.aload_n 0, 1) := by decide +kernel
theorem dX3_keep_15 : decode cX3_keep 15 = .ok (.dup, 1) := by decide +kernel
theorem dX3_keep_16 : decode cX3_keep 16 = .ok (.getfield 17, 3) := by decide +kernel
theorem dX3_keep_19 : decode cX3_keep 19 = .ok (.iconst 1, 1) := by decide +kernel
theorem dX3_keep_20 : decode cX3_keep 20 = .ok (.iadd, 1) := by decide +kernel
theorem dX3_keep_21 : decode cX3_keep 21 = .ok (.putfield 17, 3) := by decide +kernel
theorem dX3_keep_24 : decode cX3_keep 24 = .ok (.goto 7, 3) := by decide +kernel
theorem dX3_keep_27 : decode cX3_keep 27 = .ok (.aload_n 0, 1) := by decide +kernel
theorem dX3_keep_28 : decode cX3_keep 28 = .ok (.invokevirtual 26, 3) := by decide +kernel
theorem dX3_keep_31 : decode cX3_keep 31 = .ok (.iload_n 1, 1) := by decide +kernel
theorem dX3_keep_32 : decode cX3_keep 32 = .ok (.ireturn, 1) := by decide +kernel
theorem dX3_discardOldest_0 : decode cX3_discardOldest 0 = .ok (.aload_n 0, 1) := by decide +kernel
theorem dX3_discardOldest_1 : decode cX3_discardOldest 1 = .ok (.getfield 11, 3) := by decide +kernel
theorem dX3_discardOldest_4 : decode cX3_discardOldest 4 = .ok (.iconst 0, 1) := by decide +kernel
theorem dX3_discardOldest_5 : decode cX3_discardOldest 5 = .ok (.aaload, 1) := by decide +kernel
theorem dX3_discardOldest_6 : decode cX3_discardOldest 6 = .ok (.astore_n 1, 1) := by decide +kernel
theorem dX3_discardOldest_7 : decode cX3_discardOldest 7 = .ok (.iconst 0, 1) := by decide +kernel
theorem dX3_discardOldest_8 : decode cX3_discardOldest 8 = .ok (.istore_n 2, 1) := by decide +kernel
theorem dX3_discardOldest_9 : decode cX3_discardOldest 9 = .ok (.iload_n 2, 1) := by decide +kernel
theorem dX3_discardOldest_10 : decode cX3_discardOldest 10 = .ok (.iconst 5, 1) := by decide +kernel
theorem dX3_discardOldest_11 : decode cX3_discardOldest 11 = .ok (.if_icmp .ge 23, 3) := by decide +kernel
theorem dX3_discardOldest_14 : decode cX3_discardOldest 14 = .ok (.aload_n 0, 1) := by decide +kernel
theorem dX3_discardOldest_15 : decode cX3_discardOldest 15 = .ok (.getfield 11, 3) := by decide +kernel
theorem dX3_discardOldest_18 : decode cX3_discardOldest 18 = .ok (.iload_n 2, 1) := by decide +kernel
theorem dX3_discardOldest_19 : decode cX3_discardOldest 19 = .ok (.aload_n 0, 1) := by decide +kernel
theorem dX3_discardOldest_20 : decode cX3_discardOldest 20 = .ok (.getfield 11, 3) := by decide +kernel
theorem dX3_discardOldest_23 : decode cX3_discardOldest 23 = .ok (.iload_n 2, 1) := by decide +kernel
theorem dX3_discardOldest_24 : decode cX3_discardOldest 24 = .ok (.iconst 1, 1) := by decide +kernel
theorem dX3_discardOldest_25 : decode cX3_discardOldest 25 = .ok (.iadd, 1) := by decide +kernel
theorem dX3_discardOldest_26 : decode cX3_discardOldest 26 = .ok (.aaload, 1) := by decide +kernel
theorem dX3_discardOldest_27 : decode cX3_discardOldest 27 = .ok (.aastore, 1) := by decide +kernel
theorem dX3_discardOldest_28 : decode cX3_discardOldest 28 = .ok (.iinc 2 1, 3) := by decide +kernel
theorem dX3_discardOldest_31 : decode cX3_discardOldest 31 = .ok (.goto (-22), 3) := by decide +kernel
theorem dX3_discardOldest_34 : decode cX3_discardOldest 34 = .ok (.aload_n 0, 1) := by decide +kernel
theorem dX3_discardOldest_35 : decode cX3_discardOldest 35 = .ok (.getfield 11, 3) := by decide +kernel
theorem dX3_discardOldest_38 : decode cX3_discardOldest 38 = .ok (.iconst 5, 1) := by decide +kernel
theorem dX3_discardOldest_39 : decode cX3_discardOldest 39 = .ok (.aload_n 1, 1) := by decide +kernel
theorem dX3_discardOldest_40 : decode cX3_discardOldest 40 = .ok (.aastore, 1) := by decide +kernel
theorem dX3_discardOldest_41 : decode cX3_discardOldest 41 = .ok (.return_, 1) := by decide +kernel
theorem dX3_takeBack_0 : decode cX3_takeBack 0 = .ok (.aload_n 0, 1) := by decide +kernel
theorem dX3_takeBack_1 : decode cX3_takeBack 1 = .ok (.getfield 17, 3) := by decide +kernel
theorem dX3_takeBack_4 : decode cX3_takeBack 4 = .ok (.ifCond .ne 7, 3) := by decide +kernel
theorem dX3_takeBack_7 : decode cX3_takeBack 7 = .ok (.sipush (-10003), 3) := by decide +kernel
theorem dX3_takeBack_10 : decode cX3_takeBack 10 = .ok (.ireturn, 1) := by decide +kernel
theorem dX3_takeBack_11 : decode cX3_takeBack 11 = .ok (.aload_n 0, 1) := by decide +kernel
theorem dX3_takeBack_12 : decode cX3_takeBack 12 = .ok (.dup, 1) := by decide +kernel
theorem dX3_takeBack_13 : decode cX3_takeBack 13 = .ok (.getfield 17, 3) := by decide +kernel
theorem dX3_takeBack_16 : decode cX3_takeBack 16 = .ok (.iconst 1, 1) := by decide +kernel
theorem dX3_takeBack_17 : decode cX3_takeBack 17 = .ok (.isub, 1) := by decide +kernel
theorem dX3_takeBack_18 : decode cX3_takeBack 18 = .ok (.putfield 17, 3) := by decide +kernel
theorem dX3_takeBack_21 : decode cX3_takeBack 21 = .ok (.aload_n 1, 1) := by decide +kernel
theorem dX3_takeBack_22 : decode cX3_takeBack 22 = .ok (.aload_n 0, 1) := by decide +kernel
theorem dX3_takeBack_23 : decode cX3_takeBack 23 = .ok (.getfield 11, 3) := by decide +kernel
theorem dX3_takeBack_26 : decode cX3_takeBack 26 = .ok (.aload_n 0, 1) := by decide +kernel
theorem dX3_takeBack_27 : decode cX3_takeBack 27 = .ok (.getfield 17, 3) := by decide +kernel
theorem dX3_takeBack_30 : decode cX3_takeBack 30 = .ok (.aaload, 1) := by decide +kernel
theorem dX3_takeBack_31 : decode cX3_takeBack 31 = .ok (.invokevirtual 22, 3) := by decide +kernel
theorem dX3_takeBack_34 : decode cX3_takeBack 34 = .ok (.aload_n 0, 1) := by decide +kernel
theorem dX3_takeBack_35 : decode cX3_takeBack 35 = .ok (.getfield 17, 3) := by decide +kernel
theorem dX3_takeBack_38 : decode cX3_takeBack 38 = .ok (.ireturn, 1) := by decide +kernel
theorem dX4_isAhead_0 : decode cX4_isAhead 0 = .ok (.aload_n 0, 1) := by decide +kernel
theorem dX4_isAhead_1 : decode cX4_isAhead 1 = .ok (.getfield 9, 3) := by decide +kernel
theorem dX4_isAhead_4 : decode cX4_isAhead 4 = .ok (.iload_n 1, 1) := by decide +kernel
theorem dX4_isAhead_5 : decode cX4_isAhead 5 = .ok (.iaload, 1) := by decide +kernel
theorem dX4_isAhead_6 : decode cX4_isAhead 6 = .ok (.aload_n 0, 1) := by decide +kernel
theorem dX4_isAhead_7 : decode cX4_isAhead 7 = .ok (.getfield 9, 3) := by decide +kernel
theorem dX4_isAhead_10 : decode cX4_isAhead 10 = .ok (.iload_n 2, 1) := by decide +kernel
theorem dX4_isAhead_11 : decode cX4_isAhead 11 = .ok (.iaload, 1) := by decide +kernel
theorem dX4_isAhead_12 : decode cX4_isAhead 12 = .ok (.if_icmp .eq 24, 3) := by decide +kernel
theorem dX4_isAhead_15 : decode cX4_isAhead 15 = .ok (.aload_n 0, 1) := by decide +kernel
theorem dX4_isAhead_16 : decode cX4_isAhead 16 = .ok (.getfield 9, 3) := by decide +kernel
theorem dX4_isAhead_19 : decode cX4_isAhead 19 = .ok (.iload_n 1, 1) := by decide +kernel
theorem dX4_isAhead_20 : decode cX4_isAhead 20 = .ok (.iaload, 1) := by decide +kernel
theorem dX4_isAhead_21 : decode cX4_isAhead 21 = .ok (.aload_n 0, 1) := by decide +kernel
theorem dX4_isAhead_22 : decode cX4_isAhead 22 = .ok (.getfield 9, 3) := by decide +kernel
theorem dX4_isAhead_25 : decode cX4_isAhead 25 = .ok (.iload_n 2, 1) := by decide +kernel
theorem dX4_isAhead_26 : decode cX4_isAhead 26 = .ok (.iaload, 1) := by decide +kernel
theorem dX4_isAhead_27 : decode cX4_isAhead 27 = .ok (.if_icmp .le 7, 3) := by decide +kernel
theorem dX4_isAhead_30 : decode cX4_isAhead 30 = .ok (.iconst 1, 1) := by decide +kernel
theorem dX4_isAhead_31 : decode cX4_isAhead 31 = .ok (.goto 4, 3) := by decide +kernel
theorem dX4_isAhead_34 : decode cX4_isAhead 34 = .ok (.iconst 0, 1) := by decide +kernel
theorem dX4_isAhead_35 : decode cX4_isAhead 35 = .ok (.ireturn, 1) := by decide +kernel
theorem dX4_isAhead_36 : decode cX4_isAhead 36 = .ok (.aload_n 0, 1) := by decide +kernel
theorem dX4_isAhead_37 : decode cX4_isAhead 37 = .ok (.getfield 15, 3) := by decide +kernel
theorem dX4_isAhead_40 : decode cX4_isAhead 40 = .ok (.iload_n 1, 1) := by decide +kernel
theorem dX4_isAhead_41 : decode cX4_isAhead 41 = .ok (.iaload, 1) := by decide +kernel
theorem dX4_isAhead_42 : decode cX4_isAhead 42 = .ok (.aload_n 0, 1) := by decide +kernel
theorem dX4_isAhead_43 : decode cX4_isAhead 43 = .ok (.getfield 15, 3) := by decide +kernel
theorem dX4_isAhead_46 : decode cX4_isAhead 46 = .ok (.iload_n 2, 1) := by decide +kernel
theorem dX4_isAhead_47 : decode cX4_isAhead 47 = .ok (.iaload, 1) := by decide +kernel
theorem dX4_isAhead_48 : decode cX4_isAhead 48 = .ok (.if_icmp .eq 24, 3) := by decide +kernel
theorem dX4_isAhead_51 : decode cX4_isAhead 51 = .ok (.aload_n 0, 1) := by decide +kernel
theorem dX4_isAhead_52 : decode cX4_isAhead 52 = .ok (.getfield 15, 3) := by decide +kernel
theorem dX4_isAhead_55 : decode cX4_isAhead 55 = .ok (.iload_n 1, 1) := by decide +kernel
theorem dX4_isAhead_56 : decode cX4_isAhead 56 = .ok (.iaload, 1) := by decide +kernel
theorem dX4_isAhead_57 : decode cX4_isAhead 57 = .ok (.aload_n 0, 1) := by decide +kernel
theorem dX4_isAhead_58 : decode cX4_isAhead 58 = .ok (.getfield 15, 3) := by decide +kernel
theorem dX4_isAhead_61 : decode cX4_isAhead 61 = .ok (.iload_n 2, 1) := by decide +kernel
theorem dX4_isAhead_62 : decode cX4_isAhead 62 = .ok (.iaload, 1) := by decide +kernel
theorem dX4_isAhead_63 : decode cX4_isAhead 63 = .ok (.if_icmp .ge 7, 3) := by decide +kernel
theorem dX4_isAhead_66 : decode cX4_isAhead 66 = .ok (.iconst 1, 1) := by decide +kernel
theorem dX4_isAhead_67 : decode cX4_isAhead 67 = .ok (.goto 4, 3) := by decide +kernel
theorem dX4_isAhead_70 : decode cX4_isAhead 70 = .ok (.iconst 0, 1) := by decide +kernel
theorem dX4_isAhead_71 : decode cX4_isAhead 71 = .ok (.ireturn, 1) := by decide +kernel
theorem dX4_isAhead_72 : decode cX4_isAhead 72 = .ok (.iload_n 1, 1) := by decide +kernel
theorem dX4_isAhead_73 : decode cX4_isAhead 73 = .ok (.iload_n 2, 1) := by decide +kernel
theorem dX4_isAhead_74 : decode cX4_isAhead 74 = .ok (.if_icmp .ge 7, 3) := by decide +kernel
theorem dX4_isAhead_77 : decode cX4_isAhead 77 = .ok (.iconst 1, 1) := by decide +kernel
theorem dX4_isAhead_78 : decode cX4_isAhead 78 = .ok (.goto 4, 3) := by decide +kernel
theorem dX4_isAhead_81 : decode cX4_isAhead 81 = .ok (.iconst 0, 1) := by decide +kernel
theorem dX4_isAhead_82 : decode cX4_isAhead 82 = .ok (.ireturn, 1) := by decide +kernel
theorem dX4_placeOf_0 : decode cX4_placeOf 0 = .ok (.iconst 0, 1) := by decide +kernel
theorem dX4_placeOf_1 : decode cX4_placeOf 1 = .ok (.istore_n 2, 1) := by decide +kernel
theorem dX4_placeOf_2 : decode cX4_placeOf 2 = .ok (.iconst 0, 1) := by decide +kernel
theorem dX4_placeOf_3 : decode cX4_placeOf 3 = .ok (.istore_n 3, 1) := by decide +kernel
theorem dX4_placeOf_4 : decode cX4_placeOf 4 = .ok (.iload_n 3, 1) := by decide +kernel
theorem dX4_placeOf_5 : decode cX4_placeOf 5 = .ok (.aload_n 0, 1) := by decide +kernel
theorem dX4_placeOf_6 : decode cX4_placeOf 6 = .ok (.getfield 18, 3) := by decide +kernel
theorem dX4_placeOf_9 : decode cX4_placeOf 9 = .ok (.if_icmp .ge 21, 3) := by decide +kernel
theorem dX4_placeOf_12 : decode cX4_placeOf 12 = .ok (.aload_n 0, 1) := by decide +kernel
theorem dX4_placeOf_13 : decode cX4_placeOf 13 = .ok (.iload_n 3, 1) := by decide +kernel
theorem dX4_placeOf_14 : decode cX4_placeOf 14 = .ok (.iload_n 1, 1) := by decide +kernel
theorem dX4_placeOf_15 : decode cX4_placeOf 15 = .ok (.invokestatic 22, 3) := by decide +kernel
theorem dX4_placeOf_18 : decode cX4_placeOf 18 = .ok (.ifCond .eq 6, 3) := by decide +kernel
theorem dX4_placeOf_21 : decode cX4_placeOf 21 = .ok (.iinc 2 1, 3) := by decide +kernel
theorem dX4_placeOf_24 : decode cX4_placeOf 24 = .ok (.iinc 3 1, 3) := by decide +kernel
theorem dX4_placeOf_27 : decode cX4_placeOf 27 = .ok (.goto (-23), 3) := by decide +kernel
theorem dX4_placeOf_30 : decode cX4_placeOf 30 = .ok (.iload_n 2, 1) := by decide +kernel
theorem dX4_placeOf_31 : decode cX4_placeOf 31 = .ok (.ireturn, 1) := by decide +kernel
theorem dX4_playerAt_0 : decode cX4_playerAt 0 = .ok (.iconst 0, 1) := by decide +kernel
theorem dX4_playerAt_1 : decode cX4_playerAt 1 = .ok (.istore_n 2, 1) := by decide +kernel
theorem dX4_playerAt_2 : decode cX4_playerAt 2 = .ok (.iload_n 2, 1) := by decide +kernel
theorem dX4_playerAt_3 : decode cX4_playerAt 3 = .ok (.aload_n 0, 1) := by decide +kernel
theorem dX4_playerAt_4 : decode cX4_playerAt 4 = .ok (.getfield 18, 3) := by decide +kernel
theorem dX4_playerAt_7 : decode cX4_playerAt 7 = .ok (.if_icmp .ge 20, 3) := by decide +kernel
theorem dX4_playerAt_10 : decode cX4_playerAt 10 = .ok (.aload_n 0, 1) := by decide +kernel
theorem dX4_playerAt_11 : decode cX4_playerAt 11 = .ok (.iload_n 2, 1) := by decide +kernel
theorem dX4_playerAt_12 : decode cX4_playerAt 12 = .ok (.invokestatic 28, 3) := by decide +kernel
theorem dX4_playerAt_15 : decode cX4_playerAt 15 = .ok (.iload_n 1, 1) := by decide +kernel
theorem dX4_playerAt_16 : decode cX4_playerAt 16 = .ok (.if_icmp .ne 5, 3) := by decide +kernel
theorem dX4_playerAt_19 : decode cX4_playerAt 19 = .ok (.iload_n 2, 1) := by decide +kernel
theorem dX4_playerAt_20 : decode cX4_playerAt 20 = .ok (.ireturn, 1) := by decide +kernel
theorem dX4_playerAt_21 : decode cX4_playerAt 21 = .ok (.iinc 2 1, 3) := by decide +kernel
theorem dX4_playerAt_24 : decode cX4_playerAt 24 = .ok (.goto (-22), 3) := by decide +kernel
theorem dX4_playerAt_27 : decode cX4_playerAt 27 = .ok (.sipush (-10001), 3) := by decide +kernel
theorem dX4_playerAt_30 : decode cX4_playerAt 30 = .ok (.ireturn, 1) := by decide +kernel
theorem dX4_seekerOfNextRound_0 : decode cX4_seekerOfNextRound 0 = .ok (.sipush (-10006), 3) := by decide +kernel
theorem dX4_seekerOfNextRound_3 : decode cX4_seekerOfNextRound 3 = .ok (.istore_n 1, 1) := by decide +kernel
theorem dX4_seekerOfNextRound_4 : decode cX4_seekerOfNextRound 4 = .ok (.iconst 0, 1) := by decide +kernel
theorem dX4_seekerOfNextRound_5 : decode cX4_seekerOfNextRound 5 = .ok (.istore_n 2, 1) := by decide +kernel
theorem dX4_seekerOfNextRound_6 : decode cX4_seekerOfNextRound 6 = .ok (.iload_n 2, 1) := by decide +kernel
theorem dX4_seekerOfNextRound_7 : decode cX4_seekerOfNextRound 7 = .ok (.aload_n 0, 1) := by decide +kernel
theorem dX4_seekerOfNextRound_8 : decode cX4_seekerOfNextRound 8 = .ok (.getfield 18, 3) := by decide +kernel
theorem dX4_seekerOfNextRound_11 : decode cX4_seekerOfNextRound 11 = .ok (.if_icmp .ge 28, 3) := by decide +kernel
theorem dX4_seekerOfNextRound_14 : decode cX4_seekerOfNextRound 14 = .ok (.aload_n 0, 1) := by decide +kernel
theorem dX4_seekerOfNextRound_15 : decode cX4_seekerOfNextRound 15 = .ok (.iload_n 1, 1) := by decide +kernel
theorem dX4_seekerOfNextRound_16 : decode cX4_seekerOfNextRound 16 = .ok (.invokevirtual 32, 3) := by decide +kernel
theorem dX4_seekerOfNextRound_19 : decode cX4_seekerOfNextRound 19 = .ok (.ifCond .eq 12, 3) := by decide +kernel
theorem dX4_seekerOfNextRound_22 : decode cX4_seekerOfNextRound 22 = .ok (.aload_n 0, 1) := by decide +kernel
theorem dX4_seekerOfNextRound_23 : decode cX4_seekerOfNextRound 23 = .ok (.iload_n 2, 1) := by decide +kernel
theorem dX4_seekerOfNextRound_24 : decode cX4_seekerOfNextRound 24 = .ok (.iload_n 1, 1) := by decide +kernel
theorem dX4_seekerOfNextRound_25 : decode cX4_seekerOfNextRound 25 = .ok (.invokestatic 36, 3) := by decide +kernel
theorem dX4_seekerOfNextRound_28 : decode cX4_seekerOfNextRound 28 = .ok (.ifCond .eq 5, 3) := by decide +kernel
theorem dX4_seekerOfNextRound_31 : decode cX4_seekerOfNextRound 31 = .ok (.iload_n 2, 1) := by decide +kernel
theorem dX4_seekerOfNextRound_32 : decode cX4_seekerOfNextRound 32 = .ok (.istore_n 1, 1) := by decide +kernel
theorem dX4_seekerOfNextRound_33 : decode cX4_seekerOfNextRound 33 = .ok (.iinc 2 1, 3) := by decide +kernel
theorem dX4_seekerOfNextRound_36 : decode cX4_seekerOfNextRound 36 = .ok (.goto (-30), 3) := by decide +kernel
theorem dX4_seekerOfNextRound_39 : decode cX4_seekerOfNextRound 39 = .ok (.iload_n 1, 1) := by decide +kernel
theorem dX4_seekerOfNextRound_40 : decode cX4_seekerOfNextRound 40 = .ok (.ireturn, 1) := by decide +kernel
theorem dX4_seeksSooner_0 : decode cX4_seeksSooner 0 = .ok (.aload_n 0, 1) := by decide +kernel
theorem dX4_seeksSooner_1 : decode cX4_seeksSooner 1 = .ok (.getfield 39, 3) := by decide +kernel
theorem dX4_seeksSooner_4 : decode cX4_seeksSooner 4 = .ok (.iload_n 1, 1) := by decide +kernel
theorem dX4_seeksSooner_5 : decode cX4_seeksSooner 5 = .ok (.iaload, 1) := by decide +kernel
theorem dX4_seeksSooner_6 : decode cX4_seeksSooner 6 = .ok (.aload_n 0, 1) := by decide +kernel
theorem dX4_seeksSooner_7 : decode cX4_seeksSooner 7 = .ok (.getfield 39, 3) := by decide +kernel
theorem dX4_seeksSooner_10 : decode cX4_seeksSooner 10 = .ok (.iload_n 2, 1) := by decide +kernel
theorem dX4_seeksSooner_11 : decode cX4_seeksSooner 11 = .ok (.iaload, 1) := by decide +kernel
theorem dX4_seeksSooner_12 : decode cX4_seeksSooner 12 = .ok (.if_icmp .eq 24, 3) := by decide +kernel
theorem dX4_seeksSooner_15 : decode cX4_seeksSooner 15 = .ok (.aload_n 0, 1) := by decide +kernel
theorem dX4_seeksSooner_16 : decode cX4_seeksSooner 16 = .ok (.getfield 39, 3) := by decide +kernel
theorem dX4_seeksSooner_19 : decode cX4_seeksSooner 19 = .ok (.iload_n 1, 1) := by decide +kernel
theorem dX4_seeksSooner_20 : decode cX4_seeksSooner 20 = .ok (.iaload, 1) := by decide +kernel
theorem dX4_seeksSooner_21 : decode cX4_seeksSooner 21 = .ok (.aload_n 0, 1) := by decide +kernel
theorem dX4_seeksSooner_22 : decode cX4_seeksSooner 22 = .ok (.getfield 39, 3) := by decide +kernel
theorem dX4_seeksSooner_25 : decode cX4_seeksSooner 25 = .ok (.iload_n 2, 1) := by decide +kernel
theorem dX4_seeksSooner_26 : decode cX4_seeksSooner 26 = .ok (.iaload, 1) := by decide +kernel
theorem dX4_seeksSooner_27 : decode cX4_seeksSooner 27 = .ok (.if_icmp .ge 7, 3) := by decide +kernel
theorem dX4_seeksSooner_30 : decode cX4_seeksSooner 30 = .ok (.iconst 1, 1) := by decide +kernel
theorem dX4_seeksSooner_31 : decode cX4_seeksSooner 31 = .ok (.goto 4, 3) := by decide +kernel
theorem dX4_seeksSooner_34 : decode cX4_seeksSooner 34 = .ok (.iconst 0, 1) := by decide +kernel
theorem dX4_seeksSooner_35 : decode cX4_seeksSooner 35 = .ok (.ireturn, 1) := by decide +kernel
theorem dX4_seeksSooner_36 : decode cX4_seeksSooner 36 = .ok (.aload_n 0, 1) := by decide +kernel
theorem dX4_seeksSooner_37 : decode cX4_seeksSooner 37 = .ok (.iload_n 2, 1) := by decide +kernel
theorem dX4_seeksSooner_38 : decode cX4_seeksSooner 38 = .ok (.iload_n 1, 1) := by decide +kernel
theorem dX4_seeksSooner_39 : decode cX4_seeksSooner 39 = .ok (.invokestatic 22, 3) := by decide +kernel
theorem dX4_seeksSooner_42 : decode cX4_seeksSooner 42 = .ok (.ireturn, 1) := by decide +kernel
theorem dX5_init_0 : decode cX5_init 0 = .ok (.aload_n 0, 1) := by decide +kernel
theorem dX5_init_1 : decode cX5_init 1 = .ok (.invokespecial 3, 3) := by decide +kernel
theorem dX5_init_4 : decode cX5_init 4 = .ok (.aload_n 0, 1) := by decide +kernel
theorem dX5_init_5 : decode cX5_init 5 = .ok (.iconst 4, 1) := by decide +kernel
theorem dX5_init_6 : decode cX5_init 6 = .ok (.newarray .int, 2) := by decide +kernel
theorem dX5_init_8 : decode cX5_init 8 = .ok (.dup, 1) := by decide +kernel
theorem dX5_init_9 : decode cX5_init 9 = .ok (.iconst 0, 1) := by decide +kernel
theorem dX5_init_10 : decode cX5_init 10 = .ok (.iconst 1, 1) := by decide +kernel
theorem dX5_init_11 : decode cX5_init 11 = .ok (.iastore, 1) := by decide +kernel
theorem dX5_init_12 : decode cX5_init 12 = .ok (.dup, 1) := by decide +kernel
theorem dX5_init_13 : decode cX5_init 13 = .ok (.iconst 1, 1) := by decide +kernel
theorem dX5_init_14 : decode cX5_init 14 = .ok (.iconst 2, 1) := by decide +kernel
theorem dX5_init_15 : decode cX5_init 15 = .ok (.iastore, 1) := by decide +kernel
theorem dX5_init_16 : decode cX5_init 16 = .ok (.dup, 1) := by decide +kernel
theorem dX5_init_17 : decode cX5_init 17 = .ok (.iconst 2, 1) := by decide +kernel
theorem dX5_init_18 : decode cX5_init 18 = .ok (.iconst 2, 1) := by decide +kernel
theorem dX5_init_19 : decode cX5_init 19 = .ok (.iastore, 1) := by decide +kernel
theorem dX5_init_20 : decode cX5_init 20 = .ok (.dup, 1) := by decide +kernel
theorem dX5_init_21 : decode cX5_init 21 = .ok (.iconst 3, 1) := by decide +kernel
theorem dX5_init_22 : decode cX5_init 22 = .ok (.iconst 2, 1) := by decide +kernel
theorem dX5_init_23 : decode cX5_init 23 = .ok (.iastore, 1) := by decide +kernel
theorem dX5_init_24 : decode cX5_init 24 = .ok (.putfield 9, 3) := by decide +kernel
theorem dX5_init_27 : decode cX5_init 27 = .ok (.aload_n 0, 1) := by decide +kernel
theorem dX5_init_28 : decode cX5_init 28 = .ok (.bipush 8, 2) := by decide +kernel
theorem dX5_init_30 : decode cX5_init 30 = .ok (.newarray .int, 2) := by decide +kernel
theorem dX5_init_32 : decode cX5_init 32 = .ok (.putfield 15, 3) := by decide +kernel
theorem dX5_init_35 : decode cX5_init 35 = .ok (.aload_n 0, 1) := by decide +kernel
theorem dX5_init_36 : decode cX5_init 36 = .ok (.bipush 8, 2) := by decide +kernel
theorem dX5_init_38 : decode cX5_init 38 = .ok (.newarray .int, 2) := by decide +kernel
theorem dX5_init_40 : decode cX5_init 40 = .ok (.putfield 18, 3) := by decide +kernel
theorem dX5_init_43 : decode cX5_init 43 = .ok (.aload_n 0, 1) := by decide +kernel
theorem dX5_init_44 : decode cX5_init 44 = .ok (.bipush 8, 2) := by decide +kernel
theorem dX5_init_46 : decode cX5_init 46 = .ok (.newarray .int, 2) := by decide +kernel
theorem dX5_init_48 : decode cX5_init 48 = .ok (.putfield 21, 3) := by decide +kernel
theorem dX5_init_51 : decode cX5_init 51 = .ok (.aload_n 0, 1) := by decide +kernel
theorem dX5_init_52 : decode cX5_init 52 = .ok (.bipush 8, 2) := by decide +kernel
theorem dX5_init_54 : decode cX5_init 54 = .ok (.newarray .int, 2) := by decide +kernel
theorem dX5_init_56 : decode cX5_init 56 = .ok (.putfield 24, 3) := by decide +kernel
theorem dX5_init_59 : decode cX5_init 59 = .ok (.aload_n 0, 1) := by decide +kernel
theorem dX5_init_60 : decode cX5_init 60 = .ok (.bipush 8, 2) := by decide +kernel
theorem dX5_init_62 : decode cX5_init 62 = .ok (.newarray .int, 2) := by decide +kernel
theorem dX5_init_64 : decode cX5_init 64 = .ok (.putfield 27, 3) := by decide +kernel
theorem dX5_init_67 : decode cX5_init 67 = .ok (.aload_n 0, 1) := by decide +kernel
theorem dX5_init_68 : decode cX5_init 68 = .ok (.bipush 8, 2) := by decide +kernel
theorem dX5_init_70 : decode cX5_init 70 = .ok (.newarray .int, 2) := by decide +kernel
theorem dX5_init_72 : decode cX5_init 72 = .ok (.putfield 30, 3) := by decide +kernel
theorem dX5_init_75 : decode cX5_init 75 = .ok (.aload_n 0, 1) := by decide +kernel
theorem dX5_init_76 : decode cX5_init 76 = .ok (.bipush 16, 2) := by decide +kernel
theorem dX5_init_78 : decode cX5_init 78 = .ok (.newarray .int, 2) := by decide +kernel
theorem dX5_init_80 : decode cX5_init 80 = .ok (.putfield 35, 3) := by decide +kernel
theorem dX5_init_83 : decode cX5_init 83 = .ok (.aload_n 0, 1) := by decide +kernel
theorem dX5_init_84 : decode cX5_init 84 = .ok (.bipush 16, 2) := by decide +kernel
theorem dX5_init_86 : decode cX5_init 86 = .ok (.newarray .int, 2) := by decide +kernel
theorem dX5_init_88 : decode cX5_init 88 = .ok (.putfield 38, 3) := by decide +kernel
theorem dX5_init_91 : decode cX5_init 91 = .ok (.aload_n 0, 1) := by decide +kernel
theorem dX5_init_92 : decode cX5_init 92 = .ok (.iconst 0, 1) := by decide +kernel
theorem dX5_init_93 : decode cX5_init 93 = .ok (.putfield 41, 3) := by decide +kernel
theorem dX5_init_96 : decode cX5_init 96 = .ok (.aload_n 0, 1) := by decide +kernel
theorem dX5_init_97 : decode cX5_init 97 = .ok (.iconst 0, 1) := by decide +kernel
theorem dX5_init_98 : decode cX5_init 98 = .ok (.putfield 45, 3) := by decide +kernel
theorem dX5_init_101 : decode cX5_init 101 = .ok (.aload_n 0, 1) := by decide +kernel
theorem dX5_init_102 : decode cX5_init 102 = .ok (.iconst 0, 1) := by decide +kernel
theorem dX5_init_103 : decode cX5_init 103 = .ok (.putfield 48, 3) := by decide +kernel
theorem dX5_init_106 : decode cX5_init 106 = .ok (.aload_n 0, 1) := by decide +kernel
theorem dX5_init_107 : decode cX5_init 107 = .ok (.sipush (-10006), 3) := by decide +kernel
theorem dX5_init_110 : decode cX5_init 110 = .ok (.putfield 51, 3) := by decide +kernel
theorem dX5_init_113 : decode cX5_init 113 = .ok (.aload_n 0, 1) := by decide +kernel
theorem dX5_init_114 : decode cX5_init 114 = .ok (.sipush (-10006), 3) := by decide +kernel
theorem dX5_init_117 : decode cX5_init 117 = .ok (.putfield 54, 3) := by decide +kernel
theorem dX5_init_120 : decode cX5_init 120 = .ok (.aload_n 0, 1) := by decide +kernel
theorem dX5_init_121 : decode cX5_init 121 = .ok (.sipush (-10006), 3) := by decide +kernel
theorem dX5_init_124 : decode cX5_init 124 = .ok (.putfield 57, 3) := by decide +kernel
theorem dX5_init_127 : decode cX5_init 127 = .ok (.aload_n 0, 1) := by decide +kernel
theorem dX5_init_128 : decode cX5_init 128 = .ok (.iconst 0, 1) := by decide +kernel
theorem dX5_init_129 : decode cX5_init 129 = .ok (.putfield 60, 3) := by decide +kernel
theorem dX5_init_132 : decode cX5_init 132 = .ok (.aload_n 0, 1) := by decide +kernel
theorem dX5_init_133 : decode cX5_init 133 = .ok (.getfield 30, 3) := by decide +kernel
theorem dX5_init_136 : decode cX5_init 136 = .ok (.sipush (-10006), 3) := by decide +kernel
theorem dX5_init_139 : decode cX5_init 139 = .ok (.invokestatic 63, 3) := by decide +kernel
theorem dX5_init_142 : decode cX5_init 142 = .ok (.aload_n 0, 1) := by decide +kernel
theorem dX5_init_143 : decode cX5_init 143 = .ok (.getfield 38, 3) := by decide +kernel
theorem dX5_init_146 : decode cX5_init 146 = .ok (.iconst (-1), 1) := by decide +kernel
theorem dX5_init_147 : decode cX5_init 147 = .ok (.invokestatic 63, 3) := by decide +kernel
theorem dX5_init_150 : decode cX5_init 150 = .ok (.return_, 1) := by decide +kernel
theorem dX5_copyFrom_0 : decode cX5_copyFrom 0 = .ok (.aload_n 1, 1) := by decide +kernel
theorem dX5_copyFrom_1 : decode cX5_copyFrom 1 = .ok (.getfield 9, 3) := by decide +kernel
theorem dX5_copyFrom_4 : decode cX5_copyFrom 4 = .ok (.iconst 0, 1) := by decide +kernel
theorem dX5_copyFrom_5 : decode cX5_copyFrom 5 = .ok (.aload_n 0, 1) := by decide +kernel
theorem dX5_copyFrom_6 : decode cX5_copyFrom 6 = .ok (.getfield 9, 3) := by decide +kernel
theorem dX5_copyFrom_9 : decode cX5_copyFrom 9 = .ok (.iconst 0, 1) := by decide +kernel
theorem dX5_copyFrom_10 : decode cX5_copyFrom 10 = .ok (.aload_n 0, 1) := by decide +kernel
theorem dX5_copyFrom_11 : decode cX5_copyFrom 11 = .ok (.getfield 9, 3) := by decide +kernel
theorem dX5_copyFrom_14 : decode cX5_copyFrom 14 = .ok (.arraylength, 1) := by decide +kernel
theorem dX5_copyFrom_15 : decode cX5_copyFrom 15 = .ok (.invokestatic 69, 3) := by decide +kernel
theorem dX5_copyFrom_18 : decode cX5_copyFrom 18 = .ok (.aload_n 1, 1) := by decide +kernel
theorem dX5_copyFrom_19 : decode cX5_copyFrom 19 = .ok (.getfield 15, 3) := by decide +kernel
theorem dX5_copyFrom_22 : decode cX5_copyFrom 22 = .ok (.iconst 0, 1) := by decide +kernel
theorem dX5_copyFrom_23 : decode cX5_copyFrom 23 = .ok (.aload_n 0, 1) := by decide +kernel
theorem dX5_copyFrom_24 : decode cX5_copyFrom 24 = .ok (.getfield 15, 3) := by decide +kernel
theorem dX5_copyFrom_27 : decode cX5_copyFrom 27 = .ok (.iconst 0, 1) := by decide +kernel
theorem dX5_copyFrom_28 : decode cX5_copyFrom 28 = .ok (.bipush 8, 2) := by decide +kernel
theorem dX5_copyFrom_30 : decode cX5_copyFrom 30 = .ok (.invokestatic 69, 3) := by decide +kernel
theorem dX5_copyFrom_33 : decode cX5_copyFrom 33 = .ok (.aload_n 1, 1) := by decide +kernel
theorem dX5_copyFrom_34 : decode cX5_copyFrom 34 = .ok (.getfield 18, 3) := by decide +kernel
theorem dX5_copyFrom_37 : decode cX5_copyFrom 37 = .ok (.iconst 0, 1) := by decide +kernel
theorem dX5_copyFrom_38 : decode cX5_copyFrom 38 = .ok (.aload_n 0, 1) := by decide +kernel
theorem dX5_copyFrom_39 : decode cX5_copyFrom 39 = .ok (.getfield 18, 3) := by decide +kernel
theorem dX5_copyFrom_42 : decode cX5_copyFrom 42 = .ok (.iconst 0, 1) := by decide +kernel
theorem dX5_copyFrom_43 : decode cX5_copyFrom 43 = .ok (.bipush 8, 2) := by decide +kernel
theorem dX5_copyFrom_45 : decode cX5_copyFrom 45 = .ok (.invokestatic 69, 3) := by decide +kernel
theorem dX5_copyFrom_48 : decode cX5_copyFrom 48 = .ok (.aload_n 1, 1) := by decide +kernel
theorem dX5_copyFrom_49 : decode cX5_copyFrom 49 = .ok (.getfield 21, 3) := by decide +kernel
theorem dX5_copyFrom_52 : decode cX5_copyFrom 52 = .ok (.iconst 0, 1) := by decide +kernel
theorem dX5_copyFrom_53 : decode cX5_copyFrom 53 = .ok (.aload_n 0, 1) := by decide +kernel
theorem dX5_copyFrom_54 : decode cX5_copyFrom 54 = .ok (.getfield 21, 3) := by decide +kernel
theorem dX5_copyFrom_57 : decode cX5_copyFrom 57 = .ok (.iconst 0, 1) := by decide +kernel
theorem dX5_copyFrom_58 : decode cX5_copyFrom 58 = .ok (.bipush 8, 2) := by decide +kernel
theorem dX5_copyFrom_60 : decode cX5_copyFrom 60 = .ok (.invokestatic 69, 3) := by decide +kernel
theorem dX5_copyFrom_63 : decode cX5_copyFrom 63 = .ok (.aload_n 1, 1) := by decide +kernel
theorem dX5_copyFrom_64 : decode cX5_copyFrom 64 = .ok (.getfield 24, 3) := by decide +kernel
theorem dX5_copyFrom_67 : decode cX5_copyFrom 67 = .ok (.iconst 0, 1) := by decide +kernel
theorem dX5_copyFrom_68 : decode cX5_copyFrom 68 = .ok (.aload_n 0, 1) := by decide +kernel
theorem dX5_copyFrom_69 : decode cX5_copyFrom 69 = .ok (.getfield 24, 3) := by decide +kernel
theorem dX5_copyFrom_72 : decode cX5_copyFrom 72 = .ok (.iconst 0, 1) := by decide +kernel
theorem dX5_copyFrom_73 : decode cX5_copyFrom 73 = .ok (.bipush 8, 2) := by decide +kernel
theorem dX5_copyFrom_75 : decode cX5_copyFrom 75 = .ok (.invokestatic 69, 3) := by decide +kernel
theorem dX5_copyFrom_78 : decode cX5_copyFrom 78 = .ok (.aload_n 1, 1) := by decide +kernel
theorem dX5_copyFrom_79 : decode cX5_copyFrom 79 = .ok (.getfield 27, 3) := by decide +kernel
theorem dX5_copyFrom_82 : decode cX5_copyFrom 82 = .ok (.iconst 0, 1) := by decide +kernel
theorem dX5_copyFrom_83 : decode cX5_copyFrom 83 = .ok (.aload_n 0, 1) := by decide +kernel
theorem dX5_copyFrom_84 : decode cX5_copyFrom 84 = .ok (.getfield 27, 3) := by decide +kernel
theorem dX5_copyFrom_87 : decode cX5_copyFrom 87 = .ok (.iconst 0, 1) := by decide +kernel
theorem dX5_copyFrom_88 : decode cX5_copyFrom 88 = .ok (.bipush 8, 2) := by decide +kernel
theorem dX5_copyFrom_90 : decode cX5_copyFrom 90 = .ok (.invokestatic 69, 3) := by decide +kernel
theorem dX5_copyFrom_93 : decode cX5_copyFrom 93 = .ok (.aload_n 1, 1) := by decide +kernel
theorem dX5_copyFrom_94 : decode cX5_copyFrom 94 = .ok (.getfield 30, 3) := by decide +kernel
theorem dX5_copyFrom_97 : decode cX5_copyFrom 97 = .ok (.iconst 0, 1) := by decide +kernel
theorem dX5_copyFrom_98 : decode cX5_copyFrom 98 = .ok (.aload_n 0, 1) := by decide +kernel
theorem dX5_copyFrom_99 : decode cX5_copyFrom 99 = .ok (.getfield 30, 3) := by decide +kernel
theorem dX5_copyFrom_102 : decode cX5_copyFrom 102 = .ok (.iconst 0, 1) := by decide +kernel
theorem dX5_copyFrom_103 : decode cX5_copyFrom 103 = .ok (.bipush 8, 2) := by decide +kernel
theorem dX5_copyFrom_105 : decode cX5_copyFrom 105 = .ok (.invokestatic 69, 3) := by decide +kernel
theorem dX5_copyFrom_108 : decode cX5_copyFrom 108 = .ok (.aload_n 1, 1) := by decide +kernel
theorem dX5_copyFrom_109 : decode cX5_copyFrom 109 = .ok (.getfield 35, 3) := by decide +kernel
theorem dX5_copyFrom_112 : decode cX5_copyFrom 112 = .ok (.iconst 0, 1) := by decide +kernel
theorem dX5_copyFrom_113 : decode cX5_copyFrom 113 = .ok (.aload_n 0, 1) := by decide +kernel
theorem dX5_copyFrom_114 : decode cX5_copyFrom 114 = .ok (.getfield 35, 3) := by decide +kernel
theorem dX5_copyFrom_117 : decode cX5_copyFrom 117 = .ok (.iconst 0, 1) := by decide +kernel
theorem dX5_copyFrom_118 : decode cX5_copyFrom 118 = .ok (.bipush 16, 2) := by decide +kernel
theorem dX5_copyFrom_120 : decode cX5_copyFrom 120 = .ok (.invokestatic 69, 3) := by decide +kernel
theorem dX5_copyFrom_123 : decode cX5_copyFrom 123 = .ok (.aload_n 1, 1) := by decide +kernel
theorem dX5_copyFrom_124 : decode cX5_copyFrom 124 = .ok (.getfield 38, 3) := by decide +kernel
theorem dX5_copyFrom_127 : decode cX5_copyFrom 127 = .ok (.iconst 0, 1) := by decide +kernel
theorem dX5_copyFrom_128 : decode cX5_copyFrom 128 = .ok (.aload_n 0, 1) := by decide +kernel
theorem dX5_copyFrom_129 : decode cX5_copyFrom 129 = .ok (.getfield 38, 3) := by decide +kernel
theorem dX5_copyFrom_132 : decode cX5_copyFrom 132 = .ok (.iconst 0, 1) := by decide +kernel
theorem dX5_copyFrom_133 : decode cX5_copyFrom 133 = .ok (.bipush 16, 2) := by decide +kernel
theorem dX5_copyFrom_135 : decode cX5_copyFrom 135 = .ok (.invokestatic 69, 3) := by decide +kernel
theorem dX5_copyFrom_138 : decode cX5_copyFrom 138 = .ok (.aload_n 0, 1) := by decide +kernel
theorem dX5_copyFrom_139 : decode cX5_copyFrom 139 = .ok (.aload_n 1, 1) := by decide +kernel
theorem dX5_copyFrom_140 : decode cX5_copyFrom 140 = .ok (.getfield 41, 3) := by decide +kernel
theorem dX5_copyFrom_143 : decode cX5_copyFrom 143 = .ok (.putfield 41, 3) := by decide +kernel
theorem dX5_copyFrom_146 : decode cX5_copyFrom 146 = .ok (.aload_n 0, 1) := by decide +kernel
theorem dX5_copyFrom_147 : decode cX5_copyFrom 147 = .ok (.aload_n 1, 1) := by decide +kernel
theorem dX5_copyFrom_148 : decode cX5_copyFrom 148 = .ok (.getfield 45, 3) := by decide +kernel
theorem dX5_copyFrom_151 : decode cX5_copyFrom 151 = .ok (.putfield 45, 3) := by decide +kernel
theorem dX5_copyFrom_154 : decode cX5_copyFrom 154 = .ok (.aload_n 0, 1) := by decide +kernel
theorem dX5_copyFrom_155 : decode cX5_copyFrom 155 = .ok (.aload_n 1, 1) := by decide +kernel
theorem dX5_copyFrom_156 : decode cX5_copyFrom 156 = .ok (.getfield 48, 3) := by decide +kernel
theorem dX5_copyFrom_159 : decode cX5_copyFrom 159 = .ok (.putfield 48, 3) := by decide +kernel
theorem dX5_copyFrom_162 : decode cX5_copyFrom 162 = .ok (.aload_n 0, 1) := by decide +kernel
theorem dX5_copyFrom_163 : decode cX5_copyFrom 163 = .ok (.aload_n 1, 1) := by decide +kernel
theorem dX5_copyFrom_164 : decode cX5_copyFrom 164 = .ok (.getfield 51, 3) := by decide +kernel
theorem dX5_copyFrom_167 : decode cX5_copyFrom 167 = .ok (.putfield 51, 3) := by decide +kernel
theorem dX5_copyFrom_170 : decode cX5_copyFrom 170 = .ok (.aload_n 0, 1) := by decide +kernel
theorem dX5_copyFrom_171 : decode cX5_copyFrom 171 = .ok (.aload_n 1, 1) := by decide +kernel
theorem dX5_copyFrom_172 : decode cX5_copyFrom 172 = .ok (.getfield 54, 3) := by decide +kernel
theorem dX5_copyFrom_175 : decode cX5_copyFrom 175 = .ok (.putfield 54, 3) := by decide +kernel
theorem dX5_copyFrom_178 : decode cX5_copyFrom 178 = .ok (.aload_n 0, 1) := by decide +kernel
theorem dX5_copyFrom_179 : decode cX5_copyFrom 179 = .ok (.aload_n 1, 1) := by decide +kernel
theorem dX5_copyFrom_180 : decode cX5_copyFrom 180 = .ok (.getfield 57, 3) := by decide +kernel
theorem dX5_copyFrom_183 : decode cX5_copyFrom 183 = .ok (.putfield 57, 3) := by decide +kernel
theorem dX5_copyFrom_186 : decode cX5_copyFrom 186 = .ok (.aload_n 0, 1) := by decide +kernel
theorem dX5_copyFrom_187 : decode cX5_copyFrom 187 = .ok (.aload_n 1, 1) := by decide +kernel
theorem dX5_copyFrom_188 : decode cX5_copyFrom 188 = .ok (.getfield 60, 3) := by decide +kernel
theorem dX5_copyFrom_191 : decode cX5_copyFrom 191 = .ok (.putfield 60, 3) := by decide +kernel
theorem dX5_copyFrom_194 : decode cX5_copyFrom 194 = .ok (.return_, 1) := by decide +kernel
theorem dX5_isSetting_0 : decode cX5_isSetting 0 = .ok (.iload_n 0, 1) := by decide +kernel
theorem dX5_isSetting_1 : decode cX5_isSetting 1 = .ok (.ifCond .lt 12, 3) := by decide +kernel
theorem dX5_isSetting_4 : decode cX5_isSetting 4 = .ok (.iload_n 0, 1) := by decide +kernel
theorem dX5_isSetting_5 : decode cX5_isSetting 5 = .ok (.iconst 3, 1) := by decide +kernel
theorem dX5_isSetting_6 : decode cX5_isSetting 6 = .ok (.if_icmp .gt 7, 3) := by decide +kernel
theorem dX5_isSetting_9 : decode cX5_isSetting 9 = .ok (.iconst 1, 1) := by decide +kernel
theorem dX5_isSetting_10 : decode cX5_isSetting 10 = .ok (.goto 4, 3) := by decide +kernel
theorem dX5_isSetting_13 : decode cX5_isSetting 13 = .ok (.iconst 0, 1) := by decide +kernel
theorem dX5_isSetting_14 : decode cX5_isSetting 14 = .ok (.ireturn, 1) := by decide +kernel
theorem dX5_isPlayer_0 : decode cX5_isPlayer 0 = .ok (.iload_n 1, 1) := by decide +kernel
theorem dX5_isPlayer_1 : decode cX5_isPlayer 1 = .ok (.ifCond .lt 15, 3) := by decide +kernel
theorem dX5_isPlayer_4 : decode cX5_isPlayer 4 = .ok (.iload_n 1, 1) := by decide +kernel
theorem dX5_isPlayer_5 : decode cX5_isPlayer 5 = .ok (.aload_n 0, 1) := by decide +kernel
theorem dX5_isPlayer_6 : decode cX5_isPlayer 6 = .ok (.getfield 41, 3) := by decide +kernel
theorem dX5_isPlayer_9 : decode cX5_isPlayer 9 = .ok (.if_icmp .ge 7, 3) := by decide +kernel
theorem dX5_isPlayer_12 : decode cX5_isPlayer 12 = .ok (.iconst 1, 1) := by decide +kernel
theorem dX5_isPlayer_13 : decode cX5_isPlayer 13 = .ok (.goto 4, 3) := by decide +kernel
theorem dX5_isPlayer_16 : decode cX5_isPlayer 16 = .ok (.iconst 0, 1) := by decide +kernel
theorem dX5_isPlayer_17 : decode cX5_isPlayer 17 = .ok (.ireturn, 1) := by decide +kernel
theorem dX5_isHidden_0 : decode cX5_isHidden 0 = .ok (.aload_n 0, 1) := by decide +kernel
theorem dX5_isHidden_1 : decode cX5_isHidden 1 = .ok (.iload_n 1, 1) := by decide +kernel
theorem dX5_isHidden_2 : decode cX5_isHidden 2 = .ok (.invokevirtual 75, 3) := by decide +kernel
theorem dX5_isHidden_5 : decode cX5_isHidden 5 = .ok (.ifCond .eq 19, 3) := by decide +kernel
theorem dX5_isHidden_8 : decode cX5_isHidden 8 = .ok (.aload_n 0, 1) := by decide +kernel
theorem dX5_isHidden_9 : decode cX5_isHidden 9 = .ok (.getfield 30, 3) := by decide +kernel
theorem dX5_isHidden_12 : decode cX5_isHidden 12 = .ok (.iload_n 1, 1) := by decide +kernel
theorem dX5_isHidden_13 : decode cX5_isHidden 13 = .ok (.iaload, 1) := by decide +kernel
theorem dX5_isHidden_14 : decode cX5_isHidden 14 = .ok (.sipush (-10006), 3) := by decide +kernel
theorem dX5_isHidden_17 : decode cX5_isHidden 17 = .ok (.if_icmp .eq 7, 3) := by decide +kernel
theorem dX5_isHidden_20 : decode cX5_isHidden 20 = .ok (.iconst 1, 1) := by decide +kernel
theorem dX5_isHidden_21 : decode cX5_isHidden 21 = .ok (.goto 4, 3) := by decide +kernel
theorem dX5_isHidden_24 : decode cX5_isHidden 24 = .ok (.iconst 0, 1) := by decide +kernel
theorem dX5_isHidden_25 : decode cX5_isHidden 25 = .ok (.ireturn, 1) := by decide +kernel
theorem dX5_hiddenCount_0 : decode cX5_hiddenCount 0 = .ok (.iconst 0, 1) := by decide +kernel
theorem dX5_hiddenCount_1 : decode cX5_hiddenCount 1 = .ok (.istore_n 1, 1) := by decide +kernel
theorem dX5_hiddenCount_2 : decode cX5_hiddenCount 2 = .ok (.iconst 0, 1) := by decide +kernel
theorem dX5_hiddenCount_3 : decode cX5_hiddenCount 3 = .ok (.istore_n 2, 1) := by decide +kernel
theorem dX5_hiddenCount_4 : decode cX5_hiddenCount 4 = .ok (.iload_n 2, 1) := by decide +kernel
theorem dX5_hiddenCount_5 : decode cX5_hiddenCount 5 = .ok (.aload_n 0, 1) := by decide +kernel
theorem dX5_hiddenCount_6 : decode cX5_hiddenCount 6 = .ok (.getfield 41, 3) := by decide +kernel
theorem dX5_hiddenCount_9 : decode cX5_hiddenCount 9 = .ok (.if_icmp .ge 20, 3) := by decide +kernel
theorem dX5_hiddenCount_12 : decode cX5_hiddenCount 12 = .ok (.aload_n 0, 1) := by decide +kernel
theorem dX5_hiddenCount_13 : decode cX5_hiddenCount 13 = .ok (.iload_n 2, 1) := by decide +kernel
theorem dX5_hiddenCount_14 : decode cX5_hiddenCount 14 = .ok (.invokevirtual 79, 3) := by decide +kernel
theorem dX5_hiddenCount_17 : decode cX5_hiddenCount 17 = .ok (.ifCond .eq 6, 3) := by decide +kernel
theorem dX5_hiddenCount_20 : decode cX5_hiddenCount 20 = .ok (.iinc 1 1, 3) := by decide +kernel
theorem dX5_hiddenCount_23 : decode cX5_hiddenCount 23 = .ok (.iinc 2 1, 3) := by decide +kernel
theorem dX5_hiddenCount_26 : decode cX5_hiddenCount 26 = .ok (.goto (-22), 3) := by decide +kernel
theorem dX5_hiddenCount_29 : decode cX5_hiddenCount 29 = .ok (.iload_n 1, 1) := by decide +kernel
theorem dX5_hiddenCount_30 : decode cX5_hiddenCount 30 = .ok (.ireturn, 1) := by decide +kernel
theorem dX5_hidersAt_0 : decode cX5_hidersAt 0 = .ok (.iconst 0, 1) := by decide +kernel
theorem dX5_hidersAt_1 : decode cX5_hidersAt 1 = .ok (.istore_n 2, 1) := by decide +kernel
theorem dX5_hidersAt_2 : decode cX5_hidersAt 2 = .ok (.iconst 0, 1) := by decide +kernel
theorem dX5_hidersAt_3 : decode cX5_hidersAt 3 = .ok (.istore_n 3, 1) := by decide +kernel
theorem dX5_hidersAt_4 : decode cX5_hidersAt 4 = .ok (.iload_n 3, 1) := by decide +kernel
theorem dX5_hidersAt_5 : decode cX5_hidersAt 5 = .ok (.aload_n 0, 1) := by decide +kernel
theorem dX5_hidersAt_6 : decode cX5_hidersAt 6 = .ok (.getfield 41, 3) := by decide +kernel
theorem dX5_hidersAt_9 : decode cX5_hidersAt 9 = .ok (.if_icmp .ge 25, 3) := by decide +kernel
theorem dX5_hidersAt_12 : decode cX5_hidersAt 12 = .ok (.aload_n 0, 1) := by decide +kernel
theorem dX5_hidersAt_13 : decode cX5_hidersAt 13 = .ok (.getfield 30, 3) := by decide +kernel
theorem dX5_hidersAt_16 : decode cX5_hidersAt 16 = .ok (.iload_n 3, 1) := by decide +kernel
theorem dX5_hidersAt_17 : decode cX5_hidersAt 17 = .ok (.iaload, 1) := by decide +kernel
theorem dX5_hidersAt_18 : decode cX5_hidersAt 18 = .ok (.iload_n 1, 1) := by decide +kernel
theorem dX5_hidersAt_19 : decode cX5_hidersAt 19 = .ok (.if_icmp .ne 9, 3) := by decide +kernel
theorem dX5_hidersAt_22 : decode cX5_hidersAt 22 = .ok (.iload_n 2, 1) := by decide +kernel
theorem dX5_hidersAt_23 : decode cX5_hidersAt 23 = .ok (.iconst 1, 1) := by decide +kernel
theorem dX5_hidersAt_24 : decode cX5_hidersAt 24 = .ok (.iload_n 3, 1) := by decide +kernel
theorem dX5_hidersAt_25 : decode cX5_hidersAt 25 = .ok (.ishl, 1) := by decide +kernel
theorem dX5_hidersAt_26 : decode cX5_hidersAt 26 = .ok (.ior, 1) := by decide +kernel
theorem dX5_hidersAt_27 : decode cX5_hidersAt 27 = .ok (.istore_n 2, 1) := by decide +kernel
theorem dX5_hidersAt_28 : decode cX5_hidersAt 28 = .ok (.iinc 3 1, 3) := by decide +kernel
theorem dX5_hidersAt_31 : decode cX5_hidersAt 31 = .ok (.goto (-27), 3) := by decide +kernel
theorem dX5_hidersAt_34 : decode cX5_hidersAt 34 = .ok (.iload_n 2, 1) := by decide +kernel
theorem dX5_hidersAt_35 : decode cX5_hidersAt 35 = .ok (.ireturn, 1) := by decide +kernel
theorem dX5_hiderCount_0 : decode cX5_hiderCount 0 = .ok (.aload_n 0, 1) := by decide +kernel
theorem dX5_hiderCount_1 : decode cX5_hiderCount 1 = .ok (.iload_n 1, 1) := by decide +kernel
theorem dX5_hiderCount_2 : decode cX5_hiderCount 2 = .ok (.invokevirtual 82, 3) := by decide +kernel
theorem dX5_hiderCount_5 : decode cX5_hiderCount 5 = .ok (.invokestatic 86, 3) := by decide +kernel
theorem dX5_hiderCount_8 : decode cX5_hiderCount 8 = .ok (.ireturn, 1) := by decide +kernel
theorem dX5_isRetired_0 : decode cX5_isRetired 0 = .ok (.iload_n 1, 1) := by decide +kernel
theorem dX5_isRetired_1 : decode cX5_isRetired 1 = .ok (.invokestatic 91, 3) := by decide +kernel
theorem dX5_isRetired_4 : decode cX5_isRetired 4 = .ok (.ifCond .eq 17, 3) := by decide +kernel
theorem dX5_isRetired_7 : decode cX5_isRetired 7 = .ok (.aload_n 0, 1) := by decide +kernel
theorem dX5_isRetired_8 : decode cX5_isRetired 8 = .ok (.getfield 38, 3) := by decide +kernel
theorem dX5_isRetired_11 : decode cX5_isRetired 11 = .ok (.iload_n 1, 1) := by decide +kernel
theorem dX5_isRetired_12 : decode cX5_isRetired 12 = .ok (.iaload, 1) := by decide +kernel
theorem dX5_isRetired_13 : decode cX5_isRetired 13 = .ok (.iconst (-1), 1) := by decide +kernel
theorem dX5_isRetired_14 : decode cX5_isRetired 14 = .ok (.if_icmp .eq 7, 3) := by decide +kernel
theorem dX5_isRetired_17 : decode cX5_isRetired 17 = .ok (.iconst 1, 1) := by decide +kernel
theorem dX5_isRetired_18 : decode cX5_isRetired 18 = .ok (.goto 4, 3) := by decide +kernel
theorem dX5_isRetired_21 : decode cX5_isRetired 21 = .ok (.iconst 0, 1) := by decide +kernel
theorem dX5_isRetired_22 : decode cX5_isRetired 22 = .ok (.ireturn, 1) := by decide +kernel
theorem dX5_retiredCount_0 : decode cX5_retiredCount 0 = .ok (.iconst 0, 1) := by decide +kernel
theorem dX5_retiredCount_1 : decode cX5_retiredCount 1 = .ok (.istore_n 1, 1) := by decide +kernel
theorem dX5_retiredCount_2 : decode cX5_retiredCount 2 = .ok (.iconst 0, 1) := by decide +kernel
theorem dX5_retiredCount_3 : decode cX5_retiredCount 3 = .ok (.istore_n 2, 1) := by decide +kernel
theorem dX5_retiredCount_4 : decode cX5_retiredCount 4 = .ok (.iload_n 2, 1) := by decide +kernel
theorem dX5_retiredCount_5 : decode cX5_retiredCount 5 = .ok (.bipush 16, 2) := by decide +kernel
theorem dX5_retiredCount_7 : decode cX5_retiredCount 7 = .ok (.if_icmp .ge 20, 3) := by decide +kernel
theorem dX5_retiredCount_10 : decode cX5_retiredCount 10 = .ok (.aload_n 0, 1) := by decide +kernel
theorem dX5_retiredCount_11 : decode cX5_retiredCount 11 = .ok (.iload_n 2, 1) := by decide +kernel
theorem dX5_retiredCount_12 : decode cX5_retiredCount 12 = .ok (.invokevirtual 94, 3) := by decide +kernel
theorem dX5_retiredCount_15 : decode cX5_retiredCount 15 = .ok (.ifCond .eq 6, 3) := by decide +kernel
theorem dX5_retiredCount_18 : decode cX5_retiredCount 18 = .ok (.iinc 1 1, 3) := by decide +kernel
theorem dX5_retiredCount_21 : decode cX5_retiredCount 21 = .ok (.iinc 2 1, 3) := by decide +kernel
theorem dX5_retiredCount_24 : decode cX5_retiredCount 24 = .ok (.goto (-20), 3) := by decide +kernel
theorem dX5_retiredCount_27 : decode cX5_retiredCount 27 = .ok (.iload_n 1, 1) := by decide +kernel
theorem dX5_retiredCount_28 : decode cX5_retiredCount 28 = .ok (.ireturn, 1) := by decide +kernel
theorem dX5_isHidingPlace_0 : decode cX5_isHidingPlace 0 = .ok (.iload_n 1, 1) := by decide +kernel
theorem dX5_isHidingPlace_1 : decode cX5_isHidingPlace 1 = .ok (.ifCond .eq 26, 3) := by decide +kernel
theorem dX5_isHidingPlace_4 : decode cX5_isHidingPlace 4 = .ok (.iload_n 1, 1) := by decide +kernel
theorem dX5_isHidingPlace_5 : decode cX5_isHidingPlace 5 = .ok (.invokestatic 97, 3) := by decide +kernel
theorem dX5_isHidingPlace_8 : decode cX5_isHidingPlace 8 = .ok (.aload_n 0, 1) := by decide +kernel
theorem dX5_isHidingPlace_9 : decode cX5_isHidingPlace 9 = .ok (.getfield 54, 3) := by decide +kernel
theorem dX5_isHidingPlace_12 : decode cX5_isHidingPlace 12 = .ok (.if_icmp .gt 15, 3) := by decide +kernel
theorem dX5_isHidingPlace_15 : decode cX5_isHidingPlace 15 = .ok (.aload_n 0, 1) := by decide +kernel
theorem dX5_isHidingPlace_16 : decode cX5_isHidingPlace 16 = .ok (.iload_n 1, 1) := by decide +kernel
theorem dX5_isHidingPlace_17 : decode cX5_isHidingPlace 17 = .ok (.invokevirtual 94, 3) := by decide +kernel
theorem dX5_isHidingPlace_20 : decode cX5_isHidingPlace 20 = .ok (.ifCond .ne 7, 3) := by decide +kernel
theorem dX5_isHidingPlace_23 : decode cX5_isHidingPlace 23 = .ok (.iconst 1, 1) := by decide +kernel
theorem dX5_isHidingPlace_24 : decode cX5_isHidingPlace 24 = .ok (.goto 4, 3) := by decide +kernel
theorem dX5_isHidingPlace_27 : decode cX5_isHidingPlace 27 = .ok (.iconst 0, 1) := by decide +kernel
theorem dX5_isHidingPlace_28 : decode cX5_isHidingPlace 28 = .ok (.ireturn, 1) := by decide +kernel
theorem dX5_hasRoomToHide_0 : decode cX5_hasRoomToHide 0 = .ok (.aload_n 0, 1) := by decide +kernel
theorem dX5_hasRoomToHide_1 : decode cX5_hasRoomToHide 1 = .ok (.iload_n 1, 1) := by decide +kernel
theorem dX5_hasRoomToHide_2 : decode cX5_hasRoomToHide 2 = .ok (.invokevirtual 100, 3) := by decide +kernel
theorem dX5_hasRoomToHide_5 : decode cX5_hasRoomToHide 5 = .ok (.ifCond .eq 16, 3) := by decide +kernel
theorem dX5_hasRoomToHide_8 : decode cX5_hasRoomToHide 8 = .ok (.aload_n 0, 1) := by decide +kernel
theorem dX5_hasRoomToHide_9 : decode cX5_hasRoomToHide 9 = .ok (.iload_n 1, 1) := by decide +kernel
theorem dX5_hasRoomToHide_10 : decode cX5_hasRoomToHide 10 = .ok (.invokevirtual 103, 3) := by decide +kernel
theorem dX5_hasRoomToHide_13 : decode cX5_hasRoomToHide 13 = .ok (.iconst 2, 1) := by decide +kernel
theorem dX5_hasRoomToHide_14 : decode cX5_hasRoomToHide 14 = .ok (.if_icmp .ge 7, 3) := by decide +kernel
theorem dX5_hasRoomToHide_17 : decode cX5_hasRoomToHide 17 = .ok (.iconst 1, 1) := by decide +kernel
theorem dX5_hasRoomToHide_18 : decode cX5_hasRoomToHide 18 = .ok (.goto 4, 3) := by decide +kernel
theorem dX5_hasRoomToHide_21 : decode cX5_hasRoomToHide 21 = .ok (.iconst 0, 1) := by decide +kernel
theorem dX5_hasRoomToHide_22 : decode cX5_hasRoomToHide 22 = .ok (.ireturn, 1) := by decide +kernel
theorem dX5_seekerSees_0 : decode cX5_seekerSees 0 = .ok (.aload_n 0, 1) := by decide +kernel
theorem dX5_seekerSees_1 : decode cX5_seekerSees 1 = .ok (.getfield 57, 3) := by decide +kernel
theorem dX5_seekerSees_4 : decode cX5_seekerSees 4 = .ok (.iload_n 1, 1) := by decide +kernel
theorem dX5_seekerSees_5 : decode cX5_seekerSees 5 = .ok (.invokestatic 106, 3) := by decide +kernel
theorem dX5_seekerSees_8 : decode cX5_seekerSees 8 = .ok (.aload_n 0, 1) := by decide +kernel
theorem dX5_seekerSees_9 : decode cX5_seekerSees 9 = .ok (.getfield 9, 3) := by decide +kernel
theorem dX5_seekerSees_12 : decode cX5_seekerSees 12 = .ok (.iconst 0, 1) := by decide +kernel
theorem dX5_seekerSees_13 : decode cX5_seekerSees 13 = .ok (.iaload, 1) := by decide +kernel
theorem dX5_seekerSees_14 : decode cX5_seekerSees 14 = .ok (.if_icmp .gt 7, 3) := by decide +kernel
theorem dX5_seekerSees_17 : decode cX5_seekerSees 17 = .ok (.iconst 1, 1) := by decide +kernel
theorem dX5_seekerSees_18 : decode cX5_seekerSees 18 = .ok (.goto 4, 3) := by decide +kernel
theorem dX5_seekerSees_21 : decode cX5_seekerSees 21 = .ok (.iconst 0, 1) := by decide +kernel
theorem dX5_seekerSees_22 : decode cX5_seekerSees 22 = .ok (.ireturn, 1) := by decide +kernel
theorem dX5_wouldEscape_0 : decode cX5_wouldEscape 0 = .ok (.aload_n 0, 1) := by decide +kernel
theorem dX5_wouldEscape_1 : decode cX5_wouldEscape 1 = .ok (.iload_n 1, 1) := by decide +kernel
theorem dX5_wouldEscape_2 : decode cX5_wouldEscape 2 = .ok (.invokevirtual 79, 3) := by decide +kernel
theorem dX5_wouldEscape_5 : decode cX5_wouldEscape 5 = .ok (.ifCond .eq 26, 3) := by decide +kernel
theorem dX5_wouldEscape_8 : decode cX5_wouldEscape 8 = .ok (.aload_n 0, 1) := by decide +kernel
theorem dX5_wouldEscape_9 : decode cX5_wouldEscape 9 = .ok (.getfield 30, 3) := by decide +kernel
theorem dX5_wouldEscape_12 : decode cX5_wouldEscape 12 = .ok (.iload_n 1, 1) := by decide +kernel
theorem dX5_wouldEscape_13 : decode cX5_wouldEscape 13 = .ok (.iaload, 1) := by decide +kernel
theorem dX5_wouldEscape_14 : decode cX5_wouldEscape 14 = .ok (.invokestatic 97, 3) := by decide +kernel
theorem dX5_wouldEscape_17 : decode cX5_wouldEscape 17 = .ok (.aload_n 0, 1) := by decide +kernel
theorem dX5_wouldEscape_18 : decode cX5_wouldEscape 18 = .ok (.getfield 57, 3) := by decide +kernel
theorem dX5_wouldEscape_21 : decode cX5_wouldEscape 21 = .ok (.invokestatic 97, 3) := by decide +kernel
theorem dX5_wouldEscape_24 : decode cX5_wouldEscape 24 = .ok (.if_icmp .ge 7, 3) := by decide +kernel
theorem dX5_wouldEscape_27 : decode cX5_wouldEscape 27 = .ok (.iconst 1, 1) := by decide +kernel
theorem dX5_wouldEscape_28 : decode cX5_wouldEscape 28 = .ok (.goto 4, 3) := by decide +kernel
theorem dX5_wouldEscape_31 : decode cX5_wouldEscape 31 = .ok (.iconst 0, 1) := by decide +kernel
theorem dX5_wouldEscape_32 : decode cX5_wouldEscape 32 = .ok (.ireturn, 1) := by decide +kernel
theorem dX5_sumOfPoints_0 : decode cX5_sumOfPoints 0 = .ok (.iconst 0, 1) := by decide +kernel
theorem dX5_sumOfPoints_1 : decode cX5_sumOfPoints 1 = .ok (.istore_n 1, 1) := by decide +kernel
theorem dX5_sumOfPoints_2 : decode cX5_sumOfPoints 2 = .ok (.iconst 0, 1) := by decide +kernel
theorem dX5_sumOfPoints_3 : decode cX5_sumOfPoints 3 = .ok (.istore_n 2, 1) := by decide +kernel
theorem dX5_sumOfPoints_4 : decode cX5_sumOfPoints 4 = .ok (.iload_n 2, 1) := by decide +kernel
theorem dX5_sumOfPoints_5 : decode cX5_sumOfPoints 5 = .ok (.aload_n 0, 1) := by decide +kernel
theorem dX5_sumOfPoints_6 : decode cX5_sumOfPoints 6 = .ok (.getfield 41, 3) := by decide +kernel
theorem dX5_sumOfPoints_9 : decode cX5_sumOfPoints 9 = .ok (.if_icmp .ge 18, 3) := by decide +kernel
theorem dX5_sumOfPoints_12 : decode cX5_sumOfPoints 12 = .ok (.iload_n 1, 1) := by decide +kernel
theorem dX5_sumOfPoints_13 : decode cX5_sumOfPoints 13 = .ok (.aload_n 0, 1) := by decide +kernel
theorem dX5_sumOfPoints_14 : decode cX5_sumOfPoints 14 = .ok (.getfield 15, 3) := by decide +kernel
theorem dX5_sumOfPoints_17 : decode cX5_sumOfPoints 17 = .ok (.iload_n 2, 1) := by decide +kernel
theorem dX5_sumOfPoints_18 : decode cX5_sumOfPoints 18 = .ok (.iaload, 1) := by decide +kernel
theorem dX5_sumOfPoints_19 : decode cX5_sumOfPoints 19 = .ok (.iadd, 1) := by decide +kernel
theorem dX5_sumOfPoints_20 : decode cX5_sumOfPoints 20 = .ok (.istore_n 1, 1) := by decide +kernel
theorem dX5_sumOfPoints_21 : decode cX5_sumOfPoints 21 = .ok (.iinc 2 1, 3) := by decide +kernel
theorem dX5_sumOfPoints_24 : decode cX5_sumOfPoints 24 = .ok (.goto (-20), 3) := by decide +kernel
theorem dX5_sumOfPoints_27 : decode cX5_sumOfPoints 27 = .ok (.iload_n 1, 1) := by decide +kernel
theorem dX5_sumOfPoints_28 : decode cX5_sumOfPoints 28 = .ok (.ireturn, 1) := by decide +kernel
theorem dX6_isSpot_0 : decode cX6_isSpot 0 = .ok (.iload_n 0, 1) := by decide +kernel
theorem dX6_isSpot_1 : decode cX6_isSpot 1 = .ok (.ifCond .lt 13, 3) := by decide +kernel
theorem dX6_isSpot_4 : decode cX6_isSpot 4 = .ok (.iload_n 0, 1) := by decide +kernel
theorem dX6_isSpot_5 : decode cX6_isSpot 5 = .ok (.bipush 16, 2) := by decide +kernel
theorem dX6_isSpot_7 : decode cX6_isSpot 7 = .ok (.if_icmp .ge 7, 3) := by decide +kernel
theorem dX6_isSpot_10 : decode cX6_isSpot 10 = .ok (.iconst 1, 1) := by decide +kernel
theorem dX6_isSpot_11 : decode cX6_isSpot 11 = .ok (.goto 4, 3) := by decide +kernel
theorem dX6_isSpot_14 : decode cX6_isSpot 14 = .ok (.iconst 0, 1) := by decide +kernel
theorem dX6_isSpot_15 : decode cX6_isSpot 15 = .ok (.ireturn, 1) := by decide +kernel
theorem dX6_distance_0 : decode cX6_distance 0 = .ok (.iload_n 0, 1) := by decide +kernel
theorem dX6_distance_1 : decode cX6_distance 1 = .ok (.iload_n 1, 1) := by decide +kernel
theorem dX6_distance_2 : decode cX6_distance 2 = .ok (.invokestatic 9, 3) := by decide +kernel
theorem dX6_distance_5 : decode cX6_distance 5 = .ok (.istore_n 2, 1) := by decide +kernel
theorem dX6_distance_6 : decode cX6_distance 6 = .ok (.iload_n 2, 1) := by decide +kernel
theorem dX6_distance_7 : decode cX6_distance 7 = .ok (.bipush 16, 2) := by decide +kernel
theorem dX6_distance_9 : decode cX6_distance 9 = .ok (.iload_n 2, 1) := by decide +kernel
theorem dX6_distance_10 : decode cX6_distance 10 = .ok (.isub, 1) := by decide +kernel
theorem dX6_distance_11 : decode cX6_distance 11 = .ok (.invokestatic 13, 3) := by decide +kernel
theorem dX6_distance_14 : decode cX6_distance 14 = .ok (.ireturn, 1) := by decide +kernel
theorem dX6_fromBase_0 : decode cX6_fromBase 0 = .ok (.iconst 0, 1) := by decide +kernel
theorem dX6_fromBase_1 : decode cX6_fromBase 1 = .ok (.iload_n 0, 1) := by decide +kernel
theorem dX6_fromBase_2 : decode cX6_fromBase 2 = .ok (.invokestatic 18, 3) := by decide +kernel
theorem dX6_fromBase_5 : decode cX6_fromBase 5 = .ok (.ireturn, 1) := by decide +kernel
theorem dX6_stepsUp_0 : decode cX6_stepsUp 0 = .ok (.iload_n 1, 1) := by decide +kernel
theorem dX6_stepsUp_1 : decode cX6_stepsUp 1 = .ok (.iload_n 0, 1) := by decide +kernel
theorem dX6_stepsUp_2 : decode cX6_stepsUp 2 = .ok (.isub, 1) := by decide +kernel
theorem dX6_stepsUp_3 : decode cX6_stepsUp 3 = .ok (.bipush 16, 2) := by decide +kernel
theorem dX6_stepsUp_5 : decode cX6_stepsUp 5 = .ok (.invokestatic 21, 3) := by decide +kernel
theorem dX6_stepsUp_8 : decode cX6_stepsUp 8 = .ok (.ireturn, 1) := by decide +kernel
theorem dX6_beside_0 : decode cX6_beside 0 = .ok (.iload_n 0, 1) := by decide +kernel
theorem dX6_beside_1 : decode cX6_beside 1 = .ok (.iload_n 1, 1) := by decide +kernel
theorem dX6_beside_2 : decode cX6_beside 2 = .ok (.iadd, 1) := by decide +kernel
theorem dX6_beside_3 : decode cX6_beside 3 = .ok (.bipush 16, 2) := by decide +kernel
theorem dX6_beside_5 : decode cX6_beside 5 = .ok (.invokestatic 21, 3) := by decide +kernel
theorem dX6_beside_8 : decode cX6_beside 8 = .ok (.ireturn, 1) := by decide +kernel
theorem dX7_init_0 : decode cX7_init 0 = .ok (.aload_n 0, 1) := by decide +kernel
theorem dX7_init_1 : decode cX7_init 1 = .ok (.invokespecial 1, 3) := by decide +kernel
theorem dX7_init_4 : decode cX7_init 4 = .ok (.aload_n 0, 1) := by decide +kernel
theorem dX7_init_5 : decode cX7_init 5 = .ok (.new 7, 3) := by decide +kernel
theorem dX7_init_8 : decode cX7_init 8 = .ok (.dup, 1) := by decide +kernel
theorem dX7_init_9 : decode cX7_init 9 = .ok (.invokespecial 9, 3) := by decide +kernel
theorem dX7_init_12 : decode cX7_init 12 = .ok (.putfield 10, 3) := by decide +kernel
theorem dX7_init_15 : decode cX7_init 15 = .ok (.aload_n 0, 1) := by decide +kernel
theorem dX7_init_16 : decode cX7_init 16 = .ok (.new 7, 3) := by decide +kernel
theorem dX7_init_19 : decode cX7_init 19 = .ok (.dup, 1) := by decide +kernel
theorem dX7_init_20 : decode cX7_init 20 = .ok (.invokespecial 9, 3) := by decide +kernel
theorem dX7_init_23 : decode cX7_init 23 = .ok (.putfield 16, 3) := by decide +kernel
theorem dX7_init_26 : decode cX7_init 26 = .ok (.aload_n 0, 1) := by decide +kernel
theorem dX7_init_27 : decode cX7_init 27 = .ok (.new 19, 3) := by decide +kernel
theorem dX7_init_30 : decode cX7_init 30 = .ok (.dup, 1) := by decide +kernel
theorem dX7_init_31 : decode cX7_init 31 = .ok (.invokespecial 21, 3) := by decide +kernel
theorem dX7_init_34 : decode cX7_init 34 = .ok (.putfield 22, 3) := by decide +kernel
theorem dX7_init_37 : decode cX7_init 37 = .ok (.aload_n 0, 1) := by decide +kernel
theorem dX7_init_38 : decode cX7_init 38 = .ok (.new 26, 3) := by decide +kernel
theorem dX7_init_41 : decode cX7_init 41 = .ok (.dup, 1) := by decide +kernel
theorem dX7_init_42 : decode cX7_init 42 = .ok (.invokespecial 28, 3) := by decide +kernel
theorem dX7_init_45 : decode cX7_init 45 = .ok (.putfield 29, 3) := by decide +kernel
theorem dX7_init_48 : decode cX7_init 48 = .ok (.aload_n 0, 1) := by decide +kernel
theorem dX7_init_49 : decode cX7_init 49 = .ok (.iconst 0, 1) := by decide +kernel
theorem dX7_init_50 : decode cX7_init 50 = .ok (.putfield 33, 3) := by decide +kernel
theorem dX7_init_53 : decode cX7_init 53 = .ok (.return_, 1) := by decide +kernel
theorem dX7_set_0 : decode cX7_set 0 = .ok (.aload_n 0, 1) := by decide +kernel
theorem dX7_set_1 : decode cX7_set 1 = .ok (.getfield 22, 3) := by decide +kernel
theorem dX7_set_4 : decode cX7_set 4 = .ok (.aload_n 0, 1) := by decide +kernel
theorem dX7_set_5 : decode cX7_set 5 = .ok (.getfield 10, 3) := by decide +kernel
theorem dX7_set_8 : decode cX7_set 8 = .ok (.invokevirtual 37, 3) := by decide +kernel
theorem dX7_set_11 : decode cX7_set 11 = .ok (.aload_n 0, 1) := by decide +kernel
theorem dX7_set_12 : decode cX7_set 12 = .ok (.getfield 22, 3) := by decide +kernel
theorem dX7_set_15 : decode cX7_set 15 = .ok (.aload_n 0, 1) := by decide +kernel
theorem dX7_set_16 : decode cX7_set 16 = .ok (.getfield 10, 3) := by decide +kernel
theorem dX7_set_19 : decode cX7_set 19 = .ok (.iload_n 1, 1) := by decide +kernel
theorem dX7_set_20 : decode cX7_set 20 = .ok (.iload_n 2, 1) := by decide +kernel
theorem dX7_set_21 : decode cX7_set 21 = .ok (.invokestatic 41, 3) := by decide +kernel
theorem dX7_set_24 : decode cX7_set 24 = .ok (.invokevirtual 47, 3) := by decide +kernel
theorem dX7_set_27 : decode cX7_set 27 = .ok (.ireturn, 1) := by decide +kernel
theorem dX7_setting_0 : decode cX7_setting 0 = .ok (.iload_n 1, 1) := by decide +kernel
theorem dX7_setting_1 : decode cX7_setting 1 = .ok (.invokestatic 51, 3) := by decide +kernel
theorem dX7_setting_4 : decode cX7_setting 4 = .ok (.ifCond .ne 7, 3) := by decide +kernel
theorem dX7_setting_7 : decode cX7_setting 7 = .ok (.sipush (-10002), 3) := by decide +kernel
theorem dX7_setting_10 : decode cX7_setting 10 = .ok (.ireturn, 1) := by decide +kernel
theorem dX7_setting_11 : decode cX7_setting 11 = .ok (.aload_n 0, 1) := by decide +kernel
theorem dX7_setting_12 : decode cX7_setting 12 = .ok (.getfield 10, 3) := by decide +kernel
theorem dX7_setting_15 : decode cX7_setting 15 = .ok (.getfield 55, 3) := by decide +kernel
theorem dX7_setting_18 : decode cX7_setting 18 = .ok (.iload_n 1, 1) := by decide +kernel
theorem dX7_setting_19 : decode cX7_setting 19 = .ok (.iaload, 1) := by decide +kernel
theorem dX7_setting_20 : decode cX7_setting 20 = .ok (.ireturn, 1) := by decide +kernel
theorem dX7_join_0 : decode cX7_join 0 = .ok (.aload_n 0, 1) := by decide +kernel
theorem dX7_join_1 : decode cX7_join 1 = .ok (.getfield 22, 3) := by decide +kernel
theorem dX7_join_4 : decode cX7_join 4 = .ok (.aload_n 0, 1) := by decide +kernel
theorem dX7_join_5 : decode cX7_join 5 = .ok (.getfield 10, 3) := by decide +kernel
theorem dX7_join_8 : decode cX7_join 8 = .ok (.invokevirtual 37, 3) := by decide +kernel
theorem dX7_join_11 : decode cX7_join 11 = .ok (.aload_n 0, 1) := by decide +kernel
theorem dX7_join_12 : decode cX7_join 12 = .ok (.getfield 22, 3) := by decide +kernel
theorem dX7_join_15 : decode cX7_join 15 = .ok (.aload_n 0, 1) := by decide +kernel
theorem dX7_join_16 : decode cX7_join 16 = .ok (.getfield 10, 3) := by decide +kernel
theorem dX7_join_19 : decode cX7_join 19 = .ok (.invokestatic 59, 3) := by decide +kernel
theorem dX7_join_22 : decode cX7_join 22 = .ok (.invokevirtual 47, 3) := by decide +kernel
theorem dX7_join_25 : decode cX7_join 25 = .ok (.ireturn, 1) := by decide +kernel
theorem dX7_start_0 : decode cX7_start 0 = .ok (.aload_n 0, 1) := by decide +kernel
theorem dX7_start_1 : decode cX7_start 1 = .ok (.getfield 22, 3) := by decide +kernel
theorem dX7_start_4 : decode cX7_start 4 = .ok (.aload_n 0, 1) := by decide +kernel
theorem dX7_start_5 : decode cX7_start 5 = .ok (.getfield 10, 3) := by decide +kernel
theorem dX7_start_8 : decode cX7_start 8 = .ok (.invokevirtual 37, 3) := by decide +kernel
theorem dX7_start_11 : decode cX7_start 11 = .ok (.aload_n 0, 1) := by decide +kernel
theorem dX7_start_12 : decode cX7_start 12 = .ok (.getfield 22, 3) := by decide +kernel
theorem dX7_start_15 : decode cX7_start 15 = .ok (.aload_n 0, 1) := by decide +kernel
theorem dX7_start_16 : decode cX7_start 16 = .ok (.getfield 10, 3) := by decide +kernel
theorem dX7_start_19 : decode cX7_start 19 = .ok (.iload_n 1, 1) := by decide +kernel
theorem dX7_start_20 : decode cX7_start 20 = .ok (.iload_n 2, 1) := by decide +kernel
theorem dX7_start_21 : decode cX7_start 21 = .ok (.invokestatic 63, 3) := by decide +kernel
theorem dX7_start_24 : decode cX7_start 24 = .ok (.invokevirtual 47, 3) := by decide +kernel
theorem dX7_start_27 : decode cX7_start 27 = .ok (.ireturn, 1) := by decide +kernel
theorem dX7_hide_0 : decode cX7_hide 0 = .ok (.aload_n 0, 1) := by decide +kernel
theorem dX7_hide_1 : decode cX7_hide 1 = .ok (.getfield 22, 3) := by decide +kernel
theorem dX7_hide_4 : decode cX7_hide 4 = .ok (.aload_n 0, 1) := by decide +kernel
theorem dX7_hide_5 : decode cX7_hide 5 = .ok (.getfield 10, 3) := by decide +kernel
theorem dX7_hide_8 : decode cX7_hide 8 = .ok (.invokevirtual 37, 3) := by decide +kernel
theorem dX7_hide_11 : decode cX7_hide 11 = .ok (.aload_n 0, 1) := by decide +kernel
theorem dX7_hide_12 : decode cX7_hide 12 = .ok (.getfield 22, 3) := by decide +kernel
theorem dX7_hide_15 : decode cX7_hide 15 = .ok (.aload_n 0, 1) := by decide +kernel
theorem dX7_hide_16 : decode cX7_hide 16 = .ok (.getfield 10, 3) := by decide +kernel
theorem dX7_hide_19 : decode cX7_hide 19 = .ok (.iload_n 1, 1) := by decide +kernel
theorem dX7_hide_20 : decode cX7_hide 20 = .ok (.iload_n 2, 1) := by decide +kernel
theorem dX7_hide_21 : decode cX7_hide 21 = .ok (.invokestatic 66, 3) := by decide +kernel
theorem dX7_hide_24 : decode cX7_hide 24 = .ok (.invokevirtual 47, 3) := by decide +kernel
theorem dX7_hide_27 : decode cX7_hide 27 = .ok (.ireturn, 1) := by decide +kernel
theorem dX7_seek_0 : decode cX7_seek 0 = .ok (.aload_n 0, 1) := by decide +kernel
theorem dX7_seek_1 : decode cX7_seek 1 = .ok (.getfield 22, 3) := by decide +kernel
theorem dX7_seek_4 : decode cX7_seek 4 = .ok (.aload_n 0, 1) := by decide +kernel
theorem dX7_seek_5 : decode cX7_seek 5 = .ok (.getfield 10, 3) := by decide +kernel
theorem dX7_seek_8 : decode cX7_seek 8 = .ok (.invokevirtual 37, 3) := by decide +kernel
theorem dX7_seek_11 : decode cX7_seek 11 = .ok (.aload_n 0, 1) := by decide +kernel
theorem dX7_seek_12 : decode cX7_seek 12 = .ok (.getfield 22, 3) := by decide +kernel
theorem dX7_seek_15 : decode cX7_seek 15 = .ok (.aload_n 0, 1) := by decide +kernel
theorem dX7_seek_16 : decode cX7_seek 16 = .ok (.getfield 10, 3) := by decide +kernel
theorem dX7_seek_19 : decode cX7_seek 19 = .ok (.invokestatic 69, 3) := by decide +kernel
theorem dX7_seek_22 : decode cX7_seek 22 = .ok (.invokevirtual 47, 3) := by decide +kernel
theorem dX7_seek_25 : decode cX7_seek 25 = .ok (.ireturn, 1) := by decide +kernel
theorem dX7_walk_0 : decode cX7_walk 0 = .ok (.aload_n 0, 1) := by decide +kernel
theorem dX7_walk_1 : decode cX7_walk 1 = .ok (.getfield 22, 3) := by decide +kernel
theorem dX7_walk_4 : decode cX7_walk 4 = .ok (.aload_n 0, 1) := by decide +kernel
theorem dX7_walk_5 : decode cX7_walk 5 = .ok (.getfield 10, 3) := by decide +kernel
theorem dX7_walk_8 : decode cX7_walk 8 = .ok (.invokevirtual 37, 3) := by decide +kernel
theorem dX7_walk_11 : decode cX7_walk 11 = .ok (.aload_n 0, 1) := by decide +kernel
theorem dX7_walk_12 : decode cX7_walk 12 = .ok (.getfield 22, 3) := by decide +kernel
theorem dX7_walk_15 : decode cX7_walk 15 = .ok (.aload_n 0, 1) := by decide +kernel
theorem dX7_walk_16 : decode cX7_walk 16 = .ok (.getfield 10, 3) := by decide +kernel
theorem dX7_walk_19 : decode cX7_walk 19 = .ok (.iload_n 1, 1) := by decide +kernel
theorem dX7_walk_20 : decode cX7_walk 20 = .ok (.invokestatic 72, 3) := by decide +kernel
theorem dX7_walk_23 : decode cX7_walk 23 = .ok (.invokevirtual 47, 3) := by decide +kernel
theorem dX7_walk_26 : decode cX7_walk 26 = .ok (.ireturn, 1) := by decide +kernel
theorem dX7_cry_0 : decode cX7_cry 0 = .ok (.aload_n 0, 1) := by decide +kernel
theorem dX7_cry_1 : decode cX7_cry 1 = .ok (.getfield 22, 3) := by decide +kernel
theorem dX7_cry_4 : decode cX7_cry 4 = .ok (.aload_n 0, 1) := by decide +kernel
theorem dX7_cry_5 : decode cX7_cry 5 = .ok (.getfield 10, 3) := by decide +kernel
theorem dX7_cry_8 : decode cX7_cry 8 = .ok (.invokevirtual 37, 3) := by decide +kernel
theorem dX7_cry_11 : decode cX7_cry 11 = .ok (.aload_n 0, 1) := by decide +kernel
theorem dX7_cry_12 : decode cX7_cry 12 = .ok (.getfield 22, 3) := by decide +kernel
theorem dX7_cry_15 : decode cX7_cry 15 = .ok (.aload_n 0, 1) := by decide +kernel
theorem dX7_cry_16 : decode cX7_cry 16 = .ok (.getfield 10, 3) := by decide +kernel
theorem dX7_cry_19 : decode cX7_cry 19 = .ok (.iload_n 1, 1) := by decide +kernel
theorem dX7_cry_20 : decode cX7_cry 20 = .ok (.iload_n 2, 1) := by decide +kernel
theorem dX7_cry_21 : decode cX7_cry 21 = .ok (.invokestatic 76, 3) := by decide +kernel
theorem dX7_cry_24 : decode cX7_cry 24 = .ok (.invokevirtual 47, 3) := by decide +kernel
theorem dX7_cry_27 : decode cX7_cry 27 = .ok (.ireturn, 1) := by decide +kernel
theorem dX7_dash_0 : decode cX7_dash 0 = .ok (.aload_n 0, 1) := by decide +kernel
theorem dX7_dash_1 : decode cX7_dash 1 = .ok (.getfield 22, 3) := by decide +kernel
theorem dX7_dash_4 : decode cX7_dash 4 = .ok (.aload_n 0, 1) := by decide +kernel
theorem dX7_dash_5 : decode cX7_dash 5 = .ok (.getfield 10, 3) := by decide +kernel
theorem dX7_dash_8 : decode cX7_dash 8 = .ok (.invokevirtual 37, 3) := by decide +kernel
theorem dX7_dash_11 : decode cX7_dash 11 = .ok (.aload_n 0, 1) := by decide +kernel
theorem dX7_dash_12 : decode cX7_dash 12 = .ok (.getfield 22, 3) := by decide +kernel
theorem dX7_dash_15 : decode cX7_dash 15 = .ok (.aload_n 0, 1) := by decide +kernel
theorem dX7_dash_16 : decode cX7_dash 16 = .ok (.getfield 10, 3) := by decide +kernel
theorem dX7_dash_19 : decode cX7_dash 19 = .ok (.iload_n 1, 1) := by decide +kernel
theorem dX7_dash_20 : decode cX7_dash 20 = .ok (.invokestatic 79, 3) := by decide +kernel
theorem dX7_dash_23 : decode cX7_dash 23 = .ok (.invokevirtual 47, 3) := by decide +kernel
theorem dX7_dash_26 : decode cX7_dash 26 = .ok (.ireturn, 1) := by decide +kernel
theorem dX7_player_0 : decode cX7_player 0 = .ok (.aload_n 0, 1) := by decide +kernel
theorem dX7_player_1 : decode cX7_player 1 = .ok (.getfield 10, 3) := by decide +kernel
theorem dX7_player_4 : decode cX7_player 4 = .ok (.iload_n 1, 1) := by decide +kernel
theorem dX7_player_5 : decode cX7_player 5 = .ok (.invokevirtual 82, 3) := by decide +kernel
theorem dX7_player_8 : decode cX7_player 8 = .ok (.ifCond .ne 7, 3) := by decide +kernel
theorem dX7_player_11 : decode cX7_player 11 = .ok (.sipush (-10001), 3) := by decide +kernel
theorem dX7_player_14 : decode cX7_player 14 = .ok (.ireturn, 1) := by decide +kernel
theorem dX7_player_15 : decode cX7_player 15 = .ok (.iload_n 2, 1) := by decide +kernel
theorem dX7_player_16 : decode cX7_player 16 = .ok (.tableswitch 113 0 6 #[44, 54, 64, 74, 84, 94, 103], 44) := by decide +kernel
theorem dX7_player_60 : decode cX7_player 60 = .ok (.aload_n 0, 1) := by decide +kernel
theorem dX7_player_61 : decode cX7_player 61 = .ok (.getfield 10, 3) := by decide +kernel
theorem dX7_player_64 : decode cX7_player 64 = .ok (.getfield 85, 3) := by decide +kernel
theorem dX7_player_67 : decode cX7_player 67 = .ok (.iload_n 1, 1) := by decide +kernel
theorem dX7_player_68 : decode cX7_player 68 = .ok (.iaload, 1) := by decide +kernel
theorem dX7_player_69 : decode cX7_player 69 = .ok (.ireturn, 1) := by decide +kernel
theorem dX7_player_70 : decode cX7_player 70 = .ok (.aload_n 0, 1) := by decide +kernel
theorem dX7_player_71 : decode cX7_player 71 = .ok (.getfield 10, 3) := by decide +kernel
theorem dX7_player_74 : decode cX7_player 74 = .ok (.getfield 88, 3) := by decide +kernel
theorem dX7_player_77 : decode cX7_player 77 = .ok (.iload_n 1, 1) := by decide +kernel
theorem dX7_player_78 : decode cX7_player 78 = .ok (.iaload, 1) := by decide +kernel
theorem dX7_player_79 : decode cX7_player 79 = .ok (.ireturn, 1) := by decide +kernel
theorem dX7_player_80 : decode cX7_player 80 = .ok (.aload_n 0, 1) := by decide +kernel
theorem dX7_player_81 : decode cX7_player 81 = .ok (.getfield 10, 3) := by decide +kernel
theorem dX7_player_84 : decode cX7_player 84 = .ok (.getfield 91, 3) := by decide +kernel
theorem dX7_player_87 : decode cX7_player 87 = .ok (.iload_n 1, 1) := by decide +kernel
theorem dX7_player_88 : decode cX7_player 88 = .ok (.iaload, 1) := by decide +kernel
theorem dX7_player_89 : decode cX7_player 89 = .ok (.ireturn, 1) := by decide +kernel
theorem dX7_player_90 : decode cX7_player 90 = .ok (.aload_n 0, 1) := by decide +kernel
theorem dX7_player_91 : decode cX7_player 91 = .ok (.getfield 10, 3) := by decide +kernel
theorem dX7_player_94 : decode cX7_player 94 = .ok (.getfield 94, 3) := by decide +kernel
theorem dX7_player_97 : decode cX7_player 97 = .ok (.iload_n 1, 1) := by decide +kernel
theorem dX7_player_98 : decode cX7_player 98 = .ok (.iaload, 1) := by decide +kernel
theorem dX7_player_99 : decode cX7_player 99 = .ok (.ireturn, 1) := by decide +kernel
theorem dX7_player_100 : decode cX7_player 100 = .ok (.aload_n 0, 1) := by decide +kernel
theorem dX7_player_101 : decode cX7_player 101 = .ok (.getfield 10, 3) := by decide +kernel
theorem dX7_player_104 : decode cX7_player 104 = .ok (.getfield 97, 3) := by decide +kernel
theorem dX7_player_107 : decode cX7_player 107 = .ok (.iload_n 1, 1) := by decide +kernel
theorem dX7_player_108 : decode cX7_player 108 = .ok (.iaload, 1) := by decide +kernel
theorem dX7_player_109 : decode cX7_player 109 = .ok (.ireturn, 1) := by decide +kernel
theorem dX7_player_110 : decode cX7_player 110 = .ok (.aload_n 0, 1) := by decide +kernel
theorem dX7_player_111 : decode cX7_player 111 = .ok (.getfield 10, 3) := by decide +kernel
theorem dX7_player_114 : decode cX7_player 114 = .ok (.iload_n 1, 1) := by decide +kernel
theorem dX7_player_115 : decode cX7_player 115 = .ok (.invokestatic 100, 3) := by decide +kernel
theorem dX7_player_118 : decode cX7_player 118 = .ok (.ireturn, 1) := by decide +kernel
theorem dX7_player_119 : decode cX7_player 119 = .ok (.aload_n 0, 1) := by decide +kernel
theorem dX7_player_120 : decode cX7_player 120 = .ok (.getfield 10, 3) := by decide +kernel
theorem dX7_player_123 : decode cX7_player 123 = .ok (.getfield 105, 3) := by decide +kernel
theorem dX7_player_126 : decode cX7_player 126 = .ok (.iload_n 1, 1) := by decide +kernel
theorem dX7_player_127 : decode cX7_player 127 = .ok (.iaload, 1) := by decide +kernel
theorem dX7_player_128 : decode cX7_player 128 = .ok (.ireturn, 1) := by decide +kernel
theorem dX7_player_129 : decode cX7_player 129 = .ok (.sipush (-10002), 3) := by decide +kernel
theorem dX7_player_132 : decode cX7_player 132 = .ok (.ireturn, 1) := by decide +kernel
theorem dX7_spot_0 : decode cX7_spot 0 = .ok (.iload_n 1, 1) := by decide +kernel
theorem dX7_spot_1 : decode cX7_spot 1 = .ok (.invokestatic 108, 3) := by decide +kernel
theorem dX7_spot_4 : decode cX7_spot 4 = .ok (.ifCond .ne 7, 3) := by decide +kernel
theorem dX7_spot_7 : decode cX7_spot 7 = .ok (.sipush (-10001), 3) := by decide +kernel
theorem dX7_spot_10 : decode cX7_spot 10 = .ok (.ireturn, 1) := by decide +kernel
theorem dX7_spot_11 : decode cX7_spot 11 = .ok (.iload_n 2, 1) := by decide +kernel
theorem dX7_spot_12 : decode cX7_spot 12 = .ok (.tableswitch 73 0 3 #[32, 37, 47, 64], 32) := by decide +kernel
theorem dX7_spot_44 : decode cX7_spot 44 = .ok (.iload_n 1, 1) := by decide +kernel
theorem dX7_spot_45 : decode cX7_spot 45 = .ok (.invokestatic 113, 3) := by decide +kernel
theorem dX7_spot_48 : decode cX7_spot 48 = .ok (.ireturn, 1) := by decide +kernel
theorem dX7_spot_49 : decode cX7_spot 49 = .ok (.aload_n 0, 1) := by decide +kernel
theorem dX7_spot_50 : decode cX7_spot 50 = .ok (.getfield 10, 3) := by decide +kernel
theorem dX7_spot_53 : decode cX7_spot 53 = .ok (.getfield 116, 3) := by decide +kernel
theorem dX7_spot_56 : decode cX7_spot 56 = .ok (.iload_n 1, 1) := by decide +kernel
theorem dX7_spot_57 : decode cX7_spot 57 = .ok (.iaload, 1) := by decide +kernel
theorem dX7_spot_58 : decode cX7_spot 58 = .ok (.ireturn, 1) := by decide +kernel
theorem dX7_spot_59 : decode cX7_spot 59 = .ok (.aload_n 0, 1) := by decide +kernel
theorem dX7_spot_60 : decode cX7_spot 60 = .ok (.getfield 10, 3) := by decide +kernel
theorem dX7_spot_63 : decode cX7_spot 63 = .ok (.iload_n 1, 1) := by decide +kernel
theorem dX7_spot_64 : decode cX7_spot 64 = .ok (.invokevirtual 119, 3) := by decide +kernel
theorem dX7_spot_67 : decode cX7_spot 67 = .ok (.ifCond .eq 7, 3) := by decide +kernel
theorem dX7_spot_70 : decode cX7_spot 70 = .ok (.iconst 1, 1) := by decide +kernel
theorem dX7_spot_71 : decode cX7_spot 71 = .ok (.goto 4, 3) := by decide +kernel
theorem dX7_spot_74 : decode cX7_spot 74 = .ok (.iconst 0, 1) := by decide +kernel
theorem dX7_spot_75 : decode cX7_spot 75 = .ok (.ireturn, 1) := by decide +kernel
theorem dX7_spot_76 : decode cX7_spot 76 = .ok (.aload_n 0, 1) := by decide +kernel
theorem dX7_spot_77 : decode cX7_spot 77 = .ok (.getfield 10, 3) := by decide +kernel
theorem dX7_spot_80 : decode cX7_spot 80 = .ok (.iload_n 1, 1) := by decide +kernel
theorem dX7_spot_81 : decode cX7_spot 81 = .ok (.invokevirtual 122, 3) := by decide +kernel
theorem dX7_spot_84 : decode cX7_spot 84 = .ok (.ireturn, 1) := by decide +kernel
theorem dX7_spot_85 : decode cX7_spot 85 = .ok (.sipush (-10002), 3) := by decide +kernel
theorem dX7_spot_88 : decode cX7_spot 88 = .ok (.ireturn, 1) := by decide +kernel
theorem dX7_ranked_0 : decode cX7_ranked 0 = .ok (.aload_n 0, 1) := by decide +kernel
theorem dX7_ranked_1 : decode cX7_ranked 1 = .ok (.getfield 10, 3) := by decide +kernel
theorem dX7_ranked_4 : decode cX7_ranked 4 = .ok (.iload_n 1, 1) := by decide +kernel
theorem dX7_ranked_5 : decode cX7_ranked 5 = .ok (.invokestatic 125, 3) := by decide +kernel
theorem dX7_ranked_8 : decode cX7_ranked 8 = .ok (.ireturn, 1) := by decide +kernel
theorem dX7_nextSeeker_0 : decode cX7_nextSeeker 0 = .ok (.aload_n 0, 1) := by decide +kernel
theorem dX7_nextSeeker_1 : decode cX7_nextSeeker 1 = .ok (.getfield 10, 3) := by decide +kernel
theorem dX7_nextSeeker_4 : decode cX7_nextSeeker 4 = .ok (.invokestatic 128, 3) := by decide +kernel
theorem dX7_nextSeeker_7 : decode cX7_nextSeeker 7 = .ok (.ireturn, 1) := by decide +kernel
theorem dX7_total_0 : decode cX7_total 0 = .ok (.iload_n 1, 1) := by decide +kernel
theorem dX7_total_1 : decode cX7_total 1 = .ok (.tableswitch 135 0 9 #[55, 63, 71, 79, 87, 95, 103, 111, 119, 127], 55) := by decide +kernel
theorem dX7_total_56 : decode cX7_total 56 = .ok (.aload_n 0, 1) := by decide +kernel
theorem dX7_total_57 : decode cX7_total 57 = .ok (.getfield 10, 3) := by decide +kernel
theorem dX7_total_60 : decode cX7_total 60 = .ok (.getfield 131, 3) := by decide +kernel
theorem dX7_total_63 : decode cX7_total 63 = .ok (.ireturn, 1) := by decide +kernel
theorem dX7_total_64 : decode cX7_total 64 = .ok (.aload_n 0, 1) := by decide +kernel
theorem dX7_total_65 : decode cX7_total 65 = .ok (.getfield 10, 3) := by decide +kernel
theorem dX7_total_68 : decode cX7_total 68 = .ok (.getfield 135, 3) := by decide +kernel
theorem dX7_total_71 : decode cX7_total 71 = .ok (.ireturn, 1) := by decide +kernel
theorem dX7_total_72 : decode cX7_total 72 = .ok (.aload_n 0, 1) := by decide +kernel
theorem dX7_total_73 : decode cX7_total 73 = .ok (.getfield 10, 3) := by decide +kernel
theorem dX7_total_76 : decode cX7_total 76 = .ok (.getfield 138, 3) := by decide +kernel
theorem dX7_total_79 : decode cX7_total 79 = .ok (.ireturn, 1) := by decide +kernel
theorem dX7_total_80 : decode cX7_total 80 = .ok (.aload_n 0, 1) := by decide +kernel
theorem dX7_total_81 : decode cX7_total 81 = .ok (.getfield 10, 3) := by decide +kernel
theorem dX7_total_84 : decode cX7_total 84 = .ok (.getfield 141, 3) := by decide +kernel
theorem dX7_total_87 : decode cX7_total 87 = .ok (.ireturn, 1) := by decide +kernel
theorem dX7_total_88 : decode cX7_total 88 = .ok (.aload_n 0, 1) := by decide +kernel
theorem dX7_total_89 : decode cX7_total 89 = .ok (.getfield 10, 3) := by decide +kernel
theorem dX7_total_92 : decode cX7_total 92 = .ok (.getfield 144, 3) := by decide +kernel
theorem dX7_total_95 : decode cX7_total 95 = .ok (.ireturn, 1) := by decide +kernel
theorem dX7_total_96 : decode cX7_total 96 = .ok (.aload_n 0, 1) := by decide +kernel
theorem dX7_total_97 : decode cX7_total 97 = .ok (.getfield 10, 3) := by decide +kernel
theorem dX7_total_100 : decode cX7_total 100 = .ok (.getfield 147, 3) := by decide +kernel
theorem dX7_total_103 : decode cX7_total 103 = .ok (.ireturn, 1) := by decide +kernel
theorem dX7_total_104 : decode cX7_total 104 = .ok (.aload_n 0, 1) := by decide +kernel
theorem dX7_total_105 : decode cX7_total 105 = .ok (.getfield 10, 3) := by decide +kernel
theorem dX7_total_108 : decode cX7_total 108 = .ok (.getfield 150, 3) := by decide +kernel
theorem dX7_total_111 : decode cX7_total 111 = .ok (.ireturn, 1) := by decide +kernel
theorem dX7_total_112 : decode cX7_total 112 = .ok (.aload_n 0, 1) := by decide +kernel
theorem dX7_total_113 : decode cX7_total 113 = .ok (.getfield 10, 3) := by decide +kernel
theorem dX7_total_116 : decode cX7_total 116 = .ok (.invokevirtual 153, 3) := by decide +kernel
theorem dX7_total_119 : decode cX7_total 119 = .ok (.ireturn, 1) := by decide +kernel
theorem dX7_total_120 : decode cX7_total 120 = .ok (.aload_n 0, 1) := by decide +kernel
theorem dX7_total_121 : decode cX7_total 121 = .ok (.getfield 10, 3) := by decide +kernel
theorem dX7_total_124 : decode cX7_total 124 = .ok (.invokevirtual 157, 3) := by decide +kernel
theorem dX7_total_127 : decode cX7_total 127 = .ok (.ireturn, 1) := by decide +kernel
theorem dX7_total_128 : decode cX7_total 128 = .ok (.aload_n 0, 1) := by decide +kernel
theorem dX7_total_129 : decode cX7_total 129 = .ok (.getfield 10, 3) := by decide +kernel
theorem dX7_total_132 : decode cX7_total 132 = .ok (.invokevirtual 160, 3) := by decide +kernel
theorem dX7_total_135 : decode cX7_total 135 = .ok (.ireturn, 1) := by decide +kernel
theorem dX7_total_136 : decode cX7_total 136 = .ok (.sipush (-10002), 3) := by decide +kernel
theorem dX7_total_139 : decode cX7_total 139 = .ok (.ireturn, 1) := by decide +kernel
theorem dX7_inSight_0 : decode cX7_inSight 0 = .ok (.aload_n 0, 1) := by decide +kernel
theorem dX7_inSight_1 : decode cX7_inSight 1 = .ok (.getfield 10, 3) := by decide +kernel
theorem dX7_inSight_4 : decode cX7_inSight 4 = .ok (.invokestatic 163, 3) := by decide +kernel
theorem dX7_inSight_7 : decode cX7_inSight 7 = .ok (.ireturn, 1) := by decide +kernel
theorem dX7_couldDash_0 : decode cX7_couldDash 0 = .ok (.aload_n 0, 1) := by decide +kernel
theorem dX7_couldDash_1 : decode cX7_couldDash 1 = .ok (.getfield 10, 3) := by decide +kernel
theorem dX7_couldDash_4 : decode cX7_couldDash 4 = .ok (.invokestatic 168, 3) := by decide +kernel
theorem dX7_couldDash_7 : decode cX7_couldDash 7 = .ok (.ireturn, 1) := by decide +kernel
theorem dX7_bestSpot_0 : decode cX7_bestSpot 0 = .ok (.aload_n 0, 1) := by decide +kernel
theorem dX7_bestSpot_1 : decode cX7_bestSpot 1 = .ok (.getfield 10, 3) := by decide +kernel
theorem dX7_bestSpot_4 : decode cX7_bestSpot 4 = .ok (.invokestatic 171, 3) := by decide +kernel
theorem dX7_bestSpot_7 : decode cX7_bestSpot 7 = .ok (.ireturn, 1) := by decide +kernel
theorem dX7_fewestSteps_0 : decode cX7_fewestSteps 0 = .ok (.aload_n 0, 1) := by decide +kernel
theorem dX7_fewestSteps_1 : decode cX7_fewestSteps 1 = .ok (.getfield 10, 3) := by decide +kernel
theorem dX7_fewestSteps_4 : decode cX7_fewestSteps 4 = .ok (.invokestatic 174, 3) := by decide +kernel
theorem dX7_fewestSteps_7 : decode cX7_fewestSteps 7 = .ok (.ireturn, 1) := by decide +kernel
theorem dX7_append_0 : decode cX7_append 0 = .ok (.aload_n 0, 1) := by decide +kernel
theorem dX7_append_1 : decode cX7_append 1 = .ok (.getfield 29, 3) := by decide +kernel
theorem dX7_append_4 : decode cX7_append 4 = .ok (.iload_n 1, 1) := by decide +kernel
theorem dX7_append_5 : decode cX7_append 5 = .ok (.invokevirtual 177, 3) := by decide +kernel
theorem dX7_append_8 : decode cX7_append 8 = .ok (.ireturn, 1) := by decide +kernel
theorem dX7_clearText_0 : decode cX7_clearText 0 = .ok (.aload_n 0, 1) := by decide +kernel
theorem dX7_clearText_1 : decode cX7_clearText 1 = .ok (.getfield 29, 3) := by decide +kernel
theorem dX7_clearText_4 : decode cX7_clearText 4 = .ok (.invokevirtual 180, 3) := by decide +kernel
theorem dX7_clearText_7 : decode cX7_clearText 7 = .ok (.ireturn, 1) := by decide +kernel
theorem dX7_errorPosition_0 : decode cX7_errorPosition 0 = .ok (.aload_n 0, 1) := by decide +kernel
theorem dX7_errorPosition_1 : decode cX7_errorPosition 1 = .ok (.getfield 29, 3) := by decide +kernel
theorem dX7_errorPosition_4 : decode cX7_errorPosition 4 = .ok (.invokevirtual 183, 3) := by decide +kernel
theorem dX7_errorPosition_7 : decode cX7_errorPosition 7 = .ok (.ireturn, 1) := by decide +kernel
theorem dX7_play_0 : decode cX7_play 0 = .ok (.aload_n 0, 1) := by decide +kernel
theorem dX7_play_1 : decode cX7_play 1 = .ok (.getfield 29, 3) := by decide +kernel
theorem dX7_play_4 : decode cX7_play 4 = .ok (.invokevirtual 183, 3) := by decide +kernel
theorem dX7_play_7 : decode cX7_play 7 = .ok (.sipush (-10006), 3) := by decide +kernel
theorem dX7_play_10 : decode cX7_play 10 = .ok (.if_icmp .eq 7, 3) := by decide +kernel
theorem dX7_play_13 : decode cX7_play 13 = .ok (.sipush (-10005), 3) := by decide +kernel
theorem dX7_play_16 : decode cX7_play 16 = .ok (.ireturn, 1) := by decide +kernel
theorem dX7_play_17 : decode cX7_play 17 = .ok (.aload_n 0, 1) := by decide +kernel
theorem dX7_play_18 : decode cX7_play 18 = .ok (.getfield 22, 3) := by decide +kernel
theorem dX7_play_21 : decode cX7_play 21 = .ok (.aload_n 0, 1) := by decide +kernel
theorem dX7_play_22 : decode cX7_play 22 = .ok (.getfield 10, 3) := by decide +kernel
theorem dX7_play_25 : decode cX7_play 25 = .ok (.invokevirtual 37, 3) := by decide +kernel
theorem dX7_play_28 : decode cX7_play 28 = .ok (.aload_n 0, 1) := by decide +kernel
theorem dX7_play_29 : decode cX7_play 29 = .ok (.invokevirtual 186, 3) := by decide +kernel
theorem dX7_play_32 : decode cX7_play 32 = .ok (.istore_n 1, 1) := by decide +kernel
theorem dX7_play_33 : decode cX7_play 33 = .ok (.aload_n 0, 1) := by decide +kernel
theorem dX7_play_34 : decode cX7_play 34 = .ok (.getfield 29, 3) := by decide +kernel
theorem dX7_play_37 : decode cX7_play 37 = .ok (.invokevirtual 180, 3) := by decide +kernel
theorem dX7_play_40 : decode cX7_play 40 = .ok (.pop, 1) := by decide +kernel
theorem dX7_play_41 : decode cX7_play 41 = .ok (.aload_n 0, 1) := by decide +kernel
theorem dX7_play_42 : decode cX7_play 42 = .ok (.getfield 22, 3) := by decide +kernel
theorem dX7_play_45 : decode cX7_play 45 = .ok (.iload_n 1, 1) := by decide +kernel
theorem dX7_play_46 : decode cX7_play 46 = .ok (.invokevirtual 47, 3) := by decide +kernel
theorem dX7_play_49 : decode cX7_play 49 = .ok (.ireturn, 1) := by decide +kernel
theorem dX7_makeMoves_0 : decode cX7_makeMoves 0 = .ok (.iconst 0, 1) := by decide +kernel
theorem dX7_makeMoves_1 : decode cX7_makeMoves 1 = .ok (.istore_n 1, 1) := by decide +kernel
theorem dX7_makeMoves_2 : decode cX7_makeMoves 2 = .ok (.iconst 0, 1) := by decide +kernel
theorem dX7_makeMoves_3 : decode cX7_makeMoves 3 = .ok (.istore_n 2, 1) := by decide +kernel
theorem dX7_makeMoves_4 : decode cX7_makeMoves 4 = .ok (.iload_n 2, 1) := by decide +kernel
theorem dX7_makeMoves_5 : decode cX7_makeMoves 5 = .ok (.bipush 60, 2) := by decide +kernel
theorem dX7_makeMoves_7 : decode cX7_makeMoves 7 = .ok (.if_icmp .ge 33, 3) := by decide +kernel
theorem dX7_makeMoves_10 : decode cX7_makeMoves 10 = .ok (.aload_n 0, 1) := by decide +kernel
theorem dX7_makeMoves_11 : decode cX7_makeMoves 11 = .ok (.getfield 29, 3) := by decide +kernel
theorem dX7_makeMoves_14 : decode cX7_makeMoves 14 = .ok (.iload_n 2, 1) := by decide +kernel
theorem dX7_makeMoves_15 : decode cX7_makeMoves 15 = .ok (.invokevirtual 189, 3) := by decide +kernel
theorem dX7_makeMoves_18 : decode cX7_makeMoves 18 = .ok (.ifCond .eq 16, 3) := by decide +kernel
theorem dX7_makeMoves_21 : decode cX7_makeMoves 21 = .ok (.aload_n 0, 1) := by decide +kernel
theorem dX7_makeMoves_22 : decode cX7_makeMoves 22 = .ok (.iload_n 2, 1) := by decide +kernel
theorem dX7_makeMoves_23 : decode cX7_makeMoves 23 = .ok (.invokevirtual 192, 3) := by decide +kernel
theorem dX7_makeMoves_26 : decode cX7_makeMoves 26 = .ok (.ifCond .ge 5, 3) := by decide +kernel
theorem dX7_makeMoves_29 : decode cX7_makeMoves 29 = .ok (.iload_n 1, 1) := by decide +kernel
theorem dX7_makeMoves_30 : decode cX7_makeMoves 30 = .ok (.ireturn, 1) := by decide +kernel
theorem dX7_makeMoves_31 : decode cX7_makeMoves 31 = .ok (.iinc 1 1, 3) := by decide +kernel
theorem dX7_makeMoves_34 : decode cX7_makeMoves 34 = .ok (.iinc 2 1, 3) := by decide +kernel
theorem dX7_makeMoves_37 : decode cX7_makeMoves 37 = .ok (.goto (-33), 3) := by decide +kernel
theorem dX7_makeMoves_40 : decode cX7_makeMoves 40 = .ok (.iload_n 1, 1) := by decide +kernel
theorem dX7_makeMoves_41 : decode cX7_makeMoves 41 = .ok (.ireturn, 1) := by decide +kernel
theorem dX7_makeMove_0 : decode cX7_makeMove 0 = .ok (.aload_n 0, 1) := by decide +kernel
theorem dX7_makeMove_1 : decode cX7_makeMove 1 = .ok (.getfield 29, 3) := by decide +kernel
theorem dX7_makeMove_4 : decode cX7_makeMove 4 = .ok (.iload_n 1, 1) := by decide +kernel
theorem dX7_makeMove_5 : decode cX7_makeMove 5 = .ok (.iconst 1, 1) := by decide +kernel
theorem dX7_makeMove_6 : decode cX7_makeMove 6 = .ok (.iadd, 1) := by decide +kernel
theorem dX7_makeMove_7 : decode cX7_makeMove 7 = .ok (.invokevirtual 195, 3) := by decide +kernel
theorem dX7_makeMove_10 : decode cX7_makeMove 10 = .ok (.bipush 48, 2) := by decide +kernel
theorem dX7_makeMove_12 : decode cX7_makeMove 12 = .ok (.isub, 1) := by decide +kernel
theorem dX7_makeMove_13 : decode cX7_makeMove 13 = .ok (.istore_n 2, 1) := by decide +kernel
theorem dX7_makeMove_14 : decode cX7_makeMove 14 = .ok (.aload_n 0, 1) := by decide +kernel
theorem dX7_makeMove_15 : decode cX7_makeMove 15 = .ok (.getfield 29, 3) := by decide +kernel
theorem dX7_makeMove_18 : decode cX7_makeMove 18 = .ok (.iload_n 1, 1) := by decide +kernel
theorem dX7_makeMove_19 : decode cX7_makeMove 19 = .ok (.iconst 2, 1) := by decide +kernel
theorem dX7_makeMove_20 : decode cX7_makeMove 20 = .ok (.iadd, 1) := by decide +kernel
theorem dX7_makeMove_21 : decode cX7_makeMove 21 = .ok (.invokevirtual 195, 3) := by decide +kernel
theorem dX7_makeMove_24 : decode cX7_makeMove 24 = .ok (.bipush 97, 2) := by decide +kernel
theorem dX7_makeMove_26 : decode cX7_makeMove 26 = .ok (.isub, 1) := by decide +kernel
theorem dX7_makeMove_27 : decode cX7_makeMove 27 = .ok (.istore_n 3, 1) := by decide +kernel
theorem dX7_makeMove_28 : decode cX7_makeMove 28 = .ok (.aload_n 0, 1) := by decide +kernel
theorem dX7_makeMove_29 : decode cX7_makeMove 29 = .ok (.getfield 29, 3) := by decide +kernel
theorem dX7_makeMove_32 : decode cX7_makeMove 32 = .ok (.iload_n 1, 1) := by decide +kernel
theorem dX7_makeMove_33 : decode cX7_makeMove 33 = .ok (.invokevirtual 195, 3) := by decide +kernel
theorem dX7_makeMove_36 : decode cX7_makeMove 36 = .ok (.lookupswitch 115 #[(43, 78), (45, 87), (98, 70), (99, 96), (100, 106), (104, 60)], 60) := by decide +kernel
theorem dX7_makeMove_96 : decode cX7_makeMove 96 = .ok (.aload_n 0, 1) := by decide +kernel
theorem dX7_makeMove_97 : decode cX7_makeMove 97 = .ok (.getfield 10, 3) := by decide +kernel
theorem dX7_makeMove_100 : decode cX7_makeMove 100 = .ok (.iload_n 2, 1) := by decide +kernel
theorem dX7_makeMove_101 : decode cX7_makeMove 101 = .ok (.iload_n 3, 1) := by decide +kernel
theorem dX7_makeMove_102 : decode cX7_makeMove 102 = .ok (.invokestatic 66, 3) := by decide +kernel
theorem dX7_makeMove_105 : decode cX7_makeMove 105 = .ok (.ireturn, 1) := by decide +kernel
theorem dX7_makeMove_106 : decode cX7_makeMove 106 = .ok (.aload_n 0, 1) := by decide +kernel
theorem dX7_makeMove_107 : decode cX7_makeMove 107 = .ok (.getfield 10, 3) := by decide +kernel
theorem dX7_makeMove_110 : decode cX7_makeMove 110 = .ok (.invokestatic 69, 3) := by decide +kernel
theorem dX7_makeMove_113 : decode cX7_makeMove 113 = .ok (.ireturn, 1) := by decide +kernel
theorem dX7_makeMove_114 : decode cX7_makeMove 114 = .ok (.aload_n 0, 1) := by decide +kernel
theorem dX7_makeMove_115 : decode cX7_makeMove 115 = .ok (.getfield 10, 3) := by decide +kernel
theorem dX7_makeMove_118 : decode cX7_makeMove 118 = .ok (.iconst 1, 1) := by decide +kernel
theorem dX7_makeMove_119 : decode cX7_makeMove 119 = .ok (.invokestatic 72, 3) := by decide +kernel
theorem dX7_makeMove_122 : decode cX7_makeMove 122 = .ok (.ireturn, 1) := by decide +kernel
theorem dX7_makeMove_123 : decode cX7_makeMove 123 = .ok (.aload_n 0, 1) := by decide +kernel
theorem dX7_makeMove_124 : decode cX7_makeMove 124 = .ok (.getfield 10, 3) := by decide +kernel
theorem dX7_makeMove_127 : decode cX7_makeMove 127 = .ok (.iconst (-1), 1) := by decide +kernel
theorem dX7_makeMove_128 : decode cX7_makeMove 128 = .ok (.invokestatic 72, 3) := by decide +kernel
theorem dX7_makeMove_131 : decode cX7_makeMove 131 = .ok (.ireturn, 1) := by decide +kernel
theorem dX7_makeMove_132 : decode cX7_makeMove 132 = .ok (.aload_n 0, 1) := by decide +kernel
theorem dX7_makeMove_133 : decode cX7_makeMove 133 = .ok (.getfield 10, 3) := by decide +kernel
theorem dX7_makeMove_136 : decode cX7_makeMove 136 = .ok (.iload_n 2, 1) := by decide +kernel
theorem dX7_makeMove_137 : decode cX7_makeMove 137 = .ok (.iload_n 3, 1) := by decide +kernel
theorem dX7_makeMove_138 : decode cX7_makeMove 138 = .ok (.invokestatic 76, 3) := by decide +kernel
theorem dX7_makeMove_141 : decode cX7_makeMove 141 = .ok (.ireturn, 1) := by decide +kernel
theorem dX7_makeMove_142 : decode cX7_makeMove 142 = .ok (.aload_n 0, 1) := by decide +kernel
theorem dX7_makeMove_143 : decode cX7_makeMove 143 = .ok (.getfield 10, 3) := by decide +kernel
theorem dX7_makeMove_146 : decode cX7_makeMove 146 = .ok (.iload_n 2, 1) := by decide +kernel
theorem dX7_makeMove_147 : decode cX7_makeMove 147 = .ok (.invokestatic 79, 3) := by decide +kernel
theorem dX7_makeMove_150 : decode cX7_makeMove 150 = .ok (.ireturn, 1) := by decide +kernel
theorem dX7_makeMove_151 : decode cX7_makeMove 151 = .ok (.sipush (-10005), 3) := by decide +kernel
theorem dX7_makeMove_154 : decode cX7_makeMove 154 = .ok (.ireturn, 1) := by decide +kernel
theorem dX7_undo_0 : decode cX7_undo 0 = .ok (.aload_n 0, 1) := by decide +kernel
theorem dX7_undo_1 : decode cX7_undo 1 = .ok (.getfield 22, 3) := by decide +kernel
theorem dX7_undo_4 : decode cX7_undo 4 = .ok (.aload_n 0, 1) := by decide +kernel
theorem dX7_undo_5 : decode cX7_undo 5 = .ok (.getfield 10, 3) := by decide +kernel
theorem dX7_undo_8 : decode cX7_undo 8 = .ok (.invokevirtual 198, 3) := by decide +kernel
theorem dX7_undo_11 : decode cX7_undo 11 = .ok (.ireturn, 1) := by decide +kernel
theorem dX7_save_0 : decode cX7_save 0 = .ok (.aload_n 0, 1) := by decide +kernel
theorem dX7_save_1 : decode cX7_save 1 = .ok (.getfield 16, 3) := by decide +kernel
theorem dX7_save_4 : decode cX7_save 4 = .ok (.aload_n 0, 1) := by decide +kernel
theorem dX7_save_5 : decode cX7_save 5 = .ok (.getfield 10, 3) := by decide +kernel
theorem dX7_save_8 : decode cX7_save 8 = .ok (.invokevirtual 201, 3) := by decide +kernel
theorem dX7_save_11 : decode cX7_save 11 = .ok (.aload_n 0, 1) := by decide +kernel
theorem dX7_save_12 : decode cX7_save 12 = .ok (.iconst 1, 1) := by decide +kernel
theorem dX7_save_13 : decode cX7_save 13 = .ok (.putfield 33, 3) := by decide +kernel
theorem dX7_save_16 : decode cX7_save 16 = .ok (.aload_n 0, 1) := by decide +kernel
theorem dX7_save_17 : decode cX7_save 17 = .ok (.getfield 10, 3) := by decide +kernel
theorem dX7_save_20 : decode cX7_save 20 = .ok (.getfield 131, 3) := by decide +kernel
theorem dX7_save_23 : decode cX7_save 23 = .ok (.ireturn, 1) := by decide +kernel
theorem dX7_restore_0 : decode cX7_restore 0 = .ok (.aload_n 0, 1) := by decide +kernel
theorem dX7_restore_1 : decode cX7_restore 1 = .ok (.getfield 33, 3) := by decide +kernel
theorem dX7_restore_4 : decode cX7_restore 4 = .ok (.ifCond .ne 7, 3) := by decide +kernel
theorem dX7_restore_7 : decode cX7_restore 7 = .ok (.sipush (-10003), 3) := by decide +kernel
theorem dX7_restore_10 : decode cX7_restore 10 = .ok (.ireturn, 1) := by decide +kernel
theorem dX7_restore_11 : decode cX7_restore 11 = .ok (.aload_n 0, 1) := by decide +kernel
theorem dX7_restore_12 : decode cX7_restore 12 = .ok (.getfield 22, 3) := by decide +kernel
theorem dX7_restore_15 : decode cX7_restore 15 = .ok (.aload_n 0, 1) := by decide +kernel
theorem dX7_restore_16 : decode cX7_restore 16 = .ok (.getfield 10, 3) := by decide +kernel
theorem dX7_restore_19 : decode cX7_restore 19 = .ok (.invokevirtual 37, 3) := by decide +kernel
theorem dX7_restore_22 : decode cX7_restore 22 = .ok (.aload_n 0, 1) := by decide +kernel
theorem dX7_restore_23 : decode cX7_restore 23 = .ok (.getfield 10, 3) := by decide +kernel
theorem dX7_restore_26 : decode cX7_restore 26 = .ok (.aload_n 0, 1) := by decide +kernel
theorem dX7_restore_27 : decode cX7_restore 27 = .ok (.getfield 16, 3) := by decide +kernel
theorem dX7_restore_30 : decode cX7_restore 30 = .ok (.invokevirtual 201, 3) := by decide +kernel
theorem dX7_restore_33 : decode cX7_restore 33 = .ok (.aload_n 0, 1) := by decide +kernel
theorem dX7_restore_34 : decode cX7_restore 34 = .ok (.getfield 22, 3) := by decide +kernel
theorem dX7_restore_37 : decode cX7_restore 37 = .ok (.aload_n 0, 1) := by decide +kernel
theorem dX7_restore_38 : decode cX7_restore 38 = .ok (.getfield 10, 3) := by decide +kernel
theorem dX7_restore_41 : decode cX7_restore 41 = .ok (.getfield 131, 3) := by decide +kernel
theorem dX7_restore_44 : decode cX7_restore 44 = .ok (.invokevirtual 47, 3) := by decide +kernel
theorem dX7_restore_47 : decode cX7_restore 47 = .ok (.ireturn, 1) := by decide +kernel
theorem dJ6_bitCount_0f7a4_0 : decode cJ6_bitCount_0f7a4 0 = .ok (.iload_n 0, 1) := by decide +kernel
theorem dJ6_bitCount_0f7a4_1 : decode cJ6_bitCount_0f7a4 1 = .ok (.iload_n 0, 1) := by decide +kernel
theorem dJ6_bitCount_0f7a4_2 : decode cJ6_bitCount_0f7a4 2 = .ok (.iconst 1, 1) := by decide +kernel
theorem dJ6_bitCount_0f7a4_3 : decode cJ6_bitCount_0f7a4 3 = .ok (.iushr, 1) := by decide +kernel
theorem dJ6_bitCount_0f7a4_4 : decode cJ6_bitCount_0f7a4 4 = .ok (.ldc_w 265, 3) := by decide +kernel
theorem dJ6_bitCount_0f7a4_7 : decode cJ6_bitCount_0f7a4 7 = .ok (.iand, 1) := by decide +kernel
theorem dJ6_bitCount_0f7a4_8 : decode cJ6_bitCount_0f7a4 8 = .ok (.isub, 1) := by decide +kernel
theorem dJ6_bitCount_0f7a4_9 : decode cJ6_bitCount_0f7a4 9 = .ok (.istore_n 0, 1) := by decide +kernel
theorem dJ6_bitCount_0f7a4_10 : decode cJ6_bitCount_0f7a4 10 = .ok (.iload_n 0, 1) := by decide +kernel
theorem dJ6_bitCount_0f7a4_11 : decode cJ6_bitCount_0f7a4 11 = .ok (.ldc_w 266, 3) := by decide +kernel
theorem dJ6_bitCount_0f7a4_14 : decode cJ6_bitCount_0f7a4 14 = .ok (.iand, 1) := by decide +kernel
theorem dJ6_bitCount_0f7a4_15 : decode cJ6_bitCount_0f7a4 15 = .ok (.iload_n 0, 1) := by decide +kernel
theorem dJ6_bitCount_0f7a4_16 : decode cJ6_bitCount_0f7a4 16 = .ok (.iconst 2, 1) := by decide +kernel
theorem dJ6_bitCount_0f7a4_17 : decode cJ6_bitCount_0f7a4 17 = .ok (.iushr, 1) := by decide +kernel
theorem dJ6_bitCount_0f7a4_18 : decode cJ6_bitCount_0f7a4 18 = .ok (.ldc_w 266, 3) := by decide +kernel
theorem dJ6_bitCount_0f7a4_21 : decode cJ6_bitCount_0f7a4 21 = .ok (.iand, 1) := by decide +kernel
theorem dJ6_bitCount_0f7a4_22 : decode cJ6_bitCount_0f7a4 22 = .ok (.iadd, 1) := by decide +kernel
theorem dJ6_bitCount_0f7a4_23 : decode cJ6_bitCount_0f7a4 23 = .ok (.istore_n 0, 1) := by decide +kernel
theorem dJ6_bitCount_0f7a4_24 : decode cJ6_bitCount_0f7a4 24 = .ok (.iload_n 0, 1) := by decide +kernel
theorem dJ6_bitCount_0f7a4_25 : decode cJ6_bitCount_0f7a4 25 = .ok (.iload_n 0, 1) := by decide +kernel
theorem dJ6_bitCount_0f7a4_26 : decode cJ6_bitCount_0f7a4 26 = .ok (.iconst 4, 1) := by decide +kernel
theorem dJ6_bitCount_0f7a4_27 : decode cJ6_bitCount_0f7a4 27 = .ok (.iushr, 1) := by decide +kernel
theorem dJ6_bitCount_0f7a4_28 : decode cJ6_bitCount_0f7a4 28 = .ok (.iadd, 1) := by decide +kernel
theorem dJ6_bitCount_0f7a4_29 : decode cJ6_bitCount_0f7a4 29 = .ok (.ldc_w 267, 3) := by decide +kernel
theorem dJ6_bitCount_0f7a4_32 : decode cJ6_bitCount_0f7a4 32 = .ok (.iand, 1) := by decide +kernel
theorem dJ6_bitCount_0f7a4_33 : decode cJ6_bitCount_0f7a4 33 = .ok (.istore_n 0, 1) := by decide +kernel
theorem dJ6_bitCount_0f7a4_34 : decode cJ6_bitCount_0f7a4 34 = .ok (.iload_n 0, 1) := by decide +kernel
theorem dJ6_bitCount_0f7a4_35 : decode cJ6_bitCount_0f7a4 35 = .ok (.iload_n 0, 1) := by decide +kernel
theorem dJ6_bitCount_0f7a4_36 : decode cJ6_bitCount_0f7a4 36 = .ok (.bipush 8, 2) := by decide +kernel
theorem dJ6_bitCount_0f7a4_38 : decode cJ6_bitCount_0f7a4 38 = .ok (.iushr, 1) := by decide +kernel
theorem dJ6_bitCount_0f7a4_39 : decode cJ6_bitCount_0f7a4 39 = .ok (.iadd, 1) := by decide +kernel
theorem dJ6_bitCount_0f7a4_40 : decode cJ6_bitCount_0f7a4 40 = .ok (.istore_n 0, 1) := by decide +kernel
theorem dJ6_bitCount_0f7a4_41 : decode cJ6_bitCount_0f7a4 41 = .ok (.iload_n 0, 1) := by decide +kernel
theorem dJ6_bitCount_0f7a4_42 : decode cJ6_bitCount_0f7a4 42 = .ok (.iload_n 0, 1) := by decide +kernel
theorem dJ6_bitCount_0f7a4_43 : decode cJ6_bitCount_0f7a4 43 = .ok (.bipush 16, 2) := by decide +kernel
theorem dJ6_bitCount_0f7a4_45 : decode cJ6_bitCount_0f7a4 45 = .ok (.iushr, 1) := by decide +kernel
theorem dJ6_bitCount_0f7a4_46 : decode cJ6_bitCount_0f7a4 46 = .ok (.iadd, 1) := by decide +kernel
theorem dJ6_bitCount_0f7a4_47 : decode cJ6_bitCount_0f7a4 47 = .ok (.istore_n 0, 1) := by decide +kernel
theorem dJ6_bitCount_0f7a4_48 : decode cJ6_bitCount_0f7a4 48 = .ok (.iload_n 0, 1) := by decide +kernel
theorem dJ6_bitCount_0f7a4_49 : decode cJ6_bitCount_0f7a4 49 = .ok (.bipush 63, 2) := by decide +kernel
theorem dJ6_bitCount_0f7a4_51 : decode cJ6_bitCount_0f7a4 51 = .ok (.iand, 1) := by decide +kernel
theorem dJ6_bitCount_0f7a4_52 : decode cJ6_bitCount_0f7a4 52 = .ok (.ireturn, 1) := by decide +kernel
theorem dJ9_floorMod_7cf53_0 : decode cJ9_floorMod_7cf53 0 = .ok (.iload_n 0, 1) := by decide +kernel
theorem dJ9_floorMod_7cf53_1 : decode cJ9_floorMod_7cf53 1 = .ok (.iload_n 1, 1) := by decide +kernel
theorem dJ9_floorMod_7cf53_2 : decode cJ9_floorMod_7cf53 2 = .ok (.irem, 1) := by decide +kernel
theorem dJ9_floorMod_7cf53_3 : decode cJ9_floorMod_7cf53 3 = .ok (.istore_n 2, 1) := by decide +kernel
theorem dJ9_floorMod_7cf53_4 : decode cJ9_floorMod_7cf53 4 = .ok (.iload_n 0, 1) := by decide +kernel
theorem dJ9_floorMod_7cf53_5 : decode cJ9_floorMod_7cf53 5 = .ok (.iload_n 1, 1) := by decide +kernel
theorem dJ9_floorMod_7cf53_6 : decode cJ9_floorMod_7cf53 6 = .ok (.ixor, 1) := by decide +kernel
theorem dJ9_floorMod_7cf53_7 : decode cJ9_floorMod_7cf53 7 = .ok (.ifCond .ge 11, 3) := by decide +kernel
theorem dJ9_floorMod_7cf53_10 : decode cJ9_floorMod_7cf53 10 = .ok (.iload_n 2, 1) := by decide +kernel
theorem dJ9_floorMod_7cf53_11 : decode cJ9_floorMod_7cf53 11 = .ok (.ifCond .eq 7, 3) := by decide +kernel
theorem dJ9_floorMod_7cf53_14 : decode cJ9_floorMod_7cf53 14 = .ok (.iload_n 2, 1) := by decide +kernel
theorem dJ9_floorMod_7cf53_15 : decode cJ9_floorMod_7cf53 15 = .ok (.iload_n 1, 1) := by decide +kernel
theorem dJ9_floorMod_7cf53_16 : decode cJ9_floorMod_7cf53 16 = .ok (.iadd, 1) := by decide +kernel
theorem dJ9_floorMod_7cf53_17 : decode cJ9_floorMod_7cf53 17 = .ok (.ireturn, 1) := by decide +kernel
theorem dJ9_floorMod_7cf53_18 : decode cJ9_floorMod_7cf53 18 = .ok (.iload_n 2, 1) := by decide +kernel
theorem dJ9_floorMod_7cf53_19 : decode cJ9_floorMod_7cf53 19 = .ok (.ireturn, 1) := by decide +kernel
theorem dJ9_max_7cf53_0 : decode cJ9_max_7cf53 0 = .ok (.iload_n 0, 1) := by decide +kernel
theorem dJ9_max_7cf53_1 : decode cJ9_max_7cf53 1 = .ok (.iload_n 1, 1) := by decide +kernel
theorem dJ9_max_7cf53_2 : decode cJ9_max_7cf53 2 = .ok (.if_icmp .lt 7, 3) := by decide +kernel
theorem dJ9_max_7cf53_5 : decode cJ9_max_7cf53 5 = .ok (.iload_n 0, 1) := by decide +kernel
theorem dJ9_max_7cf53_6 : decode cJ9_max_7cf53 6 = .ok (.goto 4, 3) := by decide +kernel
theorem dJ9_max_7cf53_9 : decode cJ9_max_7cf53 9 = .ok (.iload_n 1, 1) := by decide +kernel
theorem dJ9_max_7cf53_10 : decode cJ9_max_7cf53 10 = .ok (.ireturn, 1) := by decide +kernel
theorem dJ9_min_7cf53_0 : decode cJ9_min_7cf53 0 = .ok (.iload_n 0, 1) := by decide +kernel
theorem dJ9_min_7cf53_1 : decode cJ9_min_7cf53 1 = .ok (.iload_n 1, 1) := by decide +kernel
theorem dJ9_min_7cf53_2 : decode cJ9_min_7cf53 2 = .ok (.if_icmp .gt 7, 3) := by decide +kernel
theorem dJ9_min_7cf53_5 : decode cJ9_min_7cf53 5 = .ok (.iload_n 0, 1) := by decide +kernel
theorem dJ9_min_7cf53_6 : decode cJ9_min_7cf53 6 = .ok (.goto 4, 3) := by decide +kernel
theorem dJ9_min_7cf53_9 : decode cJ9_min_7cf53 9 = .ok (.iload_n 1, 1) := by decide +kernel
theorem dJ9_min_7cf53_10 : decode cJ9_min_7cf53 10 = .ok (.ireturn, 1) := by decide +kernel
theorem dJ7_fill_53178_0 : decode cJ7_fill_53178 0 = .ok (.iconst 0, 1) := by decide +kernel
theorem dJ7_fill_53178_1 : decode cJ7_fill_53178 1 = .ok (.istore_n 2, 1) := by decide +kernel
theorem dJ7_fill_53178_2 : decode cJ7_fill_53178 2 = .ok (.aload_n 0, 1) := by decide +kernel
theorem dJ7_fill_53178_3 : decode cJ7_fill_53178 3 = .ok (.arraylength, 1) := by decide +kernel
theorem dJ7_fill_53178_4 : decode cJ7_fill_53178 4 = .ok (.istore_n 3, 1) := by decide +kernel
theorem dJ7_fill_53178_5 : decode cJ7_fill_53178 5 = .ok (.iload_n 2, 1) := by decide +kernel
theorem dJ7_fill_53178_6 : decode cJ7_fill_53178 6 = .ok (.iload_n 3, 1) := by decide +kernel
theorem dJ7_fill_53178_7 : decode cJ7_fill_53178 7 = .ok (.if_icmp .ge 13, 3) := by decide +kernel
theorem dJ7_fill_53178_10 : decode cJ7_fill_53178 10 = .ok (.aload_n 0, 1) := by decide +kernel
theorem dJ7_fill_53178_11 : decode cJ7_fill_53178 11 = .ok (.iload_n 2, 1) := by decide +kernel
theorem dJ7_fill_53178_12 : decode cJ7_fill_53178 12 = .ok (.iload_n 1, 1) := by decide +kernel
theorem dJ7_fill_53178_13 : decode cJ7_fill_53178 13 = .ok (.iastore, 1) := by decide +kernel
theorem dJ7_fill_53178_14 : decode cJ7_fill_53178 14 = .ok (.iinc 2 1, 3) := by decide +kernel
theorem dJ7_fill_53178_17 : decode cJ7_fill_53178 17 = .ok (.goto (-12), 3) := by decide +kernel
theorem dJ7_fill_53178_20 : decode cJ7_fill_53178 20 = .ok (.return_, 1) := by decide +kernel
end
section
theorem dX8_init_0 : decode cX8_init 0 = .ok (.aload_n 0, 1) := by decide +kernel
theorem dX8_init_1 : decode cX8_init 1 = .ok (.invokespecial 1, 3) := by decide +kernel
theorem dX8_init_4 : decode cX8_init 4 = .ok (.aload_n 0, 1) := by decide +kernel
theorem dX8_init_5 : decode cX8_init 5 = .ok (.bipush 108, 2) := by decide +kernel
theorem dX8_init_7 : decode cX8_init 7 = .ok (.newarray .int, 2) := by decide +kernel
theorem dX8_init_9 : decode cX8_init 9 = .ok (.putfield 7, 3) := by decide +kernel
theorem dX8_init_12 : decode cX8_init 12 = .ok (.aload_n 0, 1) := by decide +kernel
theorem dX8_init_13 : decode cX8_init 13 = .ok (.sipush 540, 3) := by decide +kernel
theorem dX8_init_16 : decode cX8_init 16 = .ok (.newarray .int, 2) := by decide +kernel
theorem dX8_init_18 : decode cX8_init 18 = .ok (.putfield 13, 3) := by decide +kernel
theorem dX8_init_21 : decode cX8_init 21 = .ok (.aload_n 0, 1) := by decide +kernel
theorem dX8_init_22 : decode cX8_init 22 = .ok (.bipush 108, 2) := by decide +kernel
theorem dX8_init_24 : decode cX8_init 24 = .ok (.newarray .int, 2) := by decide +kernel
theorem dX8_init_26 : decode cX8_init 26 = .ok (.putfield 16, 3) := by decide +kernel
theorem dX8_init_29 : decode cX8_init 29 = .ok (.aload_n 0, 1) := by decide +kernel
theorem dX8_init_30 : decode cX8_init 30 = .ok (.bipush 60, 2) := by decide +kernel
theorem dX8_init_32 : decode cX8_init 32 = .ok (.newarray .char, 2) := by decide +kernel
theorem dX8_init_34 : decode cX8_init 34 = .ok (.putfield 19, 3) := by decide +kernel
theorem dX8_init_37 : decode cX8_init 37 = .ok (.aload_n 0, 1) := by decide +kernel
theorem dX8_init_38 : decode cX8_init 38 = .ok (.bipush 93, 2) := by decide +kernel
theorem dX8_init_40 : decode cX8_init 40 = .ok (.newarray .int, 2) := by decide +kernel
theorem dX8_init_42 : decode cX8_init 42 = .ok (.putfield 23, 3) := by decide +kernel
theorem dX8_init_45 : decode cX8_init 45 = .ok (.aload_n 0, 1) := by decide +kernel
theorem dX8_init_46 : decode cX8_init 46 = .ok (.getfield 7, 3) := by decide +kernel
theorem dX8_init_49 : decode cX8_init 49 = .ok (.iconst 0, 1) := by decide +kernel
theorem dX8_init_50 : decode cX8_init 50 = .ok (.iconst 1, 1) := by decide +kernel
theorem dX8_init_51 : decode cX8_init 51 = .ok (.iastore, 1) := by decide +kernel
theorem dX8_init_52 : decode cX8_init 52 = .ok (.aload_n 0, 1) := by decide +kernel
theorem dX8_init_53 : decode cX8_init 53 = .ok (.getfield 7, 3) := by decide +kernel
theorem dX8_init_56 : decode cX8_init 56 = .ok (.iconst 1, 1) := by decide +kernel
theorem dX8_init_57 : decode cX8_init 57 = .ok (.iconst 2, 1) := by decide +kernel
theorem dX8_init_58 : decode cX8_init 58 = .ok (.iastore, 1) := by decide +kernel
theorem dX8_init_59 : decode cX8_init 59 = .ok (.aload_n 0, 1) := by decide +kernel
theorem dX8_init_60 : decode cX8_init 60 = .ok (.getfield 7, 3) := by decide +kernel
theorem dX8_init_63 : decode cX8_init 63 = .ok (.iconst 2, 1) := by decide +kernel
theorem dX8_init_64 : decode cX8_init 64 = .ok (.iconst 2, 1) := by decide +kernel
theorem dX8_init_65 : decode cX8_init 65 = .ok (.iastore, 1) := by decide +kernel
theorem dX8_init_66 : decode cX8_init 66 = .ok (.aload_n 0, 1) := by decide +kernel
theorem dX8_init_67 : decode cX8_init 67 = .ok (.getfield 7, 3) := by decide +kernel
theorem dX8_init_70 : decode cX8_init 70 = .ok (.iconst 3, 1) := by decide +kernel
theorem dX8_init_71 : decode cX8_init 71 = .ok (.iconst 2, 1) := by decide +kernel
theorem dX8_init_72 : decode cX8_init 72 = .ok (.iastore, 1) := by decide +kernel
theorem dX8_init_73 : decode cX8_init 73 = .ok (.return_, 1) := by decide +kernel
theorem dX8_in_0 : decode cX8_in 0 = .ok (.iload_n 0, 1) := by decide +kernel
theorem dX8_in_1 : decode cX8_in 1 = .ok (.iload_n 1, 1) := by decide +kernel
theorem dX8_in_2 : decode cX8_in 2 = .ok (.if_icmp .lt 12, 3) := by decide +kernel
theorem dX8_in_5 : decode cX8_in 5 = .ok (.iload_n 0, 1) := by decide +kernel
theorem dX8_in_6 : decode cX8_in 6 = .ok (.iload_n 2, 1) := by decide +kernel
theorem dX8_in_7 : decode cX8_in 7 = .ok (.if_icmp .gt 7, 3) := by decide +kernel
theorem dX8_in_10 : decode cX8_in 10 = .ok (.iconst 1, 1) := by decide +kernel
theorem dX8_in_11 : decode cX8_in 11 = .ok (.goto 4, 3) := by decide +kernel
theorem dX8_in_14 : decode cX8_in 14 = .ok (.iconst 0, 1) := by decide +kernel
theorem dX8_in_15 : decode cX8_in 15 = .ok (.ireturn, 1) := by decide +kernel
theorem dX8_isSpot_0 : decode cX8_isSpot 0 = .ok (.iload_n 0, 1) := by decide +kernel
theorem dX8_isSpot_1 : decode cX8_isSpot 1 = .ok (.iconst 0, 1) := by decide +kernel
theorem dX8_isSpot_2 : decode cX8_isSpot 2 = .ok (.bipush 15, 2) := by decide +kernel
theorem dX8_isSpot_4 : decode cX8_isSpot 4 = .ok (.invokestatic 26, 3) := by decide +kernel
theorem dX8_isSpot_7 : decode cX8_isSpot 7 = .ok (.ireturn, 1) := by decide +kernel
theorem dX8_isPlayer_0 : decode cX8_isPlayer 0 = .ok (.iload_n 1, 1) := by decide +kernel
theorem dX8_isPlayer_1 : decode cX8_isPlayer 1 = .ok (.iconst 0, 1) := by decide +kernel
theorem dX8_isPlayer_2 : decode cX8_isPlayer 2 = .ok (.aload_n 0, 1) := by decide +kernel
theorem dX8_isPlayer_3 : decode cX8_isPlayer 3 = .ok (.getfield 7, 3) := by decide +kernel
theorem dX8_isPlayer_6 : decode cX8_isPlayer 6 = .ok (.iconst 4, 1) := by decide +kernel
theorem dX8_isPlayer_7 : decode cX8_isPlayer 7 = .ok (.iaload, 1) := by decide +kernel
theorem dX8_isPlayer_8 : decode cX8_isPlayer 8 = .ok (.iconst 1, 1) := by decide +kernel
theorem dX8_isPlayer_9 : decode cX8_isPlayer 9 = .ok (.isub, 1) := by decide +kernel
theorem dX8_isPlayer_10 : decode cX8_isPlayer 10 = .ok (.invokestatic 26, 3) := by decide +kernel
theorem dX8_isPlayer_13 : decode cX8_isPlayer 13 = .ok (.ireturn, 1) := by decide +kernel
theorem dX8_of_0 : decode cX8_of 0 = .ok (.aload_n 0, 1) := by decide +kernel
theorem dX8_of_1 : decode cX8_of 1 = .ok (.getfield 7, 3) := by decide +kernel
theorem dX8_of_4 : decode cX8_of 4 = .ok (.bipush 12, 2) := by decide +kernel
theorem dX8_of_6 : decode cX8_of 6 = .ok (.bipush 6, 2) := by decide +kernel
theorem dX8_of_8 : decode cX8_of 8 = .ok (.iload_n 1, 1) := by decide +kernel
theorem dX8_of_9 : decode cX8_of 9 = .ok (.imul, 1) := by decide +kernel
theorem dX8_of_10 : decode cX8_of 10 = .ok (.iadd, 1) := by decide +kernel
theorem dX8_of_11 : decode cX8_of 11 = .ok (.iload_n 2, 1) := by decide +kernel
theorem dX8_of_12 : decode cX8_of 12 = .ok (.iadd, 1) := by decide +kernel
theorem dX8_of_13 : decode cX8_of 13 = .ok (.iaload, 1) := by decide +kernel
theorem dX8_of_14 : decode cX8_of 14 = .ok (.ireturn, 1) := by decide +kernel
theorem dX8_adds_0 : decode cX8_adds 0 = .ok (.aload_n 0, 1) := by decide +kernel
theorem dX8_adds_1 : decode cX8_adds 1 = .ok (.getfield 7, 3) := by decide +kernel
theorem dX8_adds_4 : decode cX8_adds 4 = .ok (.bipush 12, 2) := by decide +kernel
theorem dX8_adds_6 : decode cX8_adds 6 = .ok (.bipush 6, 2) := by decide +kernel
theorem dX8_adds_8 : decode cX8_adds 8 = .ok (.iload_n 1, 1) := by decide +kernel
theorem dX8_adds_9 : decode cX8_adds 9 = .ok (.imul, 1) := by decide +kernel
theorem dX8_adds_10 : decode cX8_adds 10 = .ok (.iadd, 1) := by decide +kernel
theorem dX8_adds_11 : decode cX8_adds 11 = .ok (.iload_n 2, 1) := by decide +kernel
theorem dX8_adds_12 : decode cX8_adds 12 = .ok (.iadd, 1) := by decide +kernel
theorem dX8_adds_13 : decode cX8_adds 13 = .ok (.dup2, 1) := by decide +kernel
theorem dX8_adds_14 : decode cX8_adds 14 = .ok (.iaload, 1) := by decide +kernel
theorem dX8_adds_15 : decode cX8_adds 15 = .ok (.iload_n 3, 1) := by decide +kernel
theorem dX8_adds_16 : decode cX8_adds 16 = .ok (.iadd, 1) := by decide +kernel
theorem dX8_adds_17 : decode cX8_adds 17 = .ok (.iastore, 1) := by decide +kernel
theorem dX8_adds_18 : decode cX8_adds 18 = .ok (.return_, 1) := by decide +kernel
theorem dX8_hides_0 : decode cX8_hides 0 = .ok (.aload_n 0, 1) := by decide +kernel
theorem dX8_hides_1 : decode cX8_hides 1 = .ok (.getfield 7, 3) := by decide +kernel
theorem dX8_hides_4 : decode cX8_hides 4 = .ok (.bipush 12, 2) := by decide +kernel
theorem dX8_hides_6 : decode cX8_hides 6 = .ok (.bipush 6, 2) := by decide +kernel
theorem dX8_hides_8 : decode cX8_hides 8 = .ok (.iload_n 1, 1) := by decide +kernel
theorem dX8_hides_9 : decode cX8_hides 9 = .ok (.imul, 1) := by decide +kernel
theorem dX8_hides_10 : decode cX8_hides 10 = .ok (.iadd, 1) := by decide +kernel
theorem dX8_hides_11 : decode cX8_hides 11 = .ok (.iconst 5, 1) := by decide +kernel
theorem dX8_hides_12 : decode cX8_hides 12 = .ok (.iadd, 1) := by decide +kernel
theorem dX8_hides_13 : decode cX8_hides 13 = .ok (.iload_n 2, 1) := by decide +kernel
theorem dX8_hides_14 : decode cX8_hides 14 = .ok (.iastore, 1) := by decide +kernel
theorem dX8_hides_15 : decode cX8_hides 15 = .ok (.return_, 1) := by decide +kernel
theorem dX8_ofSpot_0 : decode cX8_ofSpot 0 = .ok (.aload_n 0, 1) := by decide +kernel
theorem dX8_ofSpot_1 : decode cX8_ofSpot 1 = .ok (.getfield 7, 3) := by decide +kernel
theorem dX8_ofSpot_4 : decode cX8_ofSpot 4 = .ok (.bipush 60, 2) := by decide +kernel
theorem dX8_ofSpot_6 : decode cX8_ofSpot 6 = .ok (.iconst 3, 1) := by decide +kernel
theorem dX8_ofSpot_7 : decode cX8_ofSpot 7 = .ok (.iload_n 1, 1) := by decide +kernel
theorem dX8_ofSpot_8 : decode cX8_ofSpot 8 = .ok (.imul, 1) := by decide +kernel
theorem dX8_ofSpot_9 : decode cX8_ofSpot 9 = .ok (.iadd, 1) := by decide +kernel
theorem dX8_ofSpot_10 : decode cX8_ofSpot 10 = .ok (.iload_n 2, 1) := by decide +kernel
theorem dX8_ofSpot_11 : decode cX8_ofSpot 11 = .ok (.iadd, 1) := by decide +kernel
theorem dX8_ofSpot_12 : decode cX8_ofSpot 12 = .ok (.iaload, 1) := by decide +kernel
theorem dX8_ofSpot_13 : decode cX8_ofSpot 13 = .ok (.ireturn, 1) := by decide +kernel
theorem dX8_isRetired_0 : decode cX8_isRetired 0 = .ok (.aload_n 0, 1) := by decide +kernel
theorem dX8_isRetired_1 : decode cX8_isRetired 1 = .ok (.iload_n 1, 1) := by decide +kernel
theorem dX8_isRetired_2 : decode cX8_isRetired 2 = .ok (.iconst 1, 1) := by decide +kernel
theorem dX8_isRetired_3 : decode cX8_isRetired 3 = .ok (.invokevirtual 30, 3) := by decide +kernel
theorem dX8_isRetired_6 : decode cX8_isRetired 6 = .ok (.iconst 1, 1) := by decide +kernel
theorem dX8_isRetired_7 : decode cX8_isRetired 7 = .ok (.if_icmp .ne 7, 3) := by decide +kernel
theorem dX8_isRetired_10 : decode cX8_isRetired 10 = .ok (.iconst 1, 1) := by decide +kernel
theorem dX8_isRetired_11 : decode cX8_isRetired 11 = .ok (.goto 4, 3) := by decide +kernel
theorem dX8_isRetired_14 : decode cX8_isRetired 14 = .ok (.iconst 0, 1) := by decide +kernel
theorem dX8_isRetired_15 : decode cX8_isRetired 15 = .ok (.ireturn, 1) := by decide +kernel
theorem dX8_distance_0 : decode cX8_distance 0 = .ok (.iload_n 0, 1) := by decide +kernel
theorem dX8_distance_1 : decode cX8_distance 1 = .ok (.iload_n 1, 1) := by decide +kernel
theorem dX8_distance_2 : decode cX8_distance 2 = .ok (.if_icmp .ge 9, 3) := by decide +kernel
theorem dX8_distance_5 : decode cX8_distance 5 = .ok (.iload_n 1, 1) := by decide +kernel
theorem dX8_distance_6 : decode cX8_distance 6 = .ok (.iload_n 0, 1) := by decide +kernel
theorem dX8_distance_7 : decode cX8_distance 7 = .ok (.isub, 1) := by decide +kernel
theorem dX8_distance_8 : decode cX8_distance 8 = .ok (.goto 6, 3) := by decide +kernel
theorem dX8_distance_11 : decode cX8_distance 11 = .ok (.iload_n 0, 1) := by decide +kernel
theorem dX8_distance_12 : decode cX8_distance 12 = .ok (.iload_n 1, 1) := by decide +kernel
theorem dX8_distance_13 : decode cX8_distance 13 = .ok (.isub, 1) := by decide +kernel
theorem dX8_distance_14 : decode cX8_distance 14 = .ok (.istore_n 2, 1) := by decide +kernel
theorem dX8_distance_15 : decode cX8_distance 15 = .ok (.iload_n 2, 1) := by decide +kernel
theorem dX8_distance_16 : decode cX8_distance 16 = .ok (.bipush 8, 2) := by decide +kernel
theorem dX8_distance_18 : decode cX8_distance 18 = .ok (.if_icmp .gt 7, 3) := by decide +kernel
theorem dX8_distance_21 : decode cX8_distance 21 = .ok (.iload_n 2, 1) := by decide +kernel
theorem dX8_distance_22 : decode cX8_distance 22 = .ok (.goto 7, 3) := by decide +kernel
theorem dX8_distance_25 : decode cX8_distance 25 = .ok (.bipush 16, 2) := by decide +kernel
theorem dX8_distance_27 : decode cX8_distance 27 = .ok (.iload_n 2, 1) := by decide +kernel
theorem dX8_distance_28 : decode cX8_distance 28 = .ok (.isub, 1) := by decide +kernel
theorem dX8_distance_29 : decode cX8_distance 29 = .ok (.ireturn, 1) := by decide +kernel
theorem dX8_record_0 : decode cX8_record 0 = .ok (.aload_n 0, 1) := by decide +kernel
theorem dX8_record_1 : decode cX8_record 1 = .ok (.getfield 34, 3) := by decide +kernel
theorem dX8_record_4 : decode cX8_record 4 = .ok (.iconst 5, 1) := by decide +kernel
theorem dX8_record_5 : decode cX8_record 5 = .ok (.if_icmp .ne 43, 3) := by decide +kernel
theorem dX8_record_8 : decode cX8_record 8 = .ok (.iconst 0, 1) := by decide +kernel
theorem dX8_record_9 : decode cX8_record 9 = .ok (.istore_n 1, 1) := by decide +kernel
theorem dX8_record_10 : decode cX8_record 10 = .ok (.iload_n 1, 1) := by decide +kernel
theorem dX8_record_11 : decode cX8_record 11 = .ok (.sipush 432, 3) := by decide +kernel
theorem dX8_record_14 : decode cX8_record 14 = .ok (.if_icmp .ge 24, 3) := by decide +kernel
theorem dX8_record_17 : decode cX8_record 17 = .ok (.aload_n 0, 1) := by decide +kernel
theorem dX8_record_18 : decode cX8_record 18 = .ok (.getfield 13, 3) := by decide +kernel
theorem dX8_record_21 : decode cX8_record 21 = .ok (.iload_n 1, 1) := by decide +kernel
theorem dX8_record_22 : decode cX8_record 22 = .ok (.aload_n 0, 1) := by decide +kernel
theorem dX8_record_23 : decode cX8_record 23 = .ok (.getfield 13, 3) := by decide +kernel
theorem dX8_record_26 : decode cX8_record 26 = .ok (.iload_n 1, 1) := by decide +kernel
theorem dX8_record_27 : decode cX8_record 27 = .ok (.bipush 108, 2) := by decide +kernel
theorem dX8_record_29 : decode cX8_record 29 = .ok (.iadd, 1) := by decide +kernel
theorem dX8_record_30 : decode cX8_record 30 = .ok (.iaload, 1) := by decide +kernel
theorem dX8_record_31 : decode cX8_record 31 = .ok (.iastore, 1) := by decide +kernel
theorem dX8_record_32 : decode cX8_record 32 = .ok (.iinc 1 1, 3) := by decide +kernel
theorem dX8_record_35 : decode cX8_record 35 = .ok (.goto (-25), 3) := by decide +kernel
theorem dX8_record_38 : decode cX8_record 38 = .ok (.aload_n 0, 1) := by decide +kernel
theorem dX8_record_39 : decode cX8_record 39 = .ok (.dup, 1) := by decide +kernel
theorem dX8_record_40 : decode cX8_record 40 = .ok (.getfield 34, 3) := by decide +kernel
theorem dX8_record_43 : decode cX8_record 43 = .ok (.iconst 1, 1) := by decide +kernel
theorem dX8_record_44 : decode cX8_record 44 = .ok (.isub, 1) := by decide +kernel
theorem dX8_record_45 : decode cX8_record 45 = .ok (.putfield 34, 3) := by decide +kernel
theorem dX8_record_48 : decode cX8_record 48 = .ok (.iconst 0, 1) := by decide +kernel
theorem dX8_record_49 : decode cX8_record 49 = .ok (.istore_n 1, 1) := by decide +kernel
theorem dX8_record_50 : decode cX8_record 50 = .ok (.iload_n 1, 1) := by decide +kernel
theorem dX8_record_51 : decode cX8_record 51 = .ok (.bipush 108, 2) := by decide +kernel
theorem dX8_record_53 : decode cX8_record 53 = .ok (.if_icmp .ge 29, 3) := by decide +kernel
theorem dX8_record_56 : decode cX8_record 56 = .ok (.aload_n 0, 1) := by decide +kernel
theorem dX8_record_57 : decode cX8_record 57 = .ok (.getfield 13, 3) := by decide +kernel
theorem dX8_record_60 : decode cX8_record 60 = .ok (.aload_n 0, 1) := by decide +kernel
theorem dX8_record_61 : decode cX8_record 61 = .ok (.getfield 34, 3) := by decide +kernel
theorem dX8_record_64 : decode cX8_record 64 = .ok (.bipush 108, 2) := by decide +kernel
theorem dX8_record_66 : decode cX8_record 66 = .ok (.imul, 1) := by decide +kernel
theorem dX8_record_67 : decode cX8_record 67 = .ok (.iload_n 1, 1) := by decide +kernel
theorem dX8_record_68 : decode cX8_record 68 = .ok (.iadd, 1) := by decide +kernel
theorem dX8_record_69 : decode cX8_record 69 = .ok (.aload_n 0, 1) := by decide +kernel
theorem dX8_record_70 : decode cX8_record 70 = .ok (.getfield 7, 3) := by decide +kernel
theorem dX8_record_73 : decode cX8_record 73 = .ok (.iload_n 1, 1) := by decide +kernel
theorem dX8_record_74 : decode cX8_record 74 = .ok (.iaload, 1) := by decide +kernel
theorem dX8_record_75 : decode cX8_record 75 = .ok (.iastore, 1) := by decide +kernel
theorem dX8_record_76 : decode cX8_record 76 = .ok (.iinc 1 1, 3) := by decide +kernel
theorem dX8_record_79 : decode cX8_record 79 = .ok (.goto (-29), 3) := by decide +kernel
theorem dX8_record_82 : decode cX8_record 82 = .ok (.aload_n 0, 1) := by decide +kernel
theorem dX8_record_83 : decode cX8_record 83 = .ok (.dup, 1) := by decide +kernel
theorem dX8_record_84 : decode cX8_record 84 = .ok (.getfield 34, 3) := by decide +kernel
theorem dX8_record_87 : decode cX8_record 87 = .ok (.iconst 1, 1) := by decide +kernel
theorem dX8_record_88 : decode cX8_record 88 = .ok (.iadd, 1) := by decide +kernel
theorem dX8_record_89 : decode cX8_record 89 = .ok (.putfield 34, 3) := by decide +kernel
theorem dX8_record_92 : decode cX8_record 92 = .ok (.return_, 1) := by decide +kernel
theorem dX8_undo_0 : decode cX8_undo 0 = .ok (.aload_n 0, 1) := by decide +kernel
theorem dX8_undo_1 : decode cX8_undo 1 = .ok (.getfield 34, 3) := by decide +kernel
theorem dX8_undo_4 : decode cX8_undo 4 = .ok (.ifCond .ne 7, 3) := by decide +kernel
theorem dX8_undo_7 : decode cX8_undo 7 = .ok (.sipush (-10003), 3) := by decide +kernel
theorem dX8_undo_10 : decode cX8_undo 10 = .ok (.ireturn, 1) := by decide +kernel
theorem dX8_undo_11 : decode cX8_undo 11 = .ok (.aload_n 0, 1) := by decide +kernel
theorem dX8_undo_12 : decode cX8_undo 12 = .ok (.dup, 1) := by decide +kernel
theorem dX8_undo_13 : decode cX8_undo 13 = .ok (.getfield 34, 3) := by decide +kernel
theorem dX8_undo_16 : decode cX8_undo 16 = .ok (.iconst 1, 1) := by decide +kernel
theorem dX8_undo_17 : decode cX8_undo 17 = .ok (.isub, 1) := by decide +kernel
theorem dX8_undo_18 : decode cX8_undo 18 = .ok (.putfield 34, 3) := by decide +kernel
theorem dX8_undo_21 : decode cX8_undo 21 = .ok (.iconst 0, 1) := by decide +kernel
theorem dX8_undo_22 : decode cX8_undo 22 = .ok (.istore_n 1, 1) := by decide +kernel
theorem dX8_undo_23 : decode cX8_undo 23 = .ok (.iload_n 1, 1) := by decide +kernel
theorem dX8_undo_24 : decode cX8_undo 24 = .ok (.bipush 108, 2) := by decide +kernel
theorem dX8_undo_26 : decode cX8_undo 26 = .ok (.if_icmp .ge 29, 3) := by decide +kernel
theorem dX8_undo_29 : decode cX8_undo 29 = .ok (.aload_n 0, 1) := by decide +kernel
theorem dX8_undo_30 : decode cX8_undo 30 = .ok (.getfield 7, 3) := by decide +kernel
theorem dX8_undo_33 : decode cX8_undo 33 = .ok (.iload_n 1, 1) := by decide +kernel
theorem dX8_undo_34 : decode cX8_undo 34 = .ok (.aload_n 0, 1) := by decide +kernel
theorem dX8_undo_35 : decode cX8_undo 35 = .ok (.getfield 13, 3) := by decide +kernel
theorem dX8_undo_38 : decode cX8_undo 38 = .ok (.aload_n 0, 1) := by decide +kernel
theorem dX8_undo_39 : decode cX8_undo 39 = .ok (.getfield 34, 3) := by decide +kernel
theorem dX8_undo_42 : decode cX8_undo 42 = .ok (.bipush 108, 2) := by decide +kernel
theorem dX8_undo_44 : decode cX8_undo 44 = .ok (.imul, 1) := by decide +kernel
theorem dX8_undo_45 : decode cX8_undo 45 = .ok (.iload_n 1, 1) := by decide +kernel
theorem dX8_undo_46 : decode cX8_undo 46 = .ok (.iadd, 1) := by decide +kernel
theorem dX8_undo_47 : decode cX8_undo 47 = .ok (.iaload, 1) := by decide +kernel
theorem dX8_undo_48 : decode cX8_undo 48 = .ok (.iastore, 1) := by decide +kernel
theorem dX8_undo_49 : decode cX8_undo 49 = .ok (.iinc 1 1, 3) := by decide +kernel
theorem dX8_undo_52 : decode cX8_undo 52 = .ok (.goto (-29), 3) := by decide +kernel
theorem dX8_undo_55 : decode cX8_undo 55 = .ok (.aload_n 0, 1) := by decide +kernel
theorem dX8_undo_56 : decode cX8_undo 56 = .ok (.getfield 34, 3) := by decide +kernel
theorem dX8_undo_59 : decode cX8_undo 59 = .ok (.ireturn, 1) := by decide +kernel
theorem dX8_save_0 : decode cX8_save 0 = .ok (.aload_n 0, 1) := by decide +kernel
theorem dX8_save_1 : decode cX8_save 1 = .ok (.iconst 1, 1) := by decide +kernel
theorem dX8_save_2 : decode cX8_save 2 = .ok (.putfield 38, 3) := by decide +kernel
theorem dX8_save_5 : decode cX8_save 5 = .ok (.iconst 0, 1) := by decide +kernel
theorem dX8_save_6 : decode cX8_save 6 = .ok (.istore_n 1, 1) := by decide +kernel
theorem dX8_save_7 : decode cX8_save 7 = .ok (.iload_n 1, 1) := by decide +kernel
theorem dX8_save_8 : decode cX8_save 8 = .ok (.bipush 108, 2) := by decide +kernel
theorem dX8_save_10 : decode cX8_save 10 = .ok (.if_icmp .ge 21, 3) := by decide +kernel
theorem dX8_save_13 : decode cX8_save 13 = .ok (.aload_n 0, 1) := by decide +kernel
theorem dX8_save_14 : decode cX8_save 14 = .ok (.getfield 16, 3) := by decide +kernel
theorem dX8_save_17 : decode cX8_save 17 = .ok (.iload_n 1, 1) := by decide +kernel
theorem dX8_save_18 : decode cX8_save 18 = .ok (.aload_n 0, 1) := by decide +kernel
theorem dX8_save_19 : decode cX8_save 19 = .ok (.getfield 7, 3) := by decide +kernel
theorem dX8_save_22 : decode cX8_save 22 = .ok (.iload_n 1, 1) := by decide +kernel
theorem dX8_save_23 : decode cX8_save 23 = .ok (.iaload, 1) := by decide +kernel
theorem dX8_save_24 : decode cX8_save 24 = .ok (.iastore, 1) := by decide +kernel
theorem dX8_save_25 : decode cX8_save 25 = .ok (.iinc 1 1, 3) := by decide +kernel
theorem dX8_save_28 : decode cX8_save 28 = .ok (.goto (-21), 3) := by decide +kernel
theorem dX8_save_31 : decode cX8_save 31 = .ok (.aload_n 0, 1) := by decide +kernel
theorem dX8_save_32 : decode cX8_save 32 = .ok (.getfield 7, 3) := by decide +kernel
theorem dX8_save_35 : decode cX8_save 35 = .ok (.iconst 4, 1) := by decide +kernel
theorem dX8_save_36 : decode cX8_save 36 = .ok (.iaload, 1) := by decide +kernel
theorem dX8_save_37 : decode cX8_save 37 = .ok (.ireturn, 1) := by decide +kernel
theorem dX8_restore_0 : decode cX8_restore 0 = .ok (.aload_n 0, 1) := by decide +kernel
theorem dX8_restore_1 : decode cX8_restore 1 = .ok (.getfield 38, 3) := by decide +kernel
theorem dX8_restore_4 : decode cX8_restore 4 = .ok (.ifCond .ne 7, 3) := by decide +kernel
theorem dX8_restore_7 : decode cX8_restore 7 = .ok (.sipush (-10003), 3) := by decide +kernel
theorem dX8_restore_10 : decode cX8_restore 10 = .ok (.ireturn, 1) := by decide +kernel
theorem dX8_restore_11 : decode cX8_restore 11 = .ok (.aload_n 0, 1) := by decide +kernel
theorem dX8_restore_12 : decode cX8_restore 12 = .ok (.invokevirtual 42, 3) := by decide +kernel
theorem dX8_restore_15 : decode cX8_restore 15 = .ok (.iconst 0, 1) := by decide +kernel
theorem dX8_restore_16 : decode cX8_restore 16 = .ok (.istore_n 1, 1) := by decide +kernel
theorem dX8_restore_17 : decode cX8_restore 17 = .ok (.iload_n 1, 1) := by decide +kernel
theorem dX8_restore_18 : decode cX8_restore 18 = .ok (.bipush 108, 2) := by decide +kernel
theorem dX8_restore_20 : decode cX8_restore 20 = .ok (.if_icmp .ge 21, 3) := by decide +kernel
theorem dX8_restore_23 : decode cX8_restore 23 = .ok (.aload_n 0, 1) := by decide +kernel
theorem dX8_restore_24 : decode cX8_restore 24 = .ok (.getfield 7, 3) := by decide +kernel
theorem dX8_restore_27 : decode cX8_restore 27 = .ok (.iload_n 1, 1) := by decide +kernel
theorem dX8_restore_28 : decode cX8_restore 28 = .ok (.aload_n 0, 1) := by decide +kernel
theorem dX8_restore_29 : decode cX8_restore 29 = .ok (.getfield 16, 3) := by decide +kernel
theorem dX8_restore_32 : decode cX8_restore 32 = .ok (.iload_n 1, 1) := by decide +kernel
theorem dX8_restore_33 : decode cX8_restore 33 = .ok (.iaload, 1) := by decide +kernel
theorem dX8_restore_34 : decode cX8_restore 34 = .ok (.iastore, 1) := by decide +kernel
theorem dX8_restore_35 : decode cX8_restore 35 = .ok (.iinc 1 1, 3) := by decide +kernel
theorem dX8_restore_38 : decode cX8_restore 38 = .ok (.goto (-21), 3) := by decide +kernel
theorem dX8_restore_41 : decode cX8_restore 41 = .ok (.aload_n 0, 1) := by decide +kernel
theorem dX8_restore_42 : decode cX8_restore 42 = .ok (.getfield 7, 3) := by decide +kernel
theorem dX8_restore_45 : decode cX8_restore 45 = .ok (.iconst 4, 1) := by decide +kernel
theorem dX8_restore_46 : decode cX8_restore 46 = .ok (.iaload, 1) := by decide +kernel
theorem dX8_restore_47 : decode cX8_restore 47 = .ok (.ireturn, 1) := by decide +kernel
theorem dX8_isInRange_0 : decode cX8_isInRange 0 = .ok (.iload_n 0, 1) := by decide +kernel
theorem dX8_isInRange_1 : decode cX8_isInRange 1 = .ok (.ifCond .ne 12, 3) := by decide +kernel
theorem dX8_isInRange_4 : decode cX8_isInRange 4 = .ok (.iload_n 1, 1) := by decide +kernel
theorem dX8_isInRange_5 : decode cX8_isInRange 5 = .ok (.iconst 0, 1) := by decide +kernel
theorem dX8_isInRange_6 : decode cX8_isInRange 6 = .ok (.iconst 3, 1) := by decide +kernel
theorem dX8_isInRange_7 : decode cX8_isInRange 7 = .ok (.invokestatic 26, 3) := by decide +kernel
theorem dX8_isInRange_10 : decode cX8_isInRange 10 = .ok (.goto 43, 3) := by decide +kernel
theorem dX8_isInRange_13 : decode cX8_isInRange 13 = .ok (.iload_n 0, 1) := by decide +kernel
theorem dX8_isInRange_14 : decode cX8_isInRange 14 = .ok (.iconst 2, 1) := by decide +kernel
theorem dX8_isInRange_15 : decode cX8_isInRange 15 = .ok (.if_icmp .ne 13, 3) := by decide +kernel
theorem dX8_isInRange_18 : decode cX8_isInRange 18 = .ok (.iload_n 1, 1) := by decide +kernel
theorem dX8_isInRange_19 : decode cX8_isInRange 19 = .ok (.iconst 0, 1) := by decide +kernel
theorem dX8_isInRange_20 : decode cX8_isInRange 20 = .ok (.bipush 9, 2) := by decide +kernel
theorem dX8_isInRange_22 : decode cX8_isInRange 22 = .ok (.invokestatic 26, 3) := by decide +kernel
theorem dX8_isInRange_25 : decode cX8_isInRange 25 = .ok (.goto 28, 3) := by decide +kernel
theorem dX8_isInRange_28 : decode cX8_isInRange 28 = .ok (.iload_n 0, 1) := by decide +kernel
theorem dX8_isInRange_29 : decode cX8_isInRange 29 = .ok (.iconst 1, 1) := by decide +kernel
theorem dX8_isInRange_30 : decode cX8_isInRange 30 = .ok (.if_icmp .eq 8, 3) := by decide +kernel
theorem dX8_isInRange_33 : decode cX8_isInRange 33 = .ok (.iload_n 0, 1) := by decide +kernel
theorem dX8_isInRange_34 : decode cX8_isInRange 34 = .ok (.iconst 3, 1) := by decide +kernel
theorem dX8_isInRange_35 : decode cX8_isInRange 35 = .ok (.if_icmp .ne 17, 3) := by decide +kernel
theorem dX8_isInRange_38 : decode cX8_isInRange 38 = .ok (.iload_n 1, 1) := by decide +kernel
theorem dX8_isInRange_39 : decode cX8_isInRange 39 = .ok (.iconst 1, 1) := by decide +kernel
theorem dX8_isInRange_40 : decode cX8_isInRange 40 = .ok (.bipush 9, 2) := by decide +kernel
theorem dX8_isInRange_42 : decode cX8_isInRange 42 = .ok (.invokestatic 26, 3) := by decide +kernel
theorem dX8_isInRange_45 : decode cX8_isInRange 45 = .ok (.ifCond .eq 7, 3) := by decide +kernel
theorem dX8_isInRange_48 : decode cX8_isInRange 48 = .ok (.iconst 1, 1) := by decide +kernel
theorem dX8_isInRange_49 : decode cX8_isInRange 49 = .ok (.goto 4, 3) := by decide +kernel
theorem dX8_isInRange_52 : decode cX8_isInRange 52 = .ok (.iconst 0, 1) := by decide +kernel
theorem dX8_isInRange_53 : decode cX8_isInRange 53 = .ok (.ireturn, 1) := by decide +kernel
theorem dX8_set_0 : decode cX8_set 0 = .ok (.iload_n 1, 1) := by decide +kernel
theorem dX8_set_1 : decode cX8_set 1 = .ok (.iload_n 2, 1) := by decide +kernel
theorem dX8_set_2 : decode cX8_set 2 = .ok (.invokestatic 45, 3) := by decide +kernel
theorem dX8_set_5 : decode cX8_set 5 = .ok (.ifCond .ne 7, 3) := by decide +kernel
theorem dX8_set_8 : decode cX8_set 8 = .ok (.sipush (-10002), 3) := by decide +kernel
theorem dX8_set_11 : decode cX8_set 11 = .ok (.ireturn, 1) := by decide +kernel
theorem dX8_set_12 : decode cX8_set 12 = .ok (.aload_n 0, 1) := by decide +kernel
theorem dX8_set_13 : decode cX8_set 13 = .ok (.invokevirtual 42, 3) := by decide +kernel
theorem dX8_set_16 : decode cX8_set 16 = .ok (.aload_n 0, 1) := by decide +kernel
theorem dX8_set_17 : decode cX8_set 17 = .ok (.getfield 7, 3) := by decide +kernel
theorem dX8_set_20 : decode cX8_set 20 = .ok (.iconst 0, 1) := by decide +kernel
theorem dX8_set_21 : decode cX8_set 21 = .ok (.iload_n 1, 1) := by decide +kernel
theorem dX8_set_22 : decode cX8_set 22 = .ok (.iadd, 1) := by decide +kernel
theorem dX8_set_23 : decode cX8_set 23 = .ok (.iaload, 1) := by decide +kernel
theorem dX8_set_24 : decode cX8_set 24 = .ok (.istore_n 3, 1) := by decide +kernel
theorem dX8_set_25 : decode cX8_set 25 = .ok (.aload_n 0, 1) := by decide +kernel
theorem dX8_set_26 : decode cX8_set 26 = .ok (.getfield 7, 3) := by decide +kernel
theorem dX8_set_29 : decode cX8_set 29 = .ok (.iconst 0, 1) := by decide +kernel
theorem dX8_set_30 : decode cX8_set 30 = .ok (.iload_n 1, 1) := by decide +kernel
theorem dX8_set_31 : decode cX8_set 31 = .ok (.iadd, 1) := by decide +kernel
theorem dX8_set_32 : decode cX8_set 32 = .ok (.iload_n 2, 1) := by decide +kernel
theorem dX8_set_33 : decode cX8_set 33 = .ok (.iastore, 1) := by decide +kernel
theorem dX8_set_34 : decode cX8_set 34 = .ok (.iload_n 3, 1) := by decide +kernel
theorem dX8_set_35 : decode cX8_set 35 = .ok (.ireturn, 1) := by decide +kernel
theorem dX8_setting_0 : decode cX8_setting 0 = .ok (.iload_n 1, 1) := by decide +kernel
theorem dX8_setting_1 : decode cX8_setting 1 = .ok (.iconst 0, 1) := by decide +kernel
theorem dX8_setting_2 : decode cX8_setting 2 = .ok (.iconst 3, 1) := by decide +kernel
theorem dX8_setting_3 : decode cX8_setting 3 = .ok (.invokestatic 26, 3) := by decide +kernel
theorem dX8_setting_6 : decode cX8_setting 6 = .ok (.ifCond .eq 14, 3) := by decide +kernel
theorem dX8_setting_9 : decode cX8_setting 9 = .ok (.aload_n 0, 1) := by decide +kernel
theorem dX8_setting_10 : decode cX8_setting 10 = .ok (.getfield 7, 3) := by decide +kernel
theorem dX8_setting_13 : decode cX8_setting 13 = .ok (.iconst 0, 1) := by decide +kernel
theorem dX8_setting_14 : decode cX8_setting 14 = .ok (.iload_n 1, 1) := by decide +kernel
theorem dX8_setting_15 : decode cX8_setting 15 = .ok (.iadd, 1) := by decide +kernel
theorem dX8_setting_16 : decode cX8_setting 16 = .ok (.iaload, 1) := by decide +kernel
theorem dX8_setting_17 : decode cX8_setting 17 = .ok (.goto 6, 3) := by decide +kernel
theorem dX8_setting_20 : decode cX8_setting 20 = .ok (.sipush (-10002), 3) := by decide +kernel
theorem dX8_setting_23 : decode cX8_setting 23 = .ok (.ireturn, 1) := by decide +kernel
theorem dX8_join_0 : decode cX8_join 0 = .ok (.aload_n 0, 1) := by decide +kernel
theorem dX8_join_1 : decode cX8_join 1 = .ok (.getfield 7, 3) := by decide +kernel
theorem dX8_join_4 : decode cX8_join 4 = .ok (.bipush 6, 2) := by decide +kernel
theorem dX8_join_6 : decode cX8_join 6 = .ok (.iaload, 1) := by decide +kernel
theorem dX8_join_7 : decode cX8_join 7 = .ok (.ifCond .le 7, 3) := by decide +kernel
theorem dX8_join_10 : decode cX8_join 10 = .ok (.sipush (-10003), 3) := by decide +kernel
theorem dX8_join_13 : decode cX8_join 13 = .ok (.ireturn, 1) := by decide +kernel
theorem dX8_join_14 : decode cX8_join 14 = .ok (.aload_n 0, 1) := by decide +kernel
theorem dX8_join_15 : decode cX8_join 15 = .ok (.getfield 7, 3) := by decide +kernel
theorem dX8_join_18 : decode cX8_join 18 = .ok (.iconst 4, 1) := by decide +kernel
theorem dX8_join_19 : decode cX8_join 19 = .ok (.iaload, 1) := by decide +kernel
theorem dX8_join_20 : decode cX8_join 20 = .ok (.bipush 8, 2) := by decide +kernel
theorem dX8_join_22 : decode cX8_join 22 = .ok (.if_icmp .ne 7, 3) := by decide +kernel
theorem dX8_join_25 : decode cX8_join 25 = .ok (.sipush (-10004), 3) := by decide +kernel
theorem dX8_join_28 : decode cX8_join 28 = .ok (.ireturn, 1) := by decide +kernel
theorem dX8_join_29 : decode cX8_join 29 = .ok (.aload_n 0, 1) := by decide +kernel
theorem dX8_join_30 : decode cX8_join 30 = .ok (.invokevirtual 42, 3) := by decide +kernel
theorem dX8_join_33 : decode cX8_join 33 = .ok (.iconst 0, 1) := by decide +kernel
theorem dX8_join_34 : decode cX8_join 34 = .ok (.istore_n 1, 1) := by decide +kernel
theorem dX8_join_35 : decode cX8_join 35 = .ok (.iload_n 1, 1) := by decide +kernel
theorem dX8_join_36 : decode cX8_join 36 = .ok (.iconst 5, 1) := by decide +kernel
theorem dX8_join_37 : decode cX8_join 37 = .ok (.if_icmp .ge 29, 3) := by decide +kernel
theorem dX8_join_40 : decode cX8_join 40 = .ok (.aload_n 0, 1) := by decide +kernel
theorem dX8_join_41 : decode cX8_join 41 = .ok (.getfield 7, 3) := by decide +kernel
theorem dX8_join_44 : decode cX8_join 44 = .ok (.bipush 12, 2) := by decide +kernel
theorem dX8_join_46 : decode cX8_join 46 = .ok (.bipush 6, 2) := by decide +kernel
theorem dX8_join_48 : decode cX8_join 48 = .ok (.aload_n 0, 1) := by decide +kernel
theorem dX8_join_49 : decode cX8_join 49 = .ok (.getfield 7, 3) := by decide +kernel
theorem dX8_join_52 : decode cX8_join 52 = .ok (.iconst 4, 1) := by decide +kernel
theorem dX8_join_53 : decode cX8_join 53 = .ok (.iaload, 1) := by decide +kernel
theorem dX8_join_54 : decode cX8_join 54 = .ok (.imul, 1) := by decide +kernel
theorem dX8_join_55 : decode cX8_join 55 = .ok (.iadd, 1) := by decide +kernel
theorem dX8_join_56 : decode cX8_join 56 = .ok (.iload_n 1, 1) := by decide +kernel
theorem dX8_join_57 : decode cX8_join 57 = .ok (.iadd, 1) := by decide +kernel
theorem dX8_join_58 : decode cX8_join 58 = .ok (.iconst 0, 1) := by decide +kernel
theorem dX8_join_59 : decode cX8_join 59 = .ok (.iastore, 1) := by decide +kernel
theorem dX8_join_60 : decode cX8_join 60 = .ok (.iinc 1 1, 3) := by decide +kernel
theorem dX8_join_63 : decode cX8_join 63 = .ok (.goto (-28), 3) := by decide +kernel
theorem dX8_join_66 : decode cX8_join 66 = .ok (.aload_n 0, 1) := by decide +kernel
theorem dX8_join_67 : decode cX8_join 67 = .ok (.aload_n 0, 1) := by decide +kernel
theorem dX8_join_68 : decode cX8_join 68 = .ok (.getfield 7, 3) := by decide +kernel
theorem dX8_join_71 : decode cX8_join 71 = .ok (.iconst 4, 1) := by decide +kernel
theorem dX8_join_72 : decode cX8_join 72 = .ok (.iaload, 1) := by decide +kernel
theorem dX8_join_73 : decode cX8_join 73 = .ok (.sipush (-10006), 3) := by decide +kernel
theorem dX8_join_76 : decode cX8_join 76 = .ok (.invokevirtual 49, 3) := by decide +kernel
theorem dX8_join_79 : decode cX8_join 79 = .ok (.aload_n 0, 1) := by decide +kernel
theorem dX8_join_80 : decode cX8_join 80 = .ok (.getfield 7, 3) := by decide +kernel
theorem dX8_join_83 : decode cX8_join 83 = .ok (.iconst 4, 1) := by decide +kernel
theorem dX8_join_84 : decode cX8_join 84 = .ok (.dup2, 1) := by decide +kernel
theorem dX8_join_85 : decode cX8_join 85 = .ok (.iaload, 1) := by decide +kernel
theorem dX8_join_86 : decode cX8_join 86 = .ok (.iconst 1, 1) := by decide +kernel
theorem dX8_join_87 : decode cX8_join 87 = .ok (.iadd, 1) := by decide +kernel
theorem dX8_join_88 : decode cX8_join 88 = .ok (.iastore, 1) := by decide +kernel
theorem dX8_join_89 : decode cX8_join 89 = .ok (.aload_n 0, 1) := by decide +kernel
theorem dX8_join_90 : decode cX8_join 90 = .ok (.getfield 7, 3) := by decide +kernel
theorem dX8_join_93 : decode cX8_join 93 = .ok (.iconst 4, 1) := by decide +kernel
theorem dX8_join_94 : decode cX8_join 94 = .ok (.iaload, 1) := by decide +kernel
theorem dX8_join_95 : decode cX8_join 95 = .ok (.iconst 1, 1) := by decide +kernel
theorem dX8_join_96 : decode cX8_join 96 = .ok (.isub, 1) := by decide +kernel
theorem dX8_join_97 : decode cX8_join 97 = .ok (.ireturn, 1) := by decide +kernel
theorem dX8_hidersAt_0 : decode cX8_hidersAt 0 = .ok (.iconst 0, 1) := by decide +kernel
theorem dX8_hidersAt_1 : decode cX8_hidersAt 1 = .ok (.istore_n 2, 1) := by decide +kernel
theorem dX8_hidersAt_2 : decode cX8_hidersAt 2 = .ok (.iconst 0, 1) := by decide +kernel
theorem dX8_hidersAt_3 : decode cX8_hidersAt 3 = .ok (.istore_n 3, 1) := by decide +kernel
theorem dX8_hidersAt_4 : decode cX8_hidersAt 4 = .ok (.iload_n 3, 1) := by decide +kernel
theorem dX8_hidersAt_5 : decode cX8_hidersAt 5 = .ok (.aload_n 0, 1) := by decide +kernel
theorem dX8_hidersAt_6 : decode cX8_hidersAt 6 = .ok (.getfield 7, 3) := by decide +kernel
theorem dX8_hidersAt_9 : decode cX8_hidersAt 9 = .ok (.iconst 4, 1) := by decide +kernel
theorem dX8_hidersAt_10 : decode cX8_hidersAt 10 = .ok (.iaload, 1) := by decide +kernel
theorem dX8_hidersAt_11 : decode cX8_hidersAt 11 = .ok (.if_icmp .ge 29, 3) := by decide +kernel
theorem dX8_hidersAt_14 : decode cX8_hidersAt 14 = .ok (.iload_n 2, 1) := by decide +kernel
theorem dX8_hidersAt_15 : decode cX8_hidersAt 15 = .ok (.aload_n 0, 1) := by decide +kernel
theorem dX8_hidersAt_16 : decode cX8_hidersAt 16 = .ok (.iload_n 3, 1) := by decide +kernel
theorem dX8_hidersAt_17 : decode cX8_hidersAt 17 = .ok (.iconst 5, 1) := by decide +kernel
theorem dX8_hidersAt_18 : decode cX8_hidersAt 18 = .ok (.invokevirtual 53, 3) := by decide +kernel
theorem dX8_hidersAt_21 : decode cX8_hidersAt 21 = .ok (.iload_n 1, 1) := by decide +kernel
theorem dX8_hidersAt_22 : decode cX8_hidersAt 22 = .ok (.if_icmp .ne 9, 3) := by decide +kernel
theorem dX8_hidersAt_25 : decode cX8_hidersAt 25 = .ok (.iconst 1, 1) := by decide +kernel
theorem dX8_hidersAt_26 : decode cX8_hidersAt 26 = .ok (.iload_n 3, 1) := by decide +kernel
theorem dX8_hidersAt_27 : decode cX8_hidersAt 27 = .ok (.ishl, 1) := by decide +kernel
theorem dX8_hidersAt_28 : decode cX8_hidersAt 28 = .ok (.goto 4, 3) := by decide +kernel
theorem dX8_hidersAt_31 : decode cX8_hidersAt 31 = .ok (.iconst 0, 1) := by decide +kernel
theorem dX8_hidersAt_32 : decode cX8_hidersAt 32 = .ok (.ior, 1) := by decide +kernel
theorem dX8_hidersAt_33 : decode cX8_hidersAt 33 = .ok (.istore_n 2, 1) := by decide +kernel
theorem dX8_hidersAt_34 : decode cX8_hidersAt 34 = .ok (.iinc 3 1, 3) := by decide +kernel
theorem dX8_hidersAt_37 : decode cX8_hidersAt 37 = .ok (.goto (-33), 3) := by decide +kernel
theorem dX8_hidersAt_40 : decode cX8_hidersAt 40 = .ok (.iload_n 2, 1) := by decide +kernel
theorem dX8_hidersAt_41 : decode cX8_hidersAt 41 = .ok (.ireturn, 1) := by decide +kernel
theorem dX8_bits_0 : decode cX8_bits 0 = .ok (.iconst 0, 1) := by decide +kernel
theorem dX8_bits_1 : decode cX8_bits 1 = .ok (.istore_n 1, 1) := by decide +kernel
theorem dX8_bits_2 : decode cX8_bits 2 = .ok (.iconst 0, 1) := by decide +kernel
theorem dX8_bits_3 : decode cX8_bits 3 = .ok (.istore_n 2, 1) := by decide +kernel
theorem dX8_bits_4 : decode cX8_bits 4 = .ok (.iload_n 2, 1) := by decide +kernel
theorem dX8_bits_5 : decode cX8_bits 5 = .ok (.bipush 16, 2) := by decide +kernel
theorem dX8_bits_7 : decode cX8_bits 7 = .ok (.if_icmp .ge 17, 3) := by decide +kernel
theorem dX8_bits_10 : decode cX8_bits 10 = .ok (.iload_n 1, 1) := by decide +kernel
theorem dX8_bits_11 : decode cX8_bits 11 = .ok (.iload_n 0, 1) := by decide +kernel
theorem dX8_bits_12 : decode cX8_bits 12 = .ok (.iload_n 2, 1) := by decide +kernel
theorem dX8_bits_13 : decode cX8_bits 13 = .ok (.ishr, 1) := by decide +kernel
theorem dX8_bits_14 : decode cX8_bits 14 = .ok (.iconst 1, 1) := by decide +kernel
theorem dX8_bits_15 : decode cX8_bits 15 = .ok (.iand, 1) := by decide +kernel
theorem dX8_bits_16 : decode cX8_bits 16 = .ok (.iadd, 1) := by decide +kernel
theorem dX8_bits_17 : decode cX8_bits 17 = .ok (.istore_n 1, 1) := by decide +kernel
theorem dX8_bits_18 : decode cX8_bits 18 = .ok (.iinc 2 1, 3) := by decide +kernel
theorem dX8_bits_21 : decode cX8_bits 21 = .ok (.goto (-17), 3) := by decide +kernel
theorem dX8_bits_24 : decode cX8_bits 24 = .ok (.iload_n 1, 1) := by decide +kernel
theorem dX8_bits_25 : decode cX8_bits 25 = .ok (.ireturn, 1) := by decide +kernel
theorem dX8_hidden_0 : decode cX8_hidden 0 = .ok (.iconst 0, 1) := by decide +kernel
theorem dX8_hidden_1 : decode cX8_hidden 1 = .ok (.istore_n 1, 1) := by decide +kernel
theorem dX8_hidden_2 : decode cX8_hidden 2 = .ok (.iconst 0, 1) := by decide +kernel
theorem dX8_hidden_3 : decode cX8_hidden 3 = .ok (.istore_n 2, 1) := by decide +kernel
theorem dX8_hidden_4 : decode cX8_hidden 4 = .ok (.iload_n 2, 1) := by decide +kernel
theorem dX8_hidden_5 : decode cX8_hidden 5 = .ok (.aload_n 0, 1) := by decide +kernel
theorem dX8_hidden_6 : decode cX8_hidden 6 = .ok (.getfield 7, 3) := by decide +kernel
theorem dX8_hidden_9 : decode cX8_hidden 9 = .ok (.iconst 4, 1) := by decide +kernel
theorem dX8_hidden_10 : decode cX8_hidden 10 = .ok (.iaload, 1) := by decide +kernel
theorem dX8_hidden_11 : decode cX8_hidden 11 = .ok (.if_icmp .ge 29, 3) := by decide +kernel
theorem dX8_hidden_14 : decode cX8_hidden 14 = .ok (.iload_n 1, 1) := by decide +kernel
theorem dX8_hidden_15 : decode cX8_hidden 15 = .ok (.aload_n 0, 1) := by decide +kernel
theorem dX8_hidden_16 : decode cX8_hidden 16 = .ok (.iload_n 2, 1) := by decide +kernel
theorem dX8_hidden_17 : decode cX8_hidden 17 = .ok (.iconst 5, 1) := by decide +kernel
theorem dX8_hidden_18 : decode cX8_hidden 18 = .ok (.invokevirtual 53, 3) := by decide +kernel
theorem dX8_hidden_21 : decode cX8_hidden 21 = .ok (.sipush (-10006), 3) := by decide +kernel
theorem dX8_hidden_24 : decode cX8_hidden 24 = .ok (.if_icmp .ne 7, 3) := by decide +kernel
theorem dX8_hidden_27 : decode cX8_hidden 27 = .ok (.iconst 0, 1) := by decide +kernel
theorem dX8_hidden_28 : decode cX8_hidden 28 = .ok (.goto 4, 3) := by decide +kernel
theorem dX8_hidden_31 : decode cX8_hidden 31 = .ok (.iconst 1, 1) := by decide +kernel
theorem dX8_hidden_32 : decode cX8_hidden 32 = .ok (.iadd, 1) := by decide +kernel
theorem dX8_hidden_33 : decode cX8_hidden 33 = .ok (.istore_n 1, 1) := by decide +kernel
theorem dX8_hidden_34 : decode cX8_hidden 34 = .ok (.iinc 2 1, 3) := by decide +kernel
theorem dX8_hidden_37 : decode cX8_hidden 37 = .ok (.goto (-33), 3) := by decide +kernel
theorem dX8_hidden_40 : decode cX8_hidden 40 = .ok (.iload_n 1, 1) := by decide +kernel
theorem dX8_hidden_41 : decode cX8_hidden 41 = .ok (.ireturn, 1) := by decide +kernel
theorem dX8_isGood_0 : decode cX8_isGood 0 = .ok (.iload_n 1, 1) := by decide +kernel
theorem dX8_isGood_1 : decode cX8_isGood 1 = .ok (.ifCond .le 30, 3) := by decide +kernel
theorem dX8_isGood_4 : decode cX8_isGood 4 = .ok (.iload_n 1, 1) := by decide +kernel
theorem dX8_isGood_5 : decode cX8_isGood 5 = .ok (.iconst 0, 1) := by decide +kernel
theorem dX8_isGood_6 : decode cX8_isGood 6 = .ok (.invokestatic 56, 3) := by decide +kernel
theorem dX8_isGood_9 : decode cX8_isGood 9 = .ok (.aload_n 0, 1) := by decide +kernel
theorem dX8_isGood_10 : decode cX8_isGood 10 = .ok (.getfield 7, 3) := by decide +kernel
theorem dX8_isGood_13 : decode cX8_isGood 13 = .ok (.bipush 8, 2) := by decide +kernel
theorem dX8_isGood_15 : decode cX8_isGood 15 = .ok (.iaload, 1) := by decide +kernel
theorem dX8_isGood_16 : decode cX8_isGood 16 = .ok (.if_icmp .gt 15, 3) := by decide +kernel
theorem dX8_isGood_19 : decode cX8_isGood 19 = .ok (.aload_n 0, 1) := by decide +kernel
theorem dX8_isGood_20 : decode cX8_isGood 20 = .ok (.iload_n 1, 1) := by decide +kernel
theorem dX8_isGood_21 : decode cX8_isGood 21 = .ok (.invokevirtual 59, 3) := by decide +kernel
theorem dX8_isGood_24 : decode cX8_isGood 24 = .ok (.ifCond .ne 7, 3) := by decide +kernel
theorem dX8_isGood_27 : decode cX8_isGood 27 = .ok (.iconst 1, 1) := by decide +kernel
theorem dX8_isGood_28 : decode cX8_isGood 28 = .ok (.goto 4, 3) := by decide +kernel
theorem dX8_isGood_31 : decode cX8_isGood 31 = .ok (.iconst 0, 1) := by decide +kernel
theorem dX8_isGood_32 : decode cX8_isGood 32 = .ok (.ireturn, 1) := by decide +kernel
theorem dX8_isOpen_0 : decode cX8_isOpen 0 = .ok (.aload_n 0, 1) := by decide +kernel
theorem dX8_isOpen_1 : decode cX8_isOpen 1 = .ok (.iload_n 1, 1) := by decide +kernel
theorem dX8_isOpen_2 : decode cX8_isOpen 2 = .ok (.invokevirtual 63, 3) := by decide +kernel
theorem dX8_isOpen_5 : decode cX8_isOpen 5 = .ok (.ifCond .eq 19, 3) := by decide +kernel
theorem dX8_isOpen_8 : decode cX8_isOpen 8 = .ok (.aload_n 0, 1) := by decide +kernel
theorem dX8_isOpen_9 : decode cX8_isOpen 9 = .ok (.iload_n 1, 1) := by decide +kernel
theorem dX8_isOpen_10 : decode cX8_isOpen 10 = .ok (.invokevirtual 66, 3) := by decide +kernel
theorem dX8_isOpen_13 : decode cX8_isOpen 13 = .ok (.invokestatic 70, 3) := by decide +kernel
theorem dX8_isOpen_16 : decode cX8_isOpen 16 = .ok (.iconst 2, 1) := by decide +kernel
theorem dX8_isOpen_17 : decode cX8_isOpen 17 = .ok (.if_icmp .ge 7, 3) := by decide +kernel
theorem dX8_isOpen_20 : decode cX8_isOpen 20 = .ok (.iconst 1, 1) := by decide +kernel
theorem dX8_isOpen_21 : decode cX8_isOpen 21 = .ok (.goto 4, 3) := by decide +kernel
theorem dX8_isOpen_24 : decode cX8_isOpen 24 = .ok (.iconst 0, 1) := by decide +kernel
theorem dX8_isOpen_25 : decode cX8_isOpen 25 = .ok (.ireturn, 1) := by decide +kernel
theorem dX8_start_0 : decode cX8_start 0 = .ok (.aload_n 0, 1) := by decide +kernel
theorem dX8_start_1 : decode cX8_start 1 = .ok (.iload_n 1, 1) := by decide +kernel
theorem dX8_start_2 : decode cX8_start 2 = .ok (.invokevirtual 73, 3) := by decide +kernel
theorem dX8_start_5 : decode cX8_start 5 = .ok (.ifCond .ne 7, 3) := by decide +kernel
theorem dX8_start_8 : decode cX8_start 8 = .ok (.sipush (-10001), 3) := by decide +kernel
theorem dX8_start_11 : decode cX8_start 11 = .ok (.ireturn, 1) := by decide +kernel
theorem dX8_start_12 : decode cX8_start 12 = .ok (.iload_n 2, 1) := by decide +kernel
theorem dX8_start_13 : decode cX8_start 13 = .ok (.iconst 1, 1) := by decide +kernel
theorem dX8_start_14 : decode cX8_start 14 = .ok (.bipush 8, 2) := by decide +kernel
theorem dX8_start_16 : decode cX8_start 16 = .ok (.invokestatic 26, 3) := by decide +kernel
theorem dX8_start_19 : decode cX8_start 19 = .ok (.ifCond .ne 7, 3) := by decide +kernel
theorem dX8_start_22 : decode cX8_start 22 = .ok (.sipush (-10002), 3) := by decide +kernel
theorem dX8_start_25 : decode cX8_start 25 = .ok (.ireturn, 1) := by decide +kernel
theorem dX8_start_26 : decode cX8_start 26 = .ok (.aload_n 0, 1) := by decide +kernel
theorem dX8_start_27 : decode cX8_start 27 = .ok (.getfield 7, 3) := by decide +kernel
theorem dX8_start_30 : decode cX8_start 30 = .ok (.bipush 6, 2) := by decide +kernel
theorem dX8_start_32 : decode cX8_start 32 = .ok (.iaload, 1) := by decide +kernel
theorem dX8_start_33 : decode cX8_start 33 = .ok (.ifCond .gt 13, 3) := by decide +kernel
theorem dX8_start_36 : decode cX8_start 36 = .ok (.aload_n 0, 1) := by decide +kernel
theorem dX8_start_37 : decode cX8_start 37 = .ok (.getfield 7, 3) := by decide +kernel
theorem dX8_start_40 : decode cX8_start 40 = .ok (.iconst 4, 1) := by decide +kernel
theorem dX8_start_41 : decode cX8_start 41 = .ok (.iaload, 1) := by decide +kernel
theorem dX8_start_42 : decode cX8_start 42 = .ok (.iconst 2, 1) := by decide +kernel
theorem dX8_start_43 : decode cX8_start 43 = .ok (.if_icmp .ge 7, 3) := by decide +kernel
theorem dX8_start_46 : decode cX8_start 46 = .ok (.sipush (-10003), 3) := by decide +kernel
theorem dX8_start_49 : decode cX8_start 49 = .ok (.ireturn, 1) := by decide +kernel
theorem dX8_start_50 : decode cX8_start 50 = .ok (.aload_n 0, 1) := by decide +kernel
theorem dX8_start_51 : decode cX8_start 51 = .ok (.invokevirtual 42, 3) := by decide +kernel
theorem dX8_start_54 : decode cX8_start 54 = .ok (.aload_n 0, 1) := by decide +kernel
theorem dX8_start_55 : decode cX8_start 55 = .ok (.getfield 7, 3) := by decide +kernel
theorem dX8_start_58 : decode cX8_start 58 = .ok (.bipush 6, 2) := by decide +kernel
theorem dX8_start_60 : decode cX8_start 60 = .ok (.iconst 1, 1) := by decide +kernel
theorem dX8_start_61 : decode cX8_start 61 = .ok (.iastore, 1) := by decide +kernel
theorem dX8_start_62 : decode cX8_start 62 = .ok (.aload_n 0, 1) := by decide +kernel
theorem dX8_start_63 : decode cX8_start 63 = .ok (.getfield 7, 3) := by decide +kernel
theorem dX8_start_66 : decode cX8_start 66 = .ok (.bipush 7, 2) := by decide +kernel
theorem dX8_start_68 : decode cX8_start 68 = .ok (.iload_n 1, 1) := by decide +kernel
theorem dX8_start_69 : decode cX8_start 69 = .ok (.iastore, 1) := by decide +kernel
theorem dX8_start_70 : decode cX8_start 70 = .ok (.aload_n 0, 1) := by decide +kernel
theorem dX8_start_71 : decode cX8_start 71 = .ok (.getfield 7, 3) := by decide +kernel
theorem dX8_start_74 : decode cX8_start 74 = .ok (.bipush 8, 2) := by decide +kernel
theorem dX8_start_76 : decode cX8_start 76 = .ok (.iload_n 2, 1) := by decide +kernel
theorem dX8_start_77 : decode cX8_start 77 = .ok (.iastore, 1) := by decide +kernel
theorem dX8_start_78 : decode cX8_start 78 = .ok (.aload_n 0, 1) := by decide +kernel
theorem dX8_start_79 : decode cX8_start 79 = .ok (.getfield 7, 3) := by decide +kernel
theorem dX8_start_82 : decode cX8_start 82 = .ok (.bipush 9, 2) := by decide +kernel
theorem dX8_start_84 : decode cX8_start 84 = .ok (.iconst 0, 1) := by decide +kernel
theorem dX8_start_85 : decode cX8_start 85 = .ok (.iastore, 1) := by decide +kernel
theorem dX8_start_86 : decode cX8_start 86 = .ok (.aload_n 0, 1) := by decide +kernel
theorem dX8_start_87 : decode cX8_start 87 = .ok (.getfield 7, 3) := by decide +kernel
theorem dX8_start_90 : decode cX8_start 90 = .ok (.bipush 10, 2) := by decide +kernel
theorem dX8_start_92 : decode cX8_start 92 = .ok (.iconst 0, 1) := by decide +kernel
theorem dX8_start_93 : decode cX8_start 93 = .ok (.iastore, 1) := by decide +kernel
theorem dX8_start_94 : decode cX8_start 94 = .ok (.aload_n 0, 1) := by decide +kernel
theorem dX8_start_95 : decode cX8_start 95 = .ok (.iload_n 1, 1) := by decide +kernel
theorem dX8_start_96 : decode cX8_start 96 = .ok (.iconst 1, 1) := by decide +kernel
theorem dX8_start_97 : decode cX8_start 97 = .ok (.iconst 1, 1) := by decide +kernel
theorem dX8_start_98 : decode cX8_start 98 = .ok (.invokevirtual 76, 3) := by decide +kernel
theorem dX8_start_101 : decode cX8_start 101 = .ok (.iconst 0, 1) := by decide +kernel
theorem dX8_start_102 : decode cX8_start 102 = .ok (.istore_n 3, 1) := by decide +kernel
theorem dX8_start_103 : decode cX8_start 103 = .ok (.iconst 0, 1) := by decide +kernel
theorem dX8_start_104 : decode cX8_start 104 = .ok (.istore 4, 2) := by decide +kernel
theorem dX8_start_106 : decode cX8_start 106 = .ok (.iload 4, 2) := by decide +kernel
theorem dX8_start_108 : decode cX8_start 108 = .ok (.bipush 16, 2) := by decide +kernel
theorem dX8_start_110 : decode cX8_start 110 = .ok (.if_icmp .ge 26, 3) := by decide +kernel
theorem dX8_start_113 : decode cX8_start 113 = .ok (.iload_n 3, 1) := by decide +kernel
theorem dX8_start_114 : decode cX8_start 114 = .ok (.aload_n 0, 1) := by decide +kernel
theorem dX8_start_115 : decode cX8_start 115 = .ok (.iload 4, 2) := by decide +kernel
theorem dX8_start_117 : decode cX8_start 117 = .ok (.invokevirtual 80, 3) := by decide +kernel
theorem dX8_start_120 : decode cX8_start 120 = .ok (.ifCond .eq 7, 3) := by decide +kernel
theorem dX8_start_123 : decode cX8_start 123 = .ok (.iconst 1, 1) := by decide +kernel
theorem dX8_start_124 : decode cX8_start 124 = .ok (.goto 4, 3) := by decide +kernel
theorem dX8_start_127 : decode cX8_start 127 = .ok (.iconst 0, 1) := by decide +kernel
theorem dX8_start_128 : decode cX8_start 128 = .ok (.iadd, 1) := by decide +kernel
theorem dX8_start_129 : decode cX8_start 129 = .ok (.istore_n 3, 1) := by decide +kernel
theorem dX8_start_130 : decode cX8_start 130 = .ok (.iinc 4 1, 3) := by decide +kernel
theorem dX8_start_133 : decode cX8_start 133 = .ok (.goto (-27), 3) := by decide +kernel
theorem dX8_start_136 : decode cX8_start 136 = .ok (.iload_n 3, 1) := by decide +kernel
theorem dX8_start_137 : decode cX8_start 137 = .ok (.ireturn, 1) := by decide +kernel
theorem dX8_whyNotHide_0 : decode cX8_whyNotHide 0 = .ok (.aload_n 0, 1) := by decide +kernel
theorem dX8_whyNotHide_1 : decode cX8_whyNotHide 1 = .ok (.iload_n 1, 1) := by decide +kernel
theorem dX8_whyNotHide_2 : decode cX8_whyNotHide 2 = .ok (.invokevirtual 73, 3) := by decide +kernel
theorem dX8_whyNotHide_5 : decode cX8_whyNotHide 5 = .ok (.ifCond .eq 10, 3) := by decide +kernel
theorem dX8_whyNotHide_8 : decode cX8_whyNotHide 8 = .ok (.iload_n 2, 1) := by decide +kernel
theorem dX8_whyNotHide_9 : decode cX8_whyNotHide 9 = .ok (.invokestatic 83, 3) := by decide +kernel
theorem dX8_whyNotHide_12 : decode cX8_whyNotHide 12 = .ok (.ifCond .ne 7, 3) := by decide +kernel
theorem dX8_whyNotHide_15 : decode cX8_whyNotHide 15 = .ok (.sipush (-10001), 3) := by decide +kernel
theorem dX8_whyNotHide_18 : decode cX8_whyNotHide 18 = .ok (.ireturn, 1) := by decide +kernel
theorem dX8_whyNotHide_19 : decode cX8_whyNotHide 19 = .ok (.aload_n 0, 1) := by decide +kernel
theorem dX8_whyNotHide_20 : decode cX8_whyNotHide 20 = .ok (.getfield 7, 3) := by decide +kernel
theorem dX8_whyNotHide_23 : decode cX8_whyNotHide 23 = .ok (.bipush 6, 2) := by decide +kernel
theorem dX8_whyNotHide_25 : decode cX8_whyNotHide 25 = .ok (.iaload, 1) := by decide +kernel
theorem dX8_whyNotHide_26 : decode cX8_whyNotHide 26 = .ok (.iconst 1, 1) := by decide +kernel
theorem dX8_whyNotHide_27 : decode cX8_whyNotHide 27 = .ok (.if_icmp .ne 34, 3) := by decide +kernel
theorem dX8_whyNotHide_30 : decode cX8_whyNotHide 30 = .ok (.iload_n 1, 1) := by decide +kernel
theorem dX8_whyNotHide_31 : decode cX8_whyNotHide 31 = .ok (.aload_n 0, 1) := by decide +kernel
theorem dX8_whyNotHide_32 : decode cX8_whyNotHide 32 = .ok (.getfield 7, 3) := by decide +kernel
theorem dX8_whyNotHide_35 : decode cX8_whyNotHide 35 = .ok (.bipush 7, 2) := by decide +kernel
theorem dX8_whyNotHide_37 : decode cX8_whyNotHide 37 = .ok (.iaload, 1) := by decide +kernel
theorem dX8_whyNotHide_38 : decode cX8_whyNotHide 38 = .ok (.if_icmp .eq 23, 3) := by decide +kernel
theorem dX8_whyNotHide_41 : decode cX8_whyNotHide 41 = .ok (.aload_n 0, 1) := by decide +kernel
theorem dX8_whyNotHide_42 : decode cX8_whyNotHide 42 = .ok (.iload_n 1, 1) := by decide +kernel
theorem dX8_whyNotHide_43 : decode cX8_whyNotHide 43 = .ok (.iconst 5, 1) := by decide +kernel
theorem dX8_whyNotHide_44 : decode cX8_whyNotHide 44 = .ok (.invokevirtual 53, 3) := by decide +kernel
theorem dX8_whyNotHide_47 : decode cX8_whyNotHide 47 = .ok (.sipush (-10006), 3) := by decide +kernel
theorem dX8_whyNotHide_50 : decode cX8_whyNotHide 50 = .ok (.if_icmp .ne 11, 3) := by decide +kernel
theorem dX8_whyNotHide_53 : decode cX8_whyNotHide 53 = .ok (.aload_n 0, 1) := by decide +kernel
theorem dX8_whyNotHide_54 : decode cX8_whyNotHide 54 = .ok (.iload_n 2, 1) := by decide +kernel
theorem dX8_whyNotHide_55 : decode cX8_whyNotHide 55 = .ok (.invokevirtual 63, 3) := by decide +kernel
theorem dX8_whyNotHide_58 : decode cX8_whyNotHide 58 = .ok (.ifCond .ne 7, 3) := by decide +kernel
theorem dX8_whyNotHide_61 : decode cX8_whyNotHide 61 = .ok (.sipush (-10003), 3) := by decide +kernel
theorem dX8_whyNotHide_64 : decode cX8_whyNotHide 64 = .ok (.ireturn, 1) := by decide +kernel
theorem dX8_whyNotHide_65 : decode cX8_whyNotHide 65 = .ok (.aload_n 0, 1) := by decide +kernel
theorem dX8_whyNotHide_66 : decode cX8_whyNotHide 66 = .ok (.iload_n 2, 1) := by decide +kernel
theorem dX8_whyNotHide_67 : decode cX8_whyNotHide 67 = .ok (.invokevirtual 66, 3) := by decide +kernel
theorem dX8_whyNotHide_70 : decode cX8_whyNotHide 70 = .ok (.invokestatic 70, 3) := by decide +kernel
theorem dX8_whyNotHide_73 : decode cX8_whyNotHide 73 = .ok (.iconst 2, 1) := by decide +kernel
theorem dX8_whyNotHide_74 : decode cX8_whyNotHide 74 = .ok (.if_icmp .ne 9, 3) := by decide +kernel
theorem dX8_whyNotHide_77 : decode cX8_whyNotHide 77 = .ok (.sipush (-10004), 3) := by decide +kernel
theorem dX8_whyNotHide_80 : decode cX8_whyNotHide 80 = .ok (.goto 4, 3) := by decide +kernel
theorem dX8_whyNotHide_83 : decode cX8_whyNotHide 83 = .ok (.iconst 0, 1) := by decide +kernel
theorem dX8_whyNotHide_84 : decode cX8_whyNotHide 84 = .ok (.ireturn, 1) := by decide +kernel
theorem dX8_hide_0 : decode cX8_hide 0 = .ok (.aload_n 0, 1) := by decide +kernel
theorem dX8_hide_1 : decode cX8_hide 1 = .ok (.iload_n 1, 1) := by decide +kernel
theorem dX8_hide_2 : decode cX8_hide 2 = .ok (.iload_n 2, 1) := by decide +kernel
theorem dX8_hide_3 : decode cX8_hide 3 = .ok (.invokevirtual 86, 3) := by decide +kernel
theorem dX8_hide_6 : decode cX8_hide 6 = .ok (.istore_n 3, 1) := by decide +kernel
theorem dX8_hide_7 : decode cX8_hide 7 = .ok (.iload_n 3, 1) := by decide +kernel
theorem dX8_hide_8 : decode cX8_hide 8 = .ok (.ifCond .ge 5, 3) := by decide +kernel
theorem dX8_hide_11 : decode cX8_hide 11 = .ok (.iload_n 3, 1) := by decide +kernel
theorem dX8_hide_12 : decode cX8_hide 12 = .ok (.ireturn, 1) := by decide +kernel
theorem dX8_hide_13 : decode cX8_hide 13 = .ok (.aload_n 0, 1) := by decide +kernel
theorem dX8_hide_14 : decode cX8_hide 14 = .ok (.invokevirtual 42, 3) := by decide +kernel
theorem dX8_hide_17 : decode cX8_hide 17 = .ok (.aload_n 0, 1) := by decide +kernel
theorem dX8_hide_18 : decode cX8_hide 18 = .ok (.iload_n 1, 1) := by decide +kernel
theorem dX8_hide_19 : decode cX8_hide 19 = .ok (.iload_n 2, 1) := by decide +kernel
theorem dX8_hide_20 : decode cX8_hide 20 = .ok (.invokevirtual 49, 3) := by decide +kernel
theorem dX8_hide_23 : decode cX8_hide 23 = .ok (.iload_n 2, 1) := by decide +kernel
theorem dX8_hide_24 : decode cX8_hide 24 = .ok (.iconst 0, 1) := by decide +kernel
theorem dX8_hide_25 : decode cX8_hide 25 = .ok (.invokestatic 56, 3) := by decide +kernel
theorem dX8_hide_28 : decode cX8_hide 28 = .ok (.ireturn, 1) := by decide +kernel
theorem dX8_ends_0 : decode cX8_ends 0 = .ok (.aload_n 0, 1) := by decide +kernel
theorem dX8_ends_1 : decode cX8_ends 1 = .ok (.getfield 7, 3) := by decide +kernel
theorem dX8_ends_4 : decode cX8_ends 4 = .ok (.bipush 6, 2) := by decide +kernel
theorem dX8_ends_6 : decode cX8_ends 6 = .ok (.iconst 0, 1) := by decide +kernel
theorem dX8_ends_7 : decode cX8_ends 7 = .ok (.iastore, 1) := by decide +kernel
theorem dX8_ends_8 : decode cX8_ends 8 = .ok (.aload_n 0, 1) := by decide +kernel
theorem dX8_ends_9 : decode cX8_ends 9 = .ok (.getfield 7, 3) := by decide +kernel
theorem dX8_ends_12 : decode cX8_ends 12 = .ok (.bipush 10, 2) := by decide +kernel
theorem dX8_ends_14 : decode cX8_ends 14 = .ok (.iconst 0, 1) := by decide +kernel
theorem dX8_ends_15 : decode cX8_ends 15 = .ok (.iastore, 1) := by decide +kernel
theorem dX8_ends_16 : decode cX8_ends 16 = .ok (.aload_n 0, 1) := by decide +kernel
theorem dX8_ends_17 : decode cX8_ends 17 = .ok (.getfield 7, 3) := by decide +kernel
theorem dX8_ends_20 : decode cX8_ends 20 = .ok (.iconst 5, 1) := by decide +kernel
theorem dX8_ends_21 : decode cX8_ends 21 = .ok (.dup2, 1) := by decide +kernel
theorem dX8_ends_22 : decode cX8_ends 22 = .ok (.iaload, 1) := by decide +kernel
theorem dX8_ends_23 : decode cX8_ends 23 = .ok (.iconst 1, 1) := by decide +kernel
theorem dX8_ends_24 : decode cX8_ends 24 = .ok (.iadd, 1) := by decide +kernel
theorem dX8_ends_25 : decode cX8_ends 25 = .ok (.iastore, 1) := by decide +kernel
theorem dX8_ends_26 : decode cX8_ends 26 = .ok (.iconst 0, 1) := by decide +kernel
theorem dX8_ends_27 : decode cX8_ends 27 = .ok (.istore_n 1, 1) := by decide +kernel
theorem dX8_ends_28 : decode cX8_ends 28 = .ok (.iload_n 1, 1) := by decide +kernel
theorem dX8_ends_29 : decode cX8_ends 29 = .ok (.aload_n 0, 1) := by decide +kernel
theorem dX8_ends_30 : decode cX8_ends 30 = .ok (.getfield 7, 3) := by decide +kernel
theorem dX8_ends_33 : decode cX8_ends 33 = .ok (.iconst 4, 1) := by decide +kernel
theorem dX8_ends_34 : decode cX8_ends 34 = .ok (.iaload, 1) := by decide +kernel
theorem dX8_ends_35 : decode cX8_ends 35 = .ok (.if_icmp .ge 17, 3) := by decide +kernel
theorem dX8_ends_38 : decode cX8_ends 38 = .ok (.aload_n 0, 1) := by decide +kernel
theorem dX8_ends_39 : decode cX8_ends 39 = .ok (.iload_n 1, 1) := by decide +kernel
theorem dX8_ends_40 : decode cX8_ends 40 = .ok (.sipush (-10006), 3) := by decide +kernel
theorem dX8_ends_43 : decode cX8_ends 43 = .ok (.invokevirtual 49, 3) := by decide +kernel
theorem dX8_ends_46 : decode cX8_ends 46 = .ok (.iinc 1 1, 3) := by decide +kernel
theorem dX8_ends_49 : decode cX8_ends 49 = .ok (.goto (-21), 3) := by decide +kernel
theorem dX8_ends_52 : decode cX8_ends 52 = .ok (.iconst 0, 1) := by decide +kernel
theorem dX8_ends_53 : decode cX8_ends 53 = .ok (.istore_n 1, 1) := by decide +kernel
theorem dX8_ends_54 : decode cX8_ends 54 = .ok (.iload_n 1, 1) := by decide +kernel
theorem dX8_ends_55 : decode cX8_ends 55 = .ok (.bipush 16, 2) := by decide +kernel
theorem dX8_ends_57 : decode cX8_ends 57 = .ok (.if_icmp .ge 74, 3) := by decide +kernel
theorem dX8_ends_60 : decode cX8_ends 60 = .ok (.aload_n 0, 1) := by decide +kernel
theorem dX8_ends_61 : decode cX8_ends 61 = .ok (.iload_n 1, 1) := by decide +kernel
theorem dX8_ends_62 : decode cX8_ends 62 = .ok (.invokevirtual 59, 3) := by decide +kernel
theorem dX8_ends_65 : decode cX8_ends 65 = .ok (.ifCond .eq 60, 3) := by decide +kernel
theorem dX8_ends_68 : decode cX8_ends 68 = .ok (.aload_n 0, 1) := by decide +kernel
theorem dX8_ends_69 : decode cX8_ends 69 = .ok (.getfield 7, 3) := by decide +kernel
theorem dX8_ends_72 : decode cX8_ends 72 = .ok (.iconst 2, 1) := by decide +kernel
theorem dX8_ends_73 : decode cX8_ends 73 = .ok (.iaload, 1) := by decide +kernel
theorem dX8_ends_74 : decode cX8_ends 74 = .ok (.ifCond .le 51, 3) := by decide +kernel
theorem dX8_ends_77 : decode cX8_ends 77 = .ok (.aload_n 0, 1) := by decide +kernel
theorem dX8_ends_78 : decode cX8_ends 78 = .ok (.getfield 7, 3) := by decide +kernel
theorem dX8_ends_81 : decode cX8_ends 81 = .ok (.iconst 5, 1) := by decide +kernel
theorem dX8_ends_82 : decode cX8_ends 82 = .ok (.iaload, 1) := by decide +kernel
theorem dX8_ends_83 : decode cX8_ends 83 = .ok (.aload_n 0, 1) := by decide +kernel
theorem dX8_ends_84 : decode cX8_ends 84 = .ok (.iload_n 1, 1) := by decide +kernel
theorem dX8_ends_85 : decode cX8_ends 85 = .ok (.iconst 2, 1) := by decide +kernel
theorem dX8_ends_86 : decode cX8_ends 86 = .ok (.invokevirtual 30, 3) := by decide +kernel
theorem dX8_ends_89 : decode cX8_ends 89 = .ok (.isub, 1) := by decide +kernel
theorem dX8_ends_90 : decode cX8_ends 90 = .ok (.aload_n 0, 1) := by decide +kernel
theorem dX8_ends_91 : decode cX8_ends 91 = .ok (.getfield 7, 3) := by decide +kernel
theorem dX8_ends_94 : decode cX8_ends 94 = .ok (.iconst 2, 1) := by decide +kernel
theorem dX8_ends_95 : decode cX8_ends 95 = .ok (.iaload, 1) := by decide +kernel
theorem dX8_ends_96 : decode cX8_ends 96 = .ok (.if_icmp .lt 29, 3) := by decide +kernel
theorem dX8_ends_99 : decode cX8_ends 99 = .ok (.aload_n 0, 1) := by decide +kernel
theorem dX8_ends_100 : decode cX8_ends 100 = .ok (.getfield 7, 3) := by decide +kernel
theorem dX8_ends_103 : decode cX8_ends 103 = .ok (.bipush 60, 2) := by decide +kernel
theorem dX8_ends_105 : decode cX8_ends 105 = .ok (.iconst 3, 1) := by decide +kernel
theorem dX8_ends_106 : decode cX8_ends 106 = .ok (.iload_n 1, 1) := by decide +kernel
theorem dX8_ends_107 : decode cX8_ends 107 = .ok (.imul, 1) := by decide +kernel
theorem dX8_ends_108 : decode cX8_ends 108 = .ok (.iadd, 1) := by decide +kernel
theorem dX8_ends_109 : decode cX8_ends 109 = .ok (.iconst 0, 1) := by decide +kernel
theorem dX8_ends_110 : decode cX8_ends 110 = .ok (.iastore, 1) := by decide +kernel
theorem dX8_ends_111 : decode cX8_ends 111 = .ok (.aload_n 0, 1) := by decide +kernel
theorem dX8_ends_112 : decode cX8_ends 112 = .ok (.getfield 7, 3) := by decide +kernel
theorem dX8_ends_115 : decode cX8_ends 115 = .ok (.bipush 60, 2) := by decide +kernel
theorem dX8_ends_117 : decode cX8_ends 117 = .ok (.iconst 3, 1) := by decide +kernel
theorem dX8_ends_118 : decode cX8_ends 118 = .ok (.iload_n 1, 1) := by decide +kernel
theorem dX8_ends_119 : decode cX8_ends 119 = .ok (.imul, 1) := by decide +kernel
theorem dX8_ends_120 : decode cX8_ends 120 = .ok (.iadd, 1) := by decide +kernel
theorem dX8_ends_121 : decode cX8_ends 121 = .ok (.iconst 1, 1) := by decide +kernel
theorem dX8_ends_122 : decode cX8_ends 122 = .ok (.iadd, 1) := by decide +kernel
theorem dX8_ends_123 : decode cX8_ends 123 = .ok (.iconst 0, 1) := by decide +kernel
theorem dX8_ends_124 : decode cX8_ends 124 = .ok (.iastore, 1) := by decide +kernel
theorem dX8_ends_125 : decode cX8_ends 125 = .ok (.iinc 1 1, 3) := by decide +kernel
theorem dX8_ends_128 : decode cX8_ends 128 = .ok (.goto (-74), 3) := by decide +kernel
theorem dX8_ends_131 : decode cX8_ends 131 = .ok (.return_, 1) := by decide +kernel
theorem dX8_endsIfEmpty_0 : decode cX8_endsIfEmpty 0 = .ok (.aload_n 0, 1) := by decide +kernel
theorem dX8_endsIfEmpty_1 : decode cX8_endsIfEmpty 1 = .ok (.invokevirtual 89, 3) := by decide +kernel
theorem dX8_endsIfEmpty_4 : decode cX8_endsIfEmpty 4 = .ok (.ifCond .ne 7, 3) := by decide +kernel
theorem dX8_endsIfEmpty_7 : decode cX8_endsIfEmpty 7 = .ok (.aload_n 0, 1) := by decide +kernel
theorem dX8_endsIfEmpty_8 : decode cX8_endsIfEmpty 8 = .ok (.invokevirtual 93, 3) := by decide +kernel
theorem dX8_endsIfEmpty_11 : decode cX8_endsIfEmpty 11 = .ok (.return_, 1) := by decide +kernel
theorem dX8_seeks_0 : decode cX8_seeks 0 = .ok (.aload_n 0, 1) := by decide +kernel
theorem dX8_seeks_1 : decode cX8_seeks 1 = .ok (.invokevirtual 89, 3) := by decide +kernel
theorem dX8_seeks_4 : decode cX8_seeks 4 = .ok (.istore_n 1, 1) := by decide +kernel
theorem dX8_seeks_5 : decode cX8_seeks 5 = .ok (.aload_n 0, 1) := by decide +kernel
theorem dX8_seeks_6 : decode cX8_seeks 6 = .ok (.getfield 7, 3) := by decide +kernel
theorem dX8_seeks_9 : decode cX8_seeks 9 = .ok (.bipush 6, 2) := by decide +kernel
theorem dX8_seeks_11 : decode cX8_seeks 11 = .ok (.iconst 2, 1) := by decide +kernel
theorem dX8_seeks_12 : decode cX8_seeks 12 = .ok (.iastore, 1) := by decide +kernel
theorem dX8_seeks_13 : decode cX8_seeks 13 = .ok (.aload_n 0, 1) := by decide +kernel
theorem dX8_seeks_14 : decode cX8_seeks 14 = .ok (.invokevirtual 96, 3) := by decide +kernel
theorem dX8_seeks_17 : decode cX8_seeks 17 = .ok (.iload_n 1, 1) := by decide +kernel
theorem dX8_seeks_18 : decode cX8_seeks 18 = .ok (.ireturn, 1) := by decide +kernel
theorem dX8_seek_0 : decode cX8_seek 0 = .ok (.aload_n 0, 1) := by decide +kernel
theorem dX8_seek_1 : decode cX8_seek 1 = .ok (.getfield 7, 3) := by decide +kernel
theorem dX8_seek_4 : decode cX8_seek 4 = .ok (.bipush 6, 2) := by decide +kernel
theorem dX8_seek_6 : decode cX8_seek 6 = .ok (.iaload, 1) := by decide +kernel
theorem dX8_seek_7 : decode cX8_seek 7 = .ok (.iconst 1, 1) := by decide +kernel
theorem dX8_seek_8 : decode cX8_seek 8 = .ok (.if_icmp .eq 7, 3) := by decide +kernel
theorem dX8_seek_11 : decode cX8_seek 11 = .ok (.sipush (-10003), 3) := by decide +kernel
theorem dX8_seek_14 : decode cX8_seek 14 = .ok (.ireturn, 1) := by decide +kernel
theorem dX8_seek_15 : decode cX8_seek 15 = .ok (.aload_n 0, 1) := by decide +kernel
theorem dX8_seek_16 : decode cX8_seek 16 = .ok (.invokevirtual 42, 3) := by decide +kernel
theorem dX8_seek_19 : decode cX8_seek 19 = .ok (.aload_n 0, 1) := by decide +kernel
theorem dX8_seek_20 : decode cX8_seek 20 = .ok (.invokevirtual 99, 3) := by decide +kernel
theorem dX8_seek_23 : decode cX8_seek 23 = .ok (.ireturn, 1) := by decide +kernel
theorem dX8_walks_0 : decode cX8_walks 0 = .ok (.aload_n 0, 1) := by decide +kernel
theorem dX8_walks_1 : decode cX8_walks 1 = .ok (.getfield 7, 3) := by decide +kernel
theorem dX8_walks_4 : decode cX8_walks 4 = .ok (.bipush 9, 2) := by decide +kernel
theorem dX8_walks_6 : decode cX8_walks 6 = .ok (.aload_n 0, 1) := by decide +kernel
theorem dX8_walks_7 : decode cX8_walks 7 = .ok (.getfield 7, 3) := by decide +kernel
theorem dX8_walks_10 : decode cX8_walks 10 = .ok (.bipush 9, 2) := by decide +kernel
theorem dX8_walks_12 : decode cX8_walks 12 = .ok (.iaload, 1) := by decide +kernel
theorem dX8_walks_13 : decode cX8_walks 13 = .ok (.iload_n 1, 1) := by decide +kernel
theorem dX8_walks_14 : decode cX8_walks 14 = .ok (.iadd, 1) := by decide +kernel
theorem dX8_walks_15 : decode cX8_walks 15 = .ok (.bipush 16, 2) := by decide +kernel
theorem dX8_walks_17 : decode cX8_walks 17 = .ok (.iadd, 1) := by decide +kernel
theorem dX8_walks_18 : decode cX8_walks 18 = .ok (.bipush 16, 2) := by decide +kernel
theorem dX8_walks_20 : decode cX8_walks 20 = .ok (.irem, 1) := by decide +kernel
theorem dX8_walks_21 : decode cX8_walks 21 = .ok (.iastore, 1) := by decide +kernel
theorem dX8_walks_22 : decode cX8_walks 22 = .ok (.aload_n 0, 1) := by decide +kernel
theorem dX8_walks_23 : decode cX8_walks 23 = .ok (.getfield 7, 3) := by decide +kernel
theorem dX8_walks_26 : decode cX8_walks 26 = .ok (.bipush 9, 2) := by decide +kernel
theorem dX8_walks_28 : decode cX8_walks 28 = .ok (.iaload, 1) := by decide +kernel
theorem dX8_walks_29 : decode cX8_walks 29 = .ok (.ireturn, 1) := by decide +kernel
theorem dX8_walk_0 : decode cX8_walk 0 = .ok (.iload_n 1, 1) := by decide +kernel
theorem dX8_walk_1 : decode cX8_walk 1 = .ok (.iconst (-1), 1) := by decide +kernel
theorem dX8_walk_2 : decode cX8_walk 2 = .ok (.iconst 1, 1) := by decide +kernel
theorem dX8_walk_3 : decode cX8_walk 3 = .ok (.invokestatic 26, 3) := by decide +kernel
theorem dX8_walk_6 : decode cX8_walk 6 = .ok (.ifCond .ne 7, 3) := by decide +kernel
theorem dX8_walk_9 : decode cX8_walk 9 = .ok (.sipush (-10002), 3) := by decide +kernel
theorem dX8_walk_12 : decode cX8_walk 12 = .ok (.ireturn, 1) := by decide +kernel
theorem dX8_walk_13 : decode cX8_walk 13 = .ok (.aload_n 0, 1) := by decide +kernel
theorem dX8_walk_14 : decode cX8_walk 14 = .ok (.getfield 7, 3) := by decide +kernel
theorem dX8_walk_17 : decode cX8_walk 17 = .ok (.bipush 6, 2) := by decide +kernel
theorem dX8_walk_19 : decode cX8_walk 19 = .ok (.iaload, 1) := by decide +kernel
theorem dX8_walk_20 : decode cX8_walk 20 = .ok (.iconst 2, 1) := by decide +kernel
theorem dX8_walk_21 : decode cX8_walk 21 = .ok (.if_icmp .eq 7, 3) := by decide +kernel
theorem dX8_walk_24 : decode cX8_walk 24 = .ok (.sipush (-10003), 3) := by decide +kernel
theorem dX8_walk_27 : decode cX8_walk 27 = .ok (.ireturn, 1) := by decide +kernel
theorem dX8_walk_28 : decode cX8_walk 28 = .ok (.aload_n 0, 1) := by decide +kernel
theorem dX8_walk_29 : decode cX8_walk 29 = .ok (.invokevirtual 42, 3) := by decide +kernel
theorem dX8_walk_32 : decode cX8_walk 32 = .ok (.aload_n 0, 1) := by decide +kernel
theorem dX8_walk_33 : decode cX8_walk 33 = .ok (.iload_n 1, 1) := by decide +kernel
theorem dX8_walk_34 : decode cX8_walk 34 = .ok (.invokevirtual 102, 3) := by decide +kernel
theorem dX8_walk_37 : decode cX8_walk 37 = .ok (.ireturn, 1) := by decide +kernel
theorem dX8_whyNotCry_0 : decode cX8_whyNotCry 0 = .ok (.aload_n 0, 1) := by decide +kernel
theorem dX8_whyNotCry_1 : decode cX8_whyNotCry 1 = .ok (.iload_n 1, 1) := by decide +kernel
theorem dX8_whyNotCry_2 : decode cX8_whyNotCry 2 = .ok (.invokevirtual 73, 3) := by decide +kernel
theorem dX8_whyNotCry_5 : decode cX8_whyNotCry 5 = .ok (.ifCond .eq 10, 3) := by decide +kernel
theorem dX8_whyNotCry_8 : decode cX8_whyNotCry 8 = .ok (.iload_n 2, 1) := by decide +kernel
theorem dX8_whyNotCry_9 : decode cX8_whyNotCry 9 = .ok (.invokestatic 83, 3) := by decide +kernel
theorem dX8_whyNotCry_12 : decode cX8_whyNotCry 12 = .ok (.ifCond .ne 7, 3) := by decide +kernel
theorem dX8_whyNotCry_15 : decode cX8_whyNotCry 15 = .ok (.sipush (-10001), 3) := by decide +kernel
theorem dX8_whyNotCry_18 : decode cX8_whyNotCry 18 = .ok (.ireturn, 1) := by decide +kernel
theorem dX8_whyNotCry_19 : decode cX8_whyNotCry 19 = .ok (.aload_n 0, 1) := by decide +kernel
theorem dX8_whyNotCry_20 : decode cX8_whyNotCry 20 = .ok (.getfield 7, 3) := by decide +kernel
theorem dX8_whyNotCry_23 : decode cX8_whyNotCry 23 = .ok (.bipush 6, 2) := by decide +kernel
theorem dX8_whyNotCry_25 : decode cX8_whyNotCry 25 = .ok (.iaload, 1) := by decide +kernel
theorem dX8_whyNotCry_26 : decode cX8_whyNotCry 26 = .ok (.iconst 2, 1) := by decide +kernel
theorem dX8_whyNotCry_27 : decode cX8_whyNotCry 27 = .ok (.if_icmp .ne 34, 3) := by decide +kernel
theorem dX8_whyNotCry_30 : decode cX8_whyNotCry 30 = .ok (.iload_n 1, 1) := by decide +kernel
theorem dX8_whyNotCry_31 : decode cX8_whyNotCry 31 = .ok (.aload_n 0, 1) := by decide +kernel
theorem dX8_whyNotCry_32 : decode cX8_whyNotCry 32 = .ok (.getfield 7, 3) := by decide +kernel
theorem dX8_whyNotCry_35 : decode cX8_whyNotCry 35 = .ok (.bipush 7, 2) := by decide +kernel
theorem dX8_whyNotCry_37 : decode cX8_whyNotCry 37 = .ok (.iaload, 1) := by decide +kernel
theorem dX8_whyNotCry_38 : decode cX8_whyNotCry 38 = .ok (.if_icmp .eq 23, 3) := by decide +kernel
theorem dX8_whyNotCry_41 : decode cX8_whyNotCry 41 = .ok (.iload_n 2, 1) := by decide +kernel
theorem dX8_whyNotCry_42 : decode cX8_whyNotCry 42 = .ok (.aload_n 0, 1) := by decide +kernel
theorem dX8_whyNotCry_43 : decode cX8_whyNotCry 43 = .ok (.getfield 7, 3) := by decide +kernel
theorem dX8_whyNotCry_46 : decode cX8_whyNotCry 46 = .ok (.bipush 9, 2) := by decide +kernel
theorem dX8_whyNotCry_48 : decode cX8_whyNotCry 48 = .ok (.iaload, 1) := by decide +kernel
theorem dX8_whyNotCry_49 : decode cX8_whyNotCry 49 = .ok (.invokestatic 56, 3) := by decide +kernel
theorem dX8_whyNotCry_52 : decode cX8_whyNotCry 52 = .ok (.aload_n 0, 1) := by decide +kernel
theorem dX8_whyNotCry_53 : decode cX8_whyNotCry 53 = .ok (.getfield 7, 3) := by decide +kernel
theorem dX8_whyNotCry_56 : decode cX8_whyNotCry 56 = .ok (.iconst 0, 1) := by decide +kernel
theorem dX8_whyNotCry_57 : decode cX8_whyNotCry 57 = .ok (.iaload, 1) := by decide +kernel
theorem dX8_whyNotCry_58 : decode cX8_whyNotCry 58 = .ok (.if_icmp .le 9, 3) := by decide +kernel
theorem dX8_whyNotCry_61 : decode cX8_whyNotCry 61 = .ok (.sipush (-10003), 3) := by decide +kernel
theorem dX8_whyNotCry_64 : decode cX8_whyNotCry 64 = .ok (.goto 4, 3) := by decide +kernel
theorem dX8_whyNotCry_67 : decode cX8_whyNotCry 67 = .ok (.iconst 0, 1) := by decide +kernel
theorem dX8_whyNotCry_68 : decode cX8_whyNotCry 68 = .ok (.ireturn, 1) := by decide +kernel
theorem dX8_finds_0 : decode cX8_finds 0 = .ok (.aload_n 0, 1) := by decide +kernel
theorem dX8_finds_1 : decode cX8_finds 1 = .ok (.getfield 7, 3) := by decide +kernel
theorem dX8_finds_4 : decode cX8_finds 4 = .ok (.bipush 60, 2) := by decide +kernel
theorem dX8_finds_6 : decode cX8_finds 6 = .ok (.iconst 3, 1) := by decide +kernel
theorem dX8_finds_7 : decode cX8_finds 7 = .ok (.iload_n 1, 1) := by decide +kernel
theorem dX8_finds_8 : decode cX8_finds 8 = .ok (.imul, 1) := by decide +kernel
theorem dX8_finds_9 : decode cX8_finds 9 = .ok (.iadd, 1) := by decide +kernel
theorem dX8_finds_10 : decode cX8_finds 10 = .ok (.dup2, 1) := by decide +kernel
theorem dX8_finds_11 : decode cX8_finds 11 = .ok (.iaload, 1) := by decide +kernel
theorem dX8_finds_12 : decode cX8_finds 12 = .ok (.iconst 1, 1) := by decide +kernel
theorem dX8_finds_13 : decode cX8_finds 13 = .ok (.iadd, 1) := by decide +kernel
theorem dX8_finds_14 : decode cX8_finds 14 = .ok (.iastore, 1) := by decide +kernel
theorem dX8_finds_15 : decode cX8_finds 15 = .ok (.aload_n 0, 1) := by decide +kernel
theorem dX8_finds_16 : decode cX8_finds 16 = .ok (.iload_n 1, 1) := by decide +kernel
theorem dX8_finds_17 : decode cX8_finds 17 = .ok (.invokevirtual 59, 3) := by decide +kernel
theorem dX8_finds_20 : decode cX8_finds 20 = .ok (.ifCond .ne 51, 3) := by decide +kernel
theorem dX8_finds_23 : decode cX8_finds 23 = .ok (.aload_n 0, 1) := by decide +kernel
theorem dX8_finds_24 : decode cX8_finds 24 = .ok (.iload_n 1, 1) := by decide +kernel
theorem dX8_finds_25 : decode cX8_finds 25 = .ok (.iconst 0, 1) := by decide +kernel
theorem dX8_finds_26 : decode cX8_finds 26 = .ok (.invokevirtual 30, 3) := by decide +kernel
theorem dX8_finds_29 : decode cX8_finds 29 = .ok (.aload_n 0, 1) := by decide +kernel
theorem dX8_finds_30 : decode cX8_finds 30 = .ok (.getfield 7, 3) := by decide +kernel
theorem dX8_finds_33 : decode cX8_finds 33 = .ok (.iconst 1, 1) := by decide +kernel
theorem dX8_finds_34 : decode cX8_finds 34 = .ok (.iaload, 1) := by decide +kernel
theorem dX8_finds_35 : decode cX8_finds 35 = .ok (.if_icmp .lt 36, 3) := by decide +kernel
theorem dX8_finds_38 : decode cX8_finds 38 = .ok (.aload_n 0, 1) := by decide +kernel
theorem dX8_finds_39 : decode cX8_finds 39 = .ok (.getfield 7, 3) := by decide +kernel
theorem dX8_finds_42 : decode cX8_finds 42 = .ok (.bipush 60, 2) := by decide +kernel
theorem dX8_finds_44 : decode cX8_finds 44 = .ok (.iconst 3, 1) := by decide +kernel
theorem dX8_finds_45 : decode cX8_finds 45 = .ok (.iload_n 1, 1) := by decide +kernel
theorem dX8_finds_46 : decode cX8_finds 46 = .ok (.imul, 1) := by decide +kernel
theorem dX8_finds_47 : decode cX8_finds 47 = .ok (.iadd, 1) := by decide +kernel
theorem dX8_finds_48 : decode cX8_finds 48 = .ok (.iconst 1, 1) := by decide +kernel
theorem dX8_finds_49 : decode cX8_finds 49 = .ok (.iadd, 1) := by decide +kernel
theorem dX8_finds_50 : decode cX8_finds 50 = .ok (.iconst 1, 1) := by decide +kernel
theorem dX8_finds_51 : decode cX8_finds 51 = .ok (.iastore, 1) := by decide +kernel
theorem dX8_finds_52 : decode cX8_finds 52 = .ok (.aload_n 0, 1) := by decide +kernel
theorem dX8_finds_53 : decode cX8_finds 53 = .ok (.getfield 7, 3) := by decide +kernel
theorem dX8_finds_56 : decode cX8_finds 56 = .ok (.bipush 60, 2) := by decide +kernel
theorem dX8_finds_58 : decode cX8_finds 58 = .ok (.iconst 3, 1) := by decide +kernel
theorem dX8_finds_59 : decode cX8_finds 59 = .ok (.iload_n 1, 1) := by decide +kernel
theorem dX8_finds_60 : decode cX8_finds 60 = .ok (.imul, 1) := by decide +kernel
theorem dX8_finds_61 : decode cX8_finds 61 = .ok (.iadd, 1) := by decide +kernel
theorem dX8_finds_62 : decode cX8_finds 62 = .ok (.iconst 2, 1) := by decide +kernel
theorem dX8_finds_63 : decode cX8_finds 63 = .ok (.iadd, 1) := by decide +kernel
theorem dX8_finds_64 : decode cX8_finds 64 = .ok (.aload_n 0, 1) := by decide +kernel
theorem dX8_finds_65 : decode cX8_finds 65 = .ok (.getfield 7, 3) := by decide +kernel
theorem dX8_finds_68 : decode cX8_finds 68 = .ok (.iconst 5, 1) := by decide +kernel
theorem dX8_finds_69 : decode cX8_finds 69 = .ok (.iaload, 1) := by decide +kernel
theorem dX8_finds_70 : decode cX8_finds 70 = .ok (.iastore, 1) := by decide +kernel
theorem dX8_finds_71 : decode cX8_finds 71 = .ok (.return_, 1) := by decide +kernel
theorem dX8_escapes_0 : decode cX8_escapes 0 = .ok (.aload_n 0, 1) := by decide +kernel
theorem dX8_escapes_1 : decode cX8_escapes 1 = .ok (.iload_n 1, 1) := by decide +kernel
theorem dX8_escapes_2 : decode cX8_escapes 2 = .ok (.sipush (-10006), 3) := by decide +kernel
theorem dX8_escapes_5 : decode cX8_escapes 5 = .ok (.invokevirtual 49, 3) := by decide +kernel
theorem dX8_escapes_8 : decode cX8_escapes 8 = .ok (.aload_n 0, 1) := by decide +kernel
theorem dX8_escapes_9 : decode cX8_escapes 9 = .ok (.iload_n 1, 1) := by decide +kernel
theorem dX8_escapes_10 : decode cX8_escapes 10 = .ok (.iconst 0, 1) := by decide +kernel
theorem dX8_escapes_11 : decode cX8_escapes 11 = .ok (.iload_n 2, 1) := by decide +kernel
theorem dX8_escapes_12 : decode cX8_escapes 12 = .ok (.invokevirtual 76, 3) := by decide +kernel
theorem dX8_escapes_15 : decode cX8_escapes 15 = .ok (.aload_n 0, 1) := by decide +kernel
theorem dX8_escapes_16 : decode cX8_escapes 16 = .ok (.iload_n 1, 1) := by decide +kernel
theorem dX8_escapes_17 : decode cX8_escapes 17 = .ok (.iconst 4, 1) := by decide +kernel
theorem dX8_escapes_18 : decode cX8_escapes 18 = .ok (.iconst 1, 1) := by decide +kernel
theorem dX8_escapes_19 : decode cX8_escapes 19 = .ok (.invokevirtual 76, 3) := by decide +kernel
theorem dX8_escapes_22 : decode cX8_escapes 22 = .ok (.return_, 1) := by decide +kernel
theorem dX8_cries_0 : decode cX8_cries 0 = .ok (.aload_n 0, 1) := by decide +kernel
theorem dX8_cries_1 : decode cX8_cries 1 = .ok (.getfield 7, 3) := by decide +kernel
theorem dX8_cries_4 : decode cX8_cries 4 = .ok (.bipush 7, 2) := by decide +kernel
theorem dX8_cries_6 : decode cX8_cries 6 = .ok (.iaload, 1) := by decide +kernel
theorem dX8_cries_7 : decode cX8_cries 7 = .ok (.istore_n 3, 1) := by decide +kernel
theorem dX8_cries_8 : decode cX8_cries 8 = .ok (.aload_n 0, 1) := by decide +kernel
theorem dX8_cries_9 : decode cX8_cries 9 = .ok (.iload_n 1, 1) := by decide +kernel
theorem dX8_cries_10 : decode cX8_cries 10 = .ok (.iconst 5, 1) := by decide +kernel
theorem dX8_cries_11 : decode cX8_cries 11 = .ok (.invokevirtual 53, 3) := by decide +kernel
theorem dX8_cries_14 : decode cX8_cries 14 = .ok (.iload_n 2, 1) := by decide +kernel
theorem dX8_cries_15 : decode cX8_cries 15 = .ok (.if_icmp .ne 36, 3) := by decide +kernel
theorem dX8_cries_18 : decode cX8_cries 18 = .ok (.aload_n 0, 1) := by decide +kernel
theorem dX8_cries_19 : decode cX8_cries 19 = .ok (.iload_n 1, 1) := by decide +kernel
theorem dX8_cries_20 : decode cX8_cries 20 = .ok (.sipush (-10006), 3) := by decide +kernel
theorem dX8_cries_23 : decode cX8_cries 23 = .ok (.invokevirtual 49, 3) := by decide +kernel
theorem dX8_cries_26 : decode cX8_cries 26 = .ok (.aload_n 0, 1) := by decide +kernel
theorem dX8_cries_27 : decode cX8_cries 27 = .ok (.iload_n 3, 1) := by decide +kernel
theorem dX8_cries_28 : decode cX8_cries 28 = .ok (.iconst 0, 1) := by decide +kernel
theorem dX8_cries_29 : decode cX8_cries 29 = .ok (.iconst 2, 1) := by decide +kernel
theorem dX8_cries_30 : decode cX8_cries 30 = .ok (.invokevirtual 76, 3) := by decide +kernel
theorem dX8_cries_33 : decode cX8_cries 33 = .ok (.aload_n 0, 1) := by decide +kernel
theorem dX8_cries_34 : decode cX8_cries 34 = .ok (.iload_n 3, 1) := by decide +kernel
theorem dX8_cries_35 : decode cX8_cries 35 = .ok (.iconst 2, 1) := by decide +kernel
theorem dX8_cries_36 : decode cX8_cries 36 = .ok (.iconst 1, 1) := by decide +kernel
theorem dX8_cries_37 : decode cX8_cries 37 = .ok (.invokevirtual 76, 3) := by decide +kernel
theorem dX8_cries_40 : decode cX8_cries 40 = .ok (.aload_n 0, 1) := by decide +kernel
theorem dX8_cries_41 : decode cX8_cries 41 = .ok (.iload_n 2, 1) := by decide +kernel
theorem dX8_cries_42 : decode cX8_cries 42 = .ok (.invokevirtual 105, 3) := by decide +kernel
theorem dX8_cries_45 : decode cX8_cries 45 = .ok (.aload_n 0, 1) := by decide +kernel
theorem dX8_cries_46 : decode cX8_cries 46 = .ok (.invokevirtual 96, 3) := by decide +kernel
theorem dX8_cries_49 : decode cX8_cries 49 = .ok (.iconst 1, 1) := by decide +kernel
theorem dX8_cries_50 : decode cX8_cries 50 = .ok (.ireturn, 1) := by decide +kernel
theorem dX8_cries_51 : decode cX8_cries 51 = .ok (.aload_n 0, 1) := by decide +kernel
theorem dX8_cries_52 : decode cX8_cries 52 = .ok (.iload_n 3, 1) := by decide +kernel
theorem dX8_cries_53 : decode cX8_cries 53 = .ok (.iconst 0, 1) := by decide +kernel
theorem dX8_cries_54 : decode cX8_cries 54 = .ok (.iconst (-1), 1) := by decide +kernel
theorem dX8_cries_55 : decode cX8_cries 55 = .ok (.invokevirtual 76, 3) := by decide +kernel
theorem dX8_cries_58 : decode cX8_cries 58 = .ok (.aload_n 0, 1) := by decide +kernel
theorem dX8_cries_59 : decode cX8_cries 59 = .ok (.iload_n 3, 1) := by decide +kernel
theorem dX8_cries_60 : decode cX8_cries 60 = .ok (.iconst 3, 1) := by decide +kernel
theorem dX8_cries_61 : decode cX8_cries 61 = .ok (.iconst 1, 1) := by decide +kernel
theorem dX8_cries_62 : decode cX8_cries 62 = .ok (.invokevirtual 76, 3) := by decide +kernel
theorem dX8_cries_65 : decode cX8_cries 65 = .ok (.aload_n 0, 1) := by decide +kernel
theorem dX8_cries_66 : decode cX8_cries 66 = .ok (.getfield 7, 3) := by decide +kernel
theorem dX8_cries_69 : decode cX8_cries 69 = .ok (.bipush 10, 2) := by decide +kernel
theorem dX8_cries_71 : decode cX8_cries 71 = .ok (.dup2, 1) := by decide +kernel
theorem dX8_cries_72 : decode cX8_cries 72 = .ok (.iaload, 1) := by decide +kernel
theorem dX8_cries_73 : decode cX8_cries 73 = .ok (.iconst 1, 1) := by decide +kernel
theorem dX8_cries_74 : decode cX8_cries 74 = .ok (.iadd, 1) := by decide +kernel
theorem dX8_cries_75 : decode cX8_cries 75 = .ok (.iastore, 1) := by decide +kernel
theorem dX8_cries_76 : decode cX8_cries 76 = .ok (.aload_n 0, 1) := by decide +kernel
theorem dX8_cries_77 : decode cX8_cries 77 = .ok (.getfield 7, 3) := by decide +kernel
theorem dX8_cries_80 : decode cX8_cries 80 = .ok (.bipush 10, 2) := by decide +kernel
theorem dX8_cries_82 : decode cX8_cries 82 = .ok (.iaload, 1) := by decide +kernel
theorem dX8_cries_83 : decode cX8_cries 83 = .ok (.aload_n 0, 1) := by decide +kernel
theorem dX8_cries_84 : decode cX8_cries 84 = .ok (.getfield 7, 3) := by decide +kernel
theorem dX8_cries_87 : decode cX8_cries 87 = .ok (.iconst 3, 1) := by decide +kernel
theorem dX8_cries_88 : decode cX8_cries 88 = .ok (.iaload, 1) := by decide +kernel
theorem dX8_cries_89 : decode cX8_cries 89 = .ok (.if_icmp .lt 47, 3) := by decide +kernel
theorem dX8_cries_92 : decode cX8_cries 92 = .ok (.iconst 0, 1) := by decide +kernel
theorem dX8_cries_93 : decode cX8_cries 93 = .ok (.istore 4, 2) := by decide +kernel
theorem dX8_cries_95 : decode cX8_cries 95 = .ok (.iload 4, 2) := by decide +kernel
theorem dX8_cries_97 : decode cX8_cries 97 = .ok (.aload_n 0, 1) := by decide +kernel
theorem dX8_cries_98 : decode cX8_cries 98 = .ok (.getfield 7, 3) := by decide +kernel
theorem dX8_cries_101 : decode cX8_cries 101 = .ok (.iconst 4, 1) := by decide +kernel
theorem dX8_cries_102 : decode cX8_cries 102 = .ok (.iaload, 1) := by decide +kernel
theorem dX8_cries_103 : decode cX8_cries 103 = .ok (.if_icmp .ge 29, 3) := by decide +kernel
theorem dX8_cries_106 : decode cX8_cries 106 = .ok (.aload_n 0, 1) := by decide +kernel
theorem dX8_cries_107 : decode cX8_cries 107 = .ok (.iload 4, 2) := by decide +kernel
theorem dX8_cries_109 : decode cX8_cries 109 = .ok (.iconst 5, 1) := by decide +kernel
theorem dX8_cries_110 : decode cX8_cries 110 = .ok (.invokevirtual 53, 3) := by decide +kernel
theorem dX8_cries_113 : decode cX8_cries 113 = .ok (.sipush (-10006), 3) := by decide +kernel
theorem dX8_cries_116 : decode cX8_cries 116 = .ok (.if_icmp .eq 10, 3) := by decide +kernel
theorem dX8_cries_119 : decode cX8_cries 119 = .ok (.aload_n 0, 1) := by decide +kernel
theorem dX8_cries_120 : decode cX8_cries 120 = .ok (.iload 4, 2) := by decide +kernel
theorem dX8_cries_122 : decode cX8_cries 122 = .ok (.iconst 1, 1) := by decide +kernel
theorem dX8_cries_123 : decode cX8_cries 123 = .ok (.invokevirtual 109, 3) := by decide +kernel
theorem dX8_cries_126 : decode cX8_cries 126 = .ok (.iinc 4 1, 3) := by decide +kernel
theorem dX8_cries_129 : decode cX8_cries 129 = .ok (.goto (-34), 3) := by decide +kernel
theorem dX8_cries_132 : decode cX8_cries 132 = .ok (.aload_n 0, 1) := by decide +kernel
theorem dX8_cries_133 : decode cX8_cries 133 = .ok (.invokevirtual 93, 3) := by decide +kernel
theorem dX8_cries_136 : decode cX8_cries 136 = .ok (.iconst 0, 1) := by decide +kernel
theorem dX8_cries_137 : decode cX8_cries 137 = .ok (.ireturn, 1) := by decide +kernel
theorem dX8_cry_0 : decode cX8_cry 0 = .ok (.aload_n 0, 1) := by decide +kernel
theorem dX8_cry_1 : decode cX8_cry 1 = .ok (.iload_n 1, 1) := by decide +kernel
theorem dX8_cry_2 : decode cX8_cry 2 = .ok (.iload_n 2, 1) := by decide +kernel
theorem dX8_cry_3 : decode cX8_cry 3 = .ok (.invokevirtual 112, 3) := by decide +kernel
theorem dX8_cry_6 : decode cX8_cry 6 = .ok (.istore_n 3, 1) := by decide +kernel
theorem dX8_cry_7 : decode cX8_cry 7 = .ok (.iload_n 3, 1) := by decide +kernel
theorem dX8_cry_8 : decode cX8_cry 8 = .ok (.ifCond .ge 5, 3) := by decide +kernel
theorem dX8_cry_11 : decode cX8_cry 11 = .ok (.iload_n 3, 1) := by decide +kernel
theorem dX8_cry_12 : decode cX8_cry 12 = .ok (.ireturn, 1) := by decide +kernel
theorem dX8_cry_13 : decode cX8_cry 13 = .ok (.aload_n 0, 1) := by decide +kernel
theorem dX8_cry_14 : decode cX8_cry 14 = .ok (.invokevirtual 42, 3) := by decide +kernel
theorem dX8_cry_17 : decode cX8_cry 17 = .ok (.aload_n 0, 1) := by decide +kernel
theorem dX8_cry_18 : decode cX8_cry 18 = .ok (.iload_n 1, 1) := by decide +kernel
theorem dX8_cry_19 : decode cX8_cry 19 = .ok (.iload_n 2, 1) := by decide +kernel
theorem dX8_cry_20 : decode cX8_cry 20 = .ok (.invokevirtual 115, 3) := by decide +kernel
theorem dX8_cry_23 : decode cX8_cry 23 = .ok (.ireturn, 1) := by decide +kernel
theorem dX8_whyNotDash_0 : decode cX8_whyNotDash 0 = .ok (.aload_n 0, 1) := by decide +kernel
theorem dX8_whyNotDash_1 : decode cX8_whyNotDash 1 = .ok (.iload_n 1, 1) := by decide +kernel
theorem dX8_whyNotDash_2 : decode cX8_whyNotDash 2 = .ok (.invokevirtual 73, 3) := by decide +kernel
theorem dX8_whyNotDash_5 : decode cX8_whyNotDash 5 = .ok (.ifCond .ne 7, 3) := by decide +kernel
theorem dX8_whyNotDash_8 : decode cX8_whyNotDash 8 = .ok (.sipush (-10001), 3) := by decide +kernel
theorem dX8_whyNotDash_11 : decode cX8_whyNotDash 11 = .ok (.ireturn, 1) := by decide +kernel
theorem dX8_whyNotDash_12 : decode cX8_whyNotDash 12 = .ok (.aload_n 0, 1) := by decide +kernel
theorem dX8_whyNotDash_13 : decode cX8_whyNotDash 13 = .ok (.getfield 7, 3) := by decide +kernel
theorem dX8_whyNotDash_16 : decode cX8_whyNotDash 16 = .ok (.bipush 6, 2) := by decide +kernel
theorem dX8_whyNotDash_18 : decode cX8_whyNotDash 18 = .ok (.iaload, 1) := by decide +kernel
theorem dX8_whyNotDash_19 : decode cX8_whyNotDash 19 = .ok (.iconst 2, 1) := by decide +kernel
theorem dX8_whyNotDash_20 : decode cX8_whyNotDash 20 = .ok (.if_icmp .ne 15, 3) := by decide +kernel
theorem dX8_whyNotDash_23 : decode cX8_whyNotDash 23 = .ok (.aload_n 0, 1) := by decide +kernel
theorem dX8_whyNotDash_24 : decode cX8_whyNotDash 24 = .ok (.iload_n 1, 1) := by decide +kernel
theorem dX8_whyNotDash_25 : decode cX8_whyNotDash 25 = .ok (.iconst 5, 1) := by decide +kernel
theorem dX8_whyNotDash_26 : decode cX8_whyNotDash 26 = .ok (.invokevirtual 53, 3) := by decide +kernel
theorem dX8_whyNotDash_29 : decode cX8_whyNotDash 29 = .ok (.sipush (-10006), 3) := by decide +kernel
theorem dX8_whyNotDash_32 : decode cX8_whyNotDash 32 = .ok (.if_icmp .ne 9, 3) := by decide +kernel
theorem dX8_whyNotDash_35 : decode cX8_whyNotDash 35 = .ok (.sipush (-10003), 3) := by decide +kernel
theorem dX8_whyNotDash_38 : decode cX8_whyNotDash 38 = .ok (.goto 4, 3) := by decide +kernel
theorem dX8_whyNotDash_41 : decode cX8_whyNotDash 41 = .ok (.iconst 0, 1) := by decide +kernel
theorem dX8_whyNotDash_42 : decode cX8_whyNotDash 42 = .ok (.ireturn, 1) := by decide +kernel
theorem dX8_isFaster_0 : decode cX8_isFaster 0 = .ok (.aload_n 0, 1) := by decide +kernel
theorem dX8_isFaster_1 : decode cX8_isFaster 1 = .ok (.iload_n 1, 1) := by decide +kernel
theorem dX8_isFaster_2 : decode cX8_isFaster 2 = .ok (.iconst 5, 1) := by decide +kernel
theorem dX8_isFaster_3 : decode cX8_isFaster 3 = .ok (.invokevirtual 53, 3) := by decide +kernel
theorem dX8_isFaster_6 : decode cX8_isFaster 6 = .ok (.iconst 0, 1) := by decide +kernel
theorem dX8_isFaster_7 : decode cX8_isFaster 7 = .ok (.invokestatic 56, 3) := by decide +kernel
theorem dX8_isFaster_10 : decode cX8_isFaster 10 = .ok (.aload_n 0, 1) := by decide +kernel
theorem dX8_isFaster_11 : decode cX8_isFaster 11 = .ok (.getfield 7, 3) := by decide +kernel
theorem dX8_isFaster_14 : decode cX8_isFaster 14 = .ok (.bipush 9, 2) := by decide +kernel
theorem dX8_isFaster_16 : decode cX8_isFaster 16 = .ok (.iaload, 1) := by decide +kernel
theorem dX8_isFaster_17 : decode cX8_isFaster 17 = .ok (.iconst 0, 1) := by decide +kernel
theorem dX8_isFaster_18 : decode cX8_isFaster 18 = .ok (.invokestatic 56, 3) := by decide +kernel
theorem dX8_isFaster_21 : decode cX8_isFaster 21 = .ok (.if_icmp .ge 7, 3) := by decide +kernel
theorem dX8_isFaster_24 : decode cX8_isFaster 24 = .ok (.iconst 1, 1) := by decide +kernel
theorem dX8_isFaster_25 : decode cX8_isFaster 25 = .ok (.goto 4, 3) := by decide +kernel
theorem dX8_isFaster_28 : decode cX8_isFaster 28 = .ok (.iconst 0, 1) := by decide +kernel
theorem dX8_isFaster_29 : decode cX8_isFaster 29 = .ok (.ireturn, 1) := by decide +kernel
theorem dX8_dashes_0 : decode cX8_dashes 0 = .ok (.aload_n 0, 1) := by decide +kernel
theorem dX8_dashes_1 : decode cX8_dashes 1 = .ok (.iload_n 1, 1) := by decide +kernel
theorem dX8_dashes_2 : decode cX8_dashes 2 = .ok (.invokevirtual 118, 3) := by decide +kernel
theorem dX8_dashes_5 : decode cX8_dashes 5 = .ok (.istore_n 2, 1) := by decide +kernel
theorem dX8_dashes_6 : decode cX8_dashes 6 = .ok (.iload_n 2, 1) := by decide +kernel
theorem dX8_dashes_7 : decode cX8_dashes 7 = .ok (.ifCond .eq 12, 3) := by decide +kernel
theorem dX8_dashes_10 : decode cX8_dashes 10 = .ok (.aload_n 0, 1) := by decide +kernel
theorem dX8_dashes_11 : decode cX8_dashes 11 = .ok (.iload_n 1, 1) := by decide +kernel
theorem dX8_dashes_12 : decode cX8_dashes 12 = .ok (.iconst 3, 1) := by decide +kernel
theorem dX8_dashes_13 : decode cX8_dashes 13 = .ok (.invokevirtual 109, 3) := by decide +kernel
theorem dX8_dashes_16 : decode cX8_dashes 16 = .ok (.goto 37, 3) := by decide +kernel
theorem dX8_dashes_19 : decode cX8_dashes 19 = .ok (.aload_n 0, 1) := by decide +kernel
theorem dX8_dashes_20 : decode cX8_dashes 20 = .ok (.iload_n 1, 1) := by decide +kernel
theorem dX8_dashes_21 : decode cX8_dashes 21 = .ok (.sipush (-10006), 3) := by decide +kernel
theorem dX8_dashes_24 : decode cX8_dashes 24 = .ok (.invokevirtual 49, 3) := by decide +kernel
theorem dX8_dashes_27 : decode cX8_dashes 27 = .ok (.aload_n 0, 1) := by decide +kernel
theorem dX8_dashes_28 : decode cX8_dashes 28 = .ok (.aload_n 0, 1) := by decide +kernel
theorem dX8_dashes_29 : decode cX8_dashes 29 = .ok (.getfield 7, 3) := by decide +kernel
theorem dX8_dashes_32 : decode cX8_dashes 32 = .ok (.bipush 7, 2) := by decide +kernel
theorem dX8_dashes_34 : decode cX8_dashes 34 = .ok (.iaload, 1) := by decide +kernel
theorem dX8_dashes_35 : decode cX8_dashes 35 = .ok (.iconst 0, 1) := by decide +kernel
theorem dX8_dashes_36 : decode cX8_dashes 36 = .ok (.iconst 1, 1) := by decide +kernel
theorem dX8_dashes_37 : decode cX8_dashes 37 = .ok (.invokevirtual 76, 3) := by decide +kernel
theorem dX8_dashes_40 : decode cX8_dashes 40 = .ok (.aload_n 0, 1) := by decide +kernel
theorem dX8_dashes_41 : decode cX8_dashes 41 = .ok (.aload_n 0, 1) := by decide +kernel
theorem dX8_dashes_42 : decode cX8_dashes 42 = .ok (.getfield 7, 3) := by decide +kernel
theorem dX8_dashes_45 : decode cX8_dashes 45 = .ok (.bipush 7, 2) := by decide +kernel
theorem dX8_dashes_47 : decode cX8_dashes 47 = .ok (.iaload, 1) := by decide +kernel
theorem dX8_dashes_48 : decode cX8_dashes 48 = .ok (.iconst 2, 1) := by decide +kernel
theorem dX8_dashes_49 : decode cX8_dashes 49 = .ok (.iconst 1, 1) := by decide +kernel
theorem dX8_dashes_50 : decode cX8_dashes 50 = .ok (.invokevirtual 76, 3) := by decide +kernel
theorem dX8_dashes_53 : decode cX8_dashes 53 = .ok (.aload_n 0, 1) := by decide +kernel
theorem dX8_dashes_54 : decode cX8_dashes 54 = .ok (.invokevirtual 96, 3) := by decide +kernel
theorem dX8_dashes_57 : decode cX8_dashes 57 = .ok (.iload_n 2, 1) := by decide +kernel
theorem dX8_dashes_58 : decode cX8_dashes 58 = .ok (.ifCond .eq 7, 3) := by decide +kernel
theorem dX8_dashes_61 : decode cX8_dashes 61 = .ok (.iconst 1, 1) := by decide +kernel
theorem dX8_dashes_62 : decode cX8_dashes 62 = .ok (.goto 4, 3) := by decide +kernel
theorem dX8_dashes_65 : decode cX8_dashes 65 = .ok (.iconst 0, 1) := by decide +kernel
theorem dX8_dashes_66 : decode cX8_dashes 66 = .ok (.ireturn, 1) := by decide +kernel
theorem dX8_dash_0 : decode cX8_dash 0 = .ok (.aload_n 0, 1) := by decide +kernel
theorem dX8_dash_1 : decode cX8_dash 1 = .ok (.iload_n 1, 1) := by decide +kernel
theorem dX8_dash_2 : decode cX8_dash 2 = .ok (.invokevirtual 121, 3) := by decide +kernel
theorem dX8_dash_5 : decode cX8_dash 5 = .ok (.istore_n 2, 1) := by decide +kernel
theorem dX8_dash_6 : decode cX8_dash 6 = .ok (.iload_n 2, 1) := by decide +kernel
theorem dX8_dash_7 : decode cX8_dash 7 = .ok (.ifCond .ge 5, 3) := by decide +kernel
theorem dX8_dash_10 : decode cX8_dash 10 = .ok (.iload_n 2, 1) := by decide +kernel
theorem dX8_dash_11 : decode cX8_dash 11 = .ok (.ireturn, 1) := by decide +kernel
theorem dX8_dash_12 : decode cX8_dash 12 = .ok (.aload_n 0, 1) := by decide +kernel
theorem dX8_dash_13 : decode cX8_dash 13 = .ok (.invokevirtual 42, 3) := by decide +kernel
theorem dX8_dash_16 : decode cX8_dash 16 = .ok (.aload_n 0, 1) := by decide +kernel
theorem dX8_dash_17 : decode cX8_dash 17 = .ok (.iload_n 1, 1) := by decide +kernel
theorem dX8_dash_18 : decode cX8_dash 18 = .ok (.invokevirtual 124, 3) := by decide +kernel
theorem dX8_dash_21 : decode cX8_dash 21 = .ok (.ireturn, 1) := by decide +kernel
theorem dX8_isBefore_0 : decode cX8_isBefore 0 = .ok (.aload_n 0, 1) := by decide +kernel
theorem dX8_isBefore_1 : decode cX8_isBefore 1 = .ok (.iload_n 1, 1) := by decide +kernel
theorem dX8_isBefore_2 : decode cX8_isBefore 2 = .ok (.iconst 0, 1) := by decide +kernel
theorem dX8_isBefore_3 : decode cX8_isBefore 3 = .ok (.invokevirtual 53, 3) := by decide +kernel
theorem dX8_isBefore_6 : decode cX8_isBefore 6 = .ok (.aload_n 0, 1) := by decide +kernel
theorem dX8_isBefore_7 : decode cX8_isBefore 7 = .ok (.iload_n 2, 1) := by decide +kernel
theorem dX8_isBefore_8 : decode cX8_isBefore 8 = .ok (.iconst 0, 1) := by decide +kernel
theorem dX8_isBefore_9 : decode cX8_isBefore 9 = .ok (.invokevirtual 53, 3) := by decide +kernel
theorem dX8_isBefore_12 : decode cX8_isBefore 12 = .ok (.if_icmp .eq 24, 3) := by decide +kernel
theorem dX8_isBefore_15 : decode cX8_isBefore 15 = .ok (.aload_n 0, 1) := by decide +kernel
theorem dX8_isBefore_16 : decode cX8_isBefore 16 = .ok (.iload_n 1, 1) := by decide +kernel
theorem dX8_isBefore_17 : decode cX8_isBefore 17 = .ok (.iconst 0, 1) := by decide +kernel
theorem dX8_isBefore_18 : decode cX8_isBefore 18 = .ok (.invokevirtual 53, 3) := by decide +kernel
theorem dX8_isBefore_21 : decode cX8_isBefore 21 = .ok (.aload_n 0, 1) := by decide +kernel
theorem dX8_isBefore_22 : decode cX8_isBefore 22 = .ok (.iload_n 2, 1) := by decide +kernel
theorem dX8_isBefore_23 : decode cX8_isBefore 23 = .ok (.iconst 0, 1) := by decide +kernel
theorem dX8_isBefore_24 : decode cX8_isBefore 24 = .ok (.invokevirtual 53, 3) := by decide +kernel
theorem dX8_isBefore_27 : decode cX8_isBefore 27 = .ok (.if_icmp .le 7, 3) := by decide +kernel
theorem dX8_isBefore_30 : decode cX8_isBefore 30 = .ok (.iconst 1, 1) := by decide +kernel
theorem dX8_isBefore_31 : decode cX8_isBefore 31 = .ok (.goto 4, 3) := by decide +kernel
theorem dX8_isBefore_34 : decode cX8_isBefore 34 = .ok (.iconst 0, 1) := by decide +kernel
theorem dX8_isBefore_35 : decode cX8_isBefore 35 = .ok (.ireturn, 1) := by decide +kernel
theorem dX8_isBefore_36 : decode cX8_isBefore 36 = .ok (.aload_n 0, 1) := by decide +kernel
theorem dX8_isBefore_37 : decode cX8_isBefore 37 = .ok (.iload_n 1, 1) := by decide +kernel
theorem dX8_isBefore_38 : decode cX8_isBefore 38 = .ok (.iconst 3, 1) := by decide +kernel
theorem dX8_isBefore_39 : decode cX8_isBefore 39 = .ok (.invokevirtual 53, 3) := by decide +kernel
theorem dX8_isBefore_42 : decode cX8_isBefore 42 = .ok (.aload_n 0, 1) := by decide +kernel
theorem dX8_isBefore_43 : decode cX8_isBefore 43 = .ok (.iload_n 2, 1) := by decide +kernel
theorem dX8_isBefore_44 : decode cX8_isBefore 44 = .ok (.iconst 3, 1) := by decide +kernel
theorem dX8_isBefore_45 : decode cX8_isBefore 45 = .ok (.invokevirtual 53, 3) := by decide +kernel
theorem dX8_isBefore_48 : decode cX8_isBefore 48 = .ok (.if_icmp .eq 26, 3) := by decide +kernel
theorem dX8_isBefore_51 : decode cX8_isBefore 51 = .ok (.aload_n 0, 1) := by decide +kernel
theorem dX8_isBefore_52 : decode cX8_isBefore 52 = .ok (.iload_n 1, 1) := by decide +kernel
theorem dX8_isBefore_53 : decode cX8_isBefore 53 = .ok (.iconst 3, 1) := by decide +kernel
theorem dX8_isBefore_54 : decode cX8_isBefore 54 = .ok (.invokevirtual 53, 3) := by decide +kernel
theorem dX8_isBefore_57 : decode cX8_isBefore 57 = .ok (.aload_n 0, 1) := by decide +kernel
theorem dX8_isBefore_58 : decode cX8_isBefore 58 = .ok (.iload_n 2, 1) := by decide +kernel
theorem dX8_isBefore_59 : decode cX8_isBefore 59 = .ok (.iconst 3, 1) := by decide +kernel
theorem dX8_isBefore_60 : decode cX8_isBefore 60 = .ok (.invokevirtual 53, 3) := by decide +kernel
theorem dX8_isBefore_63 : decode cX8_isBefore 63 = .ok (.if_icmp .ge 7, 3) := by decide +kernel
theorem dX8_isBefore_66 : decode cX8_isBefore 66 = .ok (.iconst 1, 1) := by decide +kernel
theorem dX8_isBefore_67 : decode cX8_isBefore 67 = .ok (.goto 17, 3) := by decide +kernel
theorem dX8_isBefore_70 : decode cX8_isBefore 70 = .ok (.iconst 0, 1) := by decide +kernel
theorem dX8_isBefore_71 : decode cX8_isBefore 71 = .ok (.goto 13, 3) := by decide +kernel
theorem dX8_isBefore_74 : decode cX8_isBefore 74 = .ok (.iload_n 1, 1) := by decide +kernel
theorem dX8_isBefore_75 : decode cX8_isBefore 75 = .ok (.iload_n 2, 1) := by decide +kernel
theorem dX8_isBefore_76 : decode cX8_isBefore 76 = .ok (.if_icmp .ge 7, 3) := by decide +kernel
theorem dX8_isBefore_79 : decode cX8_isBefore 79 = .ok (.iconst 1, 1) := by decide +kernel
theorem dX8_isBefore_80 : decode cX8_isBefore 80 = .ok (.goto 4, 3) := by decide +kernel
theorem dX8_isBefore_83 : decode cX8_isBefore 83 = .ok (.iconst 0, 1) := by decide +kernel
theorem dX8_isBefore_84 : decode cX8_isBefore 84 = .ok (.ireturn, 1) := by decide +kernel
theorem dX8_placeOf_0 : decode cX8_placeOf 0 = .ok (.iconst 0, 1) := by decide +kernel
theorem dX8_placeOf_1 : decode cX8_placeOf 1 = .ok (.istore_n 2, 1) := by decide +kernel
theorem dX8_placeOf_2 : decode cX8_placeOf 2 = .ok (.iconst 0, 1) := by decide +kernel
theorem dX8_placeOf_3 : decode cX8_placeOf 3 = .ok (.istore_n 3, 1) := by decide +kernel
theorem dX8_placeOf_4 : decode cX8_placeOf 4 = .ok (.iload_n 3, 1) := by decide +kernel
theorem dX8_placeOf_5 : decode cX8_placeOf 5 = .ok (.aload_n 0, 1) := by decide +kernel
theorem dX8_placeOf_6 : decode cX8_placeOf 6 = .ok (.getfield 7, 3) := by decide +kernel
theorem dX8_placeOf_9 : decode cX8_placeOf 9 = .ok (.iconst 4, 1) := by decide +kernel
theorem dX8_placeOf_10 : decode cX8_placeOf 10 = .ok (.iaload, 1) := by decide +kernel
theorem dX8_placeOf_11 : decode cX8_placeOf 11 = .ok (.if_icmp .ge 31, 3) := by decide +kernel
theorem dX8_placeOf_14 : decode cX8_placeOf 14 = .ok (.iload_n 2, 1) := by decide +kernel
theorem dX8_placeOf_15 : decode cX8_placeOf 15 = .ok (.iload_n 3, 1) := by decide +kernel
theorem dX8_placeOf_16 : decode cX8_placeOf 16 = .ok (.iload_n 1, 1) := by decide +kernel
theorem dX8_placeOf_17 : decode cX8_placeOf 17 = .ok (.if_icmp .eq 16, 3) := by decide +kernel
theorem dX8_placeOf_20 : decode cX8_placeOf 20 = .ok (.aload_n 0, 1) := by decide +kernel
theorem dX8_placeOf_21 : decode cX8_placeOf 21 = .ok (.iload_n 3, 1) := by decide +kernel
theorem dX8_placeOf_22 : decode cX8_placeOf 22 = .ok (.iload_n 1, 1) := by decide +kernel
theorem dX8_placeOf_23 : decode cX8_placeOf 23 = .ok (.invokevirtual 127, 3) := by decide +kernel
theorem dX8_placeOf_26 : decode cX8_placeOf 26 = .ok (.ifCond .eq 7, 3) := by decide +kernel
theorem dX8_placeOf_29 : decode cX8_placeOf 29 = .ok (.iconst 1, 1) := by decide +kernel
theorem dX8_placeOf_30 : decode cX8_placeOf 30 = .ok (.goto 4, 3) := by decide +kernel
theorem dX8_placeOf_33 : decode cX8_placeOf 33 = .ok (.iconst 0, 1) := by decide +kernel
theorem dX8_placeOf_34 : decode cX8_placeOf 34 = .ok (.iadd, 1) := by decide +kernel
theorem dX8_placeOf_35 : decode cX8_placeOf 35 = .ok (.istore_n 2, 1) := by decide +kernel
theorem dX8_placeOf_36 : decode cX8_placeOf 36 = .ok (.iinc 3 1, 3) := by decide +kernel
theorem dX8_placeOf_39 : decode cX8_placeOf 39 = .ok (.goto (-35), 3) := by decide +kernel
theorem dX8_placeOf_42 : decode cX8_placeOf 42 = .ok (.iload_n 2, 1) := by decide +kernel
theorem dX8_placeOf_43 : decode cX8_placeOf 43 = .ok (.ireturn, 1) := by decide +kernel
theorem dX8_player_0 : decode cX8_player 0 = .ok (.aload_n 0, 1) := by decide +kernel
theorem dX8_player_1 : decode cX8_player 1 = .ok (.iload_n 1, 1) := by decide +kernel
theorem dX8_player_2 : decode cX8_player 2 = .ok (.invokevirtual 73, 3) := by decide +kernel
theorem dX8_player_5 : decode cX8_player 5 = .ok (.ifCond .ne 7, 3) := by decide +kernel
theorem dX8_player_8 : decode cX8_player 8 = .ok (.sipush (-10001), 3) := by decide +kernel
theorem dX8_player_11 : decode cX8_player 11 = .ok (.ireturn, 1) := by decide +kernel
theorem dX8_player_12 : decode cX8_player 12 = .ok (.iload_n 2, 1) := by decide +kernel
theorem dX8_player_13 : decode cX8_player 13 = .ok (.iconst 5, 1) := by decide +kernel
theorem dX8_player_14 : decode cX8_player 14 = .ok (.if_icmp .ne 11, 3) := by decide +kernel
theorem dX8_player_17 : decode cX8_player 17 = .ok (.aload_n 0, 1) := by decide +kernel
theorem dX8_player_18 : decode cX8_player 18 = .ok (.iload_n 1, 1) := by decide +kernel
theorem dX8_player_19 : decode cX8_player 19 = .ok (.invokevirtual 130, 3) := by decide +kernel
theorem dX8_player_22 : decode cX8_player 22 = .ok (.goto 39, 3) := by decide +kernel
theorem dX8_player_25 : decode cX8_player 25 = .ok (.iload_n 2, 1) := by decide +kernel
theorem dX8_player_26 : decode cX8_player 26 = .ok (.bipush 6, 2) := by decide +kernel
theorem dX8_player_28 : decode cX8_player 28 = .ok (.if_icmp .ne 12, 3) := by decide +kernel
theorem dX8_player_31 : decode cX8_player 31 = .ok (.aload_n 0, 1) := by decide +kernel
theorem dX8_player_32 : decode cX8_player 32 = .ok (.iload_n 1, 1) := by decide +kernel
theorem dX8_player_33 : decode cX8_player 33 = .ok (.iconst 5, 1) := by decide +kernel
theorem dX8_player_34 : decode cX8_player 34 = .ok (.invokevirtual 53, 3) := by decide +kernel
theorem dX8_player_37 : decode cX8_player 37 = .ok (.goto 24, 3) := by decide +kernel
theorem dX8_player_40 : decode cX8_player 40 = .ok (.iload_n 2, 1) := by decide +kernel
theorem dX8_player_41 : decode cX8_player 41 = .ok (.iconst 0, 1) := by decide +kernel
theorem dX8_player_42 : decode cX8_player 42 = .ok (.iconst 4, 1) := by decide +kernel
theorem dX8_player_43 : decode cX8_player 43 = .ok (.invokestatic 26, 3) := by decide +kernel
theorem dX8_player_46 : decode cX8_player 46 = .ok (.ifCond .eq 12, 3) := by decide +kernel
theorem dX8_player_49 : decode cX8_player 49 = .ok (.aload_n 0, 1) := by decide +kernel
theorem dX8_player_50 : decode cX8_player 50 = .ok (.iload_n 1, 1) := by decide +kernel
theorem dX8_player_51 : decode cX8_player 51 = .ok (.iload_n 2, 1) := by decide +kernel
theorem dX8_player_52 : decode cX8_player 52 = .ok (.invokevirtual 53, 3) := by decide +kernel
theorem dX8_player_55 : decode cX8_player 55 = .ok (.goto 6, 3) := by decide +kernel
theorem dX8_player_58 : decode cX8_player 58 = .ok (.sipush (-10002), 3) := by decide +kernel
theorem dX8_player_61 : decode cX8_player 61 = .ok (.ireturn, 1) := by decide +kernel
theorem dX8_spot_0 : decode cX8_spot 0 = .ok (.iload_n 1, 1) := by decide +kernel
theorem dX8_spot_1 : decode cX8_spot 1 = .ok (.invokestatic 83, 3) := by decide +kernel
theorem dX8_spot_4 : decode cX8_spot 4 = .ok (.ifCond .ne 7, 3) := by decide +kernel
theorem dX8_spot_7 : decode cX8_spot 7 = .ok (.sipush (-10001), 3) := by decide +kernel
theorem dX8_spot_10 : decode cX8_spot 10 = .ok (.ireturn, 1) := by decide +kernel
theorem dX8_spot_11 : decode cX8_spot 11 = .ok (.iload_n 2, 1) := by decide +kernel
theorem dX8_spot_12 : decode cX8_spot 12 = .ok (.tableswitch 53 0 3 #[32, 38, 38, 47], 32) := by decide +kernel
theorem dX8_spot_44 : decode cX8_spot 44 = .ok (.iload_n 1, 1) := by decide +kernel
theorem dX8_spot_45 : decode cX8_spot 45 = .ok (.iconst 0, 1) := by decide +kernel
theorem dX8_spot_46 : decode cX8_spot 46 = .ok (.invokestatic 56, 3) := by decide +kernel
theorem dX8_spot_49 : decode cX8_spot 49 = .ok (.ireturn, 1) := by decide +kernel
theorem dX8_spot_50 : decode cX8_spot 50 = .ok (.aload_n 0, 1) := by decide +kernel
theorem dX8_spot_51 : decode cX8_spot 51 = .ok (.iload_n 1, 1) := by decide +kernel
theorem dX8_spot_52 : decode cX8_spot 52 = .ok (.iload_n 2, 1) := by decide +kernel
theorem dX8_spot_53 : decode cX8_spot 53 = .ok (.iconst 1, 1) := by decide +kernel
theorem dX8_spot_54 : decode cX8_spot 54 = .ok (.isub, 1) := by decide +kernel
theorem dX8_spot_55 : decode cX8_spot 55 = .ok (.invokevirtual 30, 3) := by decide +kernel
theorem dX8_spot_58 : decode cX8_spot 58 = .ok (.ireturn, 1) := by decide +kernel
theorem dX8_spot_59 : decode cX8_spot 59 = .ok (.aload_n 0, 1) := by decide +kernel
theorem dX8_spot_60 : decode cX8_spot 60 = .ok (.iload_n 1, 1) := by decide +kernel
theorem dX8_spot_61 : decode cX8_spot 61 = .ok (.invokevirtual 66, 3) := by decide +kernel
theorem dX8_spot_64 : decode cX8_spot 64 = .ok (.ireturn, 1) := by decide +kernel
theorem dX8_spot_65 : decode cX8_spot 65 = .ok (.sipush (-10002), 3) := by decide +kernel
theorem dX8_spot_68 : decode cX8_spot 68 = .ok (.ireturn, 1) := by decide +kernel
theorem dX8_ranked_0 : decode cX8_ranked 0 = .ok (.sipush (-10001), 3) := by decide +kernel
theorem dX8_ranked_3 : decode cX8_ranked 3 = .ok (.istore_n 2, 1) := by decide +kernel
theorem dX8_ranked_4 : decode cX8_ranked 4 = .ok (.iconst 0, 1) := by decide +kernel
theorem dX8_ranked_5 : decode cX8_ranked 5 = .ok (.istore_n 3, 1) := by decide +kernel
theorem dX8_ranked_6 : decode cX8_ranked 6 = .ok (.iload_n 3, 1) := by decide +kernel
theorem dX8_ranked_7 : decode cX8_ranked 7 = .ok (.aload_n 0, 1) := by decide +kernel
theorem dX8_ranked_8 : decode cX8_ranked 8 = .ok (.getfield 7, 3) := by decide +kernel
theorem dX8_ranked_11 : decode cX8_ranked 11 = .ok (.iconst 4, 1) := by decide +kernel
theorem dX8_ranked_12 : decode cX8_ranked 12 = .ok (.iaload, 1) := by decide +kernel
theorem dX8_ranked_13 : decode cX8_ranked 13 = .ok (.if_icmp .ge 24, 3) := by decide +kernel
theorem dX8_ranked_16 : decode cX8_ranked 16 = .ok (.aload_n 0, 1) := by decide +kernel
theorem dX8_ranked_17 : decode cX8_ranked 17 = .ok (.iload_n 3, 1) := by decide +kernel
theorem dX8_ranked_18 : decode cX8_ranked 18 = .ok (.invokevirtual 130, 3) := by decide +kernel
theorem dX8_ranked_21 : decode cX8_ranked 21 = .ok (.iload_n 1, 1) := by decide +kernel
theorem dX8_ranked_22 : decode cX8_ranked 22 = .ok (.if_icmp .ne 7, 3) := by decide +kernel
theorem dX8_ranked_25 : decode cX8_ranked 25 = .ok (.iload_n 3, 1) := by decide +kernel
theorem dX8_ranked_26 : decode cX8_ranked 26 = .ok (.goto 4, 3) := by decide +kernel
theorem dX8_ranked_29 : decode cX8_ranked 29 = .ok (.iload_n 2, 1) := by decide +kernel
theorem dX8_ranked_30 : decode cX8_ranked 30 = .ok (.istore_n 2, 1) := by decide +kernel
theorem dX8_ranked_31 : decode cX8_ranked 31 = .ok (.iinc 3 1, 3) := by decide +kernel
theorem dX8_ranked_34 : decode cX8_ranked 34 = .ok (.goto (-28), 3) := by decide +kernel
theorem dX8_ranked_37 : decode cX8_ranked 37 = .ok (.iload_n 2, 1) := by decide +kernel
theorem dX8_ranked_38 : decode cX8_ranked 38 = .ok (.ireturn, 1) := by decide +kernel
theorem dX8_nextSeeker_0 : decode cX8_nextSeeker 0 = .ok (.sipush (-10006), 3) := by decide +kernel
theorem dX8_nextSeeker_3 : decode cX8_nextSeeker 3 = .ok (.istore_n 1, 1) := by decide +kernel
theorem dX8_nextSeeker_4 : decode cX8_nextSeeker 4 = .ok (.iconst 0, 1) := by decide +kernel
theorem dX8_nextSeeker_5 : decode cX8_nextSeeker 5 = .ok (.istore_n 2, 1) := by decide +kernel
theorem dX8_nextSeeker_6 : decode cX8_nextSeeker 6 = .ok (.iload_n 2, 1) := by decide +kernel
theorem dX8_nextSeeker_7 : decode cX8_nextSeeker 7 = .ok (.aload_n 0, 1) := by decide +kernel
theorem dX8_nextSeeker_8 : decode cX8_nextSeeker 8 = .ok (.getfield 7, 3) := by decide +kernel
theorem dX8_nextSeeker_11 : decode cX8_nextSeeker 11 = .ok (.iconst 4, 1) := by decide +kernel
theorem dX8_nextSeeker_12 : decode cX8_nextSeeker 12 = .ok (.iaload, 1) := by decide +kernel
theorem dX8_nextSeeker_13 : decode cX8_nextSeeker 13 = .ok (.if_icmp .ge 71, 3) := by decide +kernel
theorem dX8_nextSeeker_16 : decode cX8_nextSeeker 16 = .ok (.iload_n 1, 1) := by decide +kernel
theorem dX8_nextSeeker_17 : decode cX8_nextSeeker 17 = .ok (.sipush (-10006), 3) := by decide +kernel
theorem dX8_nextSeeker_20 : decode cX8_nextSeeker 20 = .ok (.if_icmp .eq 42, 3) := by decide +kernel
theorem dX8_nextSeeker_23 : decode cX8_nextSeeker 23 = .ok (.aload_n 0, 1) := by decide +kernel
theorem dX8_nextSeeker_24 : decode cX8_nextSeeker 24 = .ok (.iload_n 2, 1) := by decide +kernel
theorem dX8_nextSeeker_25 : decode cX8_nextSeeker 25 = .ok (.iconst 1, 1) := by decide +kernel
theorem dX8_nextSeeker_26 : decode cX8_nextSeeker 26 = .ok (.invokevirtual 53, 3) := by decide +kernel
theorem dX8_nextSeeker_29 : decode cX8_nextSeeker 29 = .ok (.aload_n 0, 1) := by decide +kernel
theorem dX8_nextSeeker_30 : decode cX8_nextSeeker 30 = .ok (.iload_n 1, 1) := by decide +kernel
theorem dX8_nextSeeker_31 : decode cX8_nextSeeker 31 = .ok (.iconst 1, 1) := by decide +kernel
theorem dX8_nextSeeker_32 : decode cX8_nextSeeker 32 = .ok (.invokevirtual 53, 3) := by decide +kernel
theorem dX8_nextSeeker_35 : decode cX8_nextSeeker 35 = .ok (.if_icmp .lt 27, 3) := by decide +kernel
theorem dX8_nextSeeker_38 : decode cX8_nextSeeker 38 = .ok (.aload_n 0, 1) := by decide +kernel
theorem dX8_nextSeeker_39 : decode cX8_nextSeeker 39 = .ok (.iload_n 2, 1) := by decide +kernel
theorem dX8_nextSeeker_40 : decode cX8_nextSeeker 40 = .ok (.iconst 1, 1) := by decide +kernel
theorem dX8_nextSeeker_41 : decode cX8_nextSeeker 41 = .ok (.invokevirtual 53, 3) := by decide +kernel
theorem dX8_nextSeeker_44 : decode cX8_nextSeeker 44 = .ok (.aload_n 0, 1) := by decide +kernel
theorem dX8_nextSeeker_45 : decode cX8_nextSeeker 45 = .ok (.iload_n 1, 1) := by decide +kernel
theorem dX8_nextSeeker_46 : decode cX8_nextSeeker 46 = .ok (.iconst 1, 1) := by decide +kernel
theorem dX8_nextSeeker_47 : decode cX8_nextSeeker 47 = .ok (.invokevirtual 53, 3) := by decide +kernel
theorem dX8_nextSeeker_50 : decode cX8_nextSeeker 50 = .ok (.if_icmp .ne 16, 3) := by decide +kernel
theorem dX8_nextSeeker_53 : decode cX8_nextSeeker 53 = .ok (.aload_n 0, 1) := by decide +kernel
theorem dX8_nextSeeker_54 : decode cX8_nextSeeker 54 = .ok (.iload_n 1, 1) := by decide +kernel
theorem dX8_nextSeeker_55 : decode cX8_nextSeeker 55 = .ok (.iload_n 2, 1) := by decide +kernel
theorem dX8_nextSeeker_56 : decode cX8_nextSeeker 56 = .ok (.invokevirtual 127, 3) := by decide +kernel
theorem dX8_nextSeeker_59 : decode cX8_nextSeeker 59 = .ok (.ifCond .eq 7, 3) := by decide +kernel
theorem dX8_nextSeeker_62 : decode cX8_nextSeeker 62 = .ok (.iconst 1, 1) := by decide +kernel
theorem dX8_nextSeeker_63 : decode cX8_nextSeeker 63 = .ok (.goto 4, 3) := by decide +kernel
theorem dX8_nextSeeker_66 : decode cX8_nextSeeker 66 = .ok (.iconst 0, 1) := by decide +kernel
theorem dX8_nextSeeker_67 : decode cX8_nextSeeker 67 = .ok (.istore_n 3, 1) := by decide +kernel
theorem dX8_nextSeeker_68 : decode cX8_nextSeeker 68 = .ok (.iload_n 3, 1) := by decide +kernel
theorem dX8_nextSeeker_69 : decode cX8_nextSeeker 69 = .ok (.ifCond .eq 7, 3) := by decide +kernel
theorem dX8_nextSeeker_72 : decode cX8_nextSeeker 72 = .ok (.iload_n 2, 1) := by decide +kernel
theorem dX8_nextSeeker_73 : decode cX8_nextSeeker 73 = .ok (.goto 4, 3) := by decide +kernel
theorem dX8_nextSeeker_76 : decode cX8_nextSeeker 76 = .ok (.iload_n 1, 1) := by decide +kernel
theorem dX8_nextSeeker_77 : decode cX8_nextSeeker 77 = .ok (.istore_n 1, 1) := by decide +kernel
theorem dX8_nextSeeker_78 : decode cX8_nextSeeker 78 = .ok (.iinc 2 1, 3) := by decide +kernel
theorem dX8_nextSeeker_81 : decode cX8_nextSeeker 81 = .ok (.goto (-75), 3) := by decide +kernel
theorem dX8_nextSeeker_84 : decode cX8_nextSeeker 84 = .ok (.iload_n 1, 1) := by decide +kernel
theorem dX8_nextSeeker_85 : decode cX8_nextSeeker 85 = .ok (.ireturn, 1) := by decide +kernel
theorem dX8_sumOfPoints_0 : decode cX8_sumOfPoints 0 = .ok (.iconst 0, 1) := by decide +kernel
theorem dX8_sumOfPoints_1 : decode cX8_sumOfPoints 1 = .ok (.istore_n 1, 1) := by decide +kernel
theorem dX8_sumOfPoints_2 : decode cX8_sumOfPoints 2 = .ok (.iconst 0, 1) := by decide +kernel
theorem dX8_sumOfPoints_3 : decode cX8_sumOfPoints 3 = .ok (.istore_n 2, 1) := by decide +kernel
theorem dX8_sumOfPoints_4 : decode cX8_sumOfPoints 4 = .ok (.iload_n 2, 1) := by decide +kernel
theorem dX8_sumOfPoints_5 : decode cX8_sumOfPoints 5 = .ok (.aload_n 0, 1) := by decide +kernel
theorem dX8_sumOfPoints_6 : decode cX8_sumOfPoints 6 = .ok (.getfield 7, 3) := by decide +kernel
theorem dX8_sumOfPoints_9 : decode cX8_sumOfPoints 9 = .ok (.iconst 4, 1) := by decide +kernel
theorem dX8_sumOfPoints_10 : decode cX8_sumOfPoints 10 = .ok (.iaload, 1) := by decide +kernel
theorem dX8_sumOfPoints_11 : decode cX8_sumOfPoints 11 = .ok (.if_icmp .ge 18, 3) := by decide +kernel
theorem dX8_sumOfPoints_14 : decode cX8_sumOfPoints 14 = .ok (.iload_n 1, 1) := by decide +kernel
theorem dX8_sumOfPoints_15 : decode cX8_sumOfPoints 15 = .ok (.aload_n 0, 1) := by decide +kernel
theorem dX8_sumOfPoints_16 : decode cX8_sumOfPoints 16 = .ok (.iload_n 2, 1) := by decide +kernel
theorem dX8_sumOfPoints_17 : decode cX8_sumOfPoints 17 = .ok (.iconst 0, 1) := by decide +kernel
theorem dX8_sumOfPoints_18 : decode cX8_sumOfPoints 18 = .ok (.invokevirtual 53, 3) := by decide +kernel
theorem dX8_sumOfPoints_21 : decode cX8_sumOfPoints 21 = .ok (.iadd, 1) := by decide +kernel
theorem dX8_sumOfPoints_22 : decode cX8_sumOfPoints 22 = .ok (.istore_n 1, 1) := by decide +kernel
theorem dX8_sumOfPoints_23 : decode cX8_sumOfPoints 23 = .ok (.iinc 2 1, 3) := by decide +kernel
theorem dX8_sumOfPoints_26 : decode cX8_sumOfPoints 26 = .ok (.goto (-22), 3) := by decide +kernel
theorem dX8_sumOfPoints_29 : decode cX8_sumOfPoints 29 = .ok (.iload_n 1, 1) := by decide +kernel
theorem dX8_sumOfPoints_30 : decode cX8_sumOfPoints 30 = .ok (.ireturn, 1) := by decide +kernel
theorem dX8_retired_0 : decode cX8_retired 0 = .ok (.iconst 0, 1) := by decide +kernel
theorem dX8_retired_1 : decode cX8_retired 1 = .ok (.istore_n 1, 1) := by decide +kernel
theorem dX8_retired_2 : decode cX8_retired 2 = .ok (.iconst 0, 1) := by decide +kernel
theorem dX8_retired_3 : decode cX8_retired 3 = .ok (.istore_n 2, 1) := by decide +kernel
theorem dX8_retired_4 : decode cX8_retired 4 = .ok (.iload_n 2, 1) := by decide +kernel
theorem dX8_retired_5 : decode cX8_retired 5 = .ok (.bipush 16, 2) := by decide +kernel
theorem dX8_retired_7 : decode cX8_retired 7 = .ok (.if_icmp .ge 18, 3) := by decide +kernel
theorem dX8_retired_10 : decode cX8_retired 10 = .ok (.iload_n 1, 1) := by decide +kernel
theorem dX8_retired_11 : decode cX8_retired 11 = .ok (.aload_n 0, 1) := by decide +kernel
theorem dX8_retired_12 : decode cX8_retired 12 = .ok (.iload_n 2, 1) := by decide +kernel
theorem dX8_retired_13 : decode cX8_retired 13 = .ok (.iconst 1, 1) := by decide +kernel
theorem dX8_retired_14 : decode cX8_retired 14 = .ok (.invokevirtual 30, 3) := by decide +kernel
theorem dX8_retired_17 : decode cX8_retired 17 = .ok (.iadd, 1) := by decide +kernel
theorem dX8_retired_18 : decode cX8_retired 18 = .ok (.istore_n 1, 1) := by decide +kernel
theorem dX8_retired_19 : decode cX8_retired 19 = .ok (.iinc 2 1, 3) := by decide +kernel
theorem dX8_retired_22 : decode cX8_retired 22 = .ok (.goto (-18), 3) := by decide +kernel
theorem dX8_retired_25 : decode cX8_retired 25 = .ok (.iload_n 1, 1) := by decide +kernel
theorem dX8_retired_26 : decode cX8_retired 26 = .ok (.ireturn, 1) := by decide +kernel
theorem dX8_total_0 : decode cX8_total 0 = .ok (.iload_n 1, 1) := by decide +kernel
theorem dX8_total_1 : decode cX8_total 1 = .ok (.tableswitch 173 0 9 #[55, 62, 69, 77, 101, 125, 150, 158, 163, 168], 55) := by decide +kernel
theorem dX8_total_56 : decode cX8_total 56 = .ok (.aload_n 0, 1) := by decide +kernel
theorem dX8_total_57 : decode cX8_total 57 = .ok (.getfield 7, 3) := by decide +kernel
theorem dX8_total_60 : decode cX8_total 60 = .ok (.iconst 4, 1) := by decide +kernel
theorem dX8_total_61 : decode cX8_total 61 = .ok (.iaload, 1) := by decide +kernel
theorem dX8_total_62 : decode cX8_total 62 = .ok (.ireturn, 1) := by decide +kernel
theorem dX8_total_63 : decode cX8_total 63 = .ok (.aload_n 0, 1) := by decide +kernel
theorem dX8_total_64 : decode cX8_total 64 = .ok (.getfield 7, 3) := by decide +kernel
theorem dX8_total_67 : decode cX8_total 67 = .ok (.iconst 5, 1) := by decide +kernel
theorem dX8_total_68 : decode cX8_total 68 = .ok (.iaload, 1) := by decide +kernel
theorem dX8_total_69 : decode cX8_total 69 = .ok (.ireturn, 1) := by decide +kernel
theorem dX8_total_70 : decode cX8_total 70 = .ok (.aload_n 0, 1) := by decide +kernel
theorem dX8_total_71 : decode cX8_total 71 = .ok (.getfield 7, 3) := by decide +kernel
theorem dX8_total_74 : decode cX8_total 74 = .ok (.bipush 6, 2) := by decide +kernel
theorem dX8_total_76 : decode cX8_total 76 = .ok (.iaload, 1) := by decide +kernel
theorem dX8_total_77 : decode cX8_total 77 = .ok (.ireturn, 1) := by decide +kernel
theorem dX8_total_78 : decode cX8_total 78 = .ok (.aload_n 0, 1) := by decide +kernel
theorem dX8_total_79 : decode cX8_total 79 = .ok (.getfield 7, 3) := by decide +kernel
theorem dX8_total_82 : decode cX8_total 82 = .ok (.bipush 6, 2) := by decide +kernel
theorem dX8_total_84 : decode cX8_total 84 = .ok (.iaload, 1) := by decide +kernel
theorem dX8_total_85 : decode cX8_total 85 = .ok (.ifCond .ne 9, 3) := by decide +kernel
theorem dX8_total_88 : decode cX8_total 88 = .ok (.sipush (-10006), 3) := by decide +kernel
theorem dX8_total_91 : decode cX8_total 91 = .ok (.goto 10, 3) := by decide +kernel
theorem dX8_total_94 : decode cX8_total 94 = .ok (.aload_n 0, 1) := by decide +kernel
theorem dX8_total_95 : decode cX8_total 95 = .ok (.getfield 7, 3) := by decide +kernel
theorem dX8_total_98 : decode cX8_total 98 = .ok (.bipush 7, 2) := by decide +kernel
theorem dX8_total_100 : decode cX8_total 100 = .ok (.iaload, 1) := by decide +kernel
theorem dX8_total_101 : decode cX8_total 101 = .ok (.ireturn, 1) := by decide +kernel
theorem dX8_total_102 : decode cX8_total 102 = .ok (.aload_n 0, 1) := by decide +kernel
theorem dX8_total_103 : decode cX8_total 103 = .ok (.getfield 7, 3) := by decide +kernel
theorem dX8_total_106 : decode cX8_total 106 = .ok (.bipush 6, 2) := by decide +kernel
theorem dX8_total_108 : decode cX8_total 108 = .ok (.iaload, 1) := by decide +kernel
theorem dX8_total_109 : decode cX8_total 109 = .ok (.ifCond .ne 9, 3) := by decide +kernel
theorem dX8_total_112 : decode cX8_total 112 = .ok (.sipush (-10006), 3) := by decide +kernel
theorem dX8_total_115 : decode cX8_total 115 = .ok (.goto 10, 3) := by decide +kernel
theorem dX8_total_118 : decode cX8_total 118 = .ok (.aload_n 0, 1) := by decide +kernel
theorem dX8_total_119 : decode cX8_total 119 = .ok (.getfield 7, 3) := by decide +kernel
theorem dX8_total_122 : decode cX8_total 122 = .ok (.bipush 8, 2) := by decide +kernel
theorem dX8_total_124 : decode cX8_total 124 = .ok (.iaload, 1) := by decide +kernel
theorem dX8_total_125 : decode cX8_total 125 = .ok (.ireturn, 1) := by decide +kernel
theorem dX8_total_126 : decode cX8_total 126 = .ok (.aload_n 0, 1) := by decide +kernel
theorem dX8_total_127 : decode cX8_total 127 = .ok (.getfield 7, 3) := by decide +kernel
theorem dX8_total_130 : decode cX8_total 130 = .ok (.bipush 6, 2) := by decide +kernel
theorem dX8_total_132 : decode cX8_total 132 = .ok (.iaload, 1) := by decide +kernel
theorem dX8_total_133 : decode cX8_total 133 = .ok (.iconst 2, 1) := by decide +kernel
theorem dX8_total_134 : decode cX8_total 134 = .ok (.if_icmp .ne 13, 3) := by decide +kernel
theorem dX8_total_137 : decode cX8_total 137 = .ok (.aload_n 0, 1) := by decide +kernel
theorem dX8_total_138 : decode cX8_total 138 = .ok (.getfield 7, 3) := by decide +kernel
theorem dX8_total_141 : decode cX8_total 141 = .ok (.bipush 9, 2) := by decide +kernel
theorem dX8_total_143 : decode cX8_total 143 = .ok (.iaload, 1) := by decide +kernel
theorem dX8_total_144 : decode cX8_total 144 = .ok (.goto 6, 3) := by decide +kernel
theorem dX8_total_147 : decode cX8_total 147 = .ok (.sipush (-10006), 3) := by decide +kernel
theorem dX8_total_150 : decode cX8_total 150 = .ok (.ireturn, 1) := by decide +kernel
theorem dX8_total_151 : decode cX8_total 151 = .ok (.aload_n 0, 1) := by decide +kernel
theorem dX8_total_152 : decode cX8_total 152 = .ok (.getfield 7, 3) := by decide +kernel
theorem dX8_total_155 : decode cX8_total 155 = .ok (.bipush 10, 2) := by decide +kernel
theorem dX8_total_157 : decode cX8_total 157 = .ok (.iaload, 1) := by decide +kernel
theorem dX8_total_158 : decode cX8_total 158 = .ok (.ireturn, 1) := by decide +kernel
theorem dX8_total_159 : decode cX8_total 159 = .ok (.aload_n 0, 1) := by decide +kernel
theorem dX8_total_160 : decode cX8_total 160 = .ok (.invokevirtual 89, 3) := by decide +kernel
theorem dX8_total_163 : decode cX8_total 163 = .ok (.ireturn, 1) := by decide +kernel
theorem dX8_total_164 : decode cX8_total 164 = .ok (.aload_n 0, 1) := by decide +kernel
theorem dX8_total_165 : decode cX8_total 165 = .ok (.invokevirtual 133, 3) := by decide +kernel
theorem dX8_total_168 : decode cX8_total 168 = .ok (.ireturn, 1) := by decide +kernel
theorem dX8_total_169 : decode cX8_total 169 = .ok (.aload_n 0, 1) := by decide +kernel
theorem dX8_total_170 : decode cX8_total 170 = .ok (.invokevirtual 136, 3) := by decide +kernel
theorem dX8_total_173 : decode cX8_total 173 = .ok (.ireturn, 1) := by decide +kernel
theorem dX8_total_174 : decode cX8_total 174 = .ok (.sipush (-10002), 3) := by decide +kernel
theorem dX8_total_177 : decode cX8_total 177 = .ok (.ireturn, 1) := by decide +kernel
theorem dX8_inSight_0 : decode cX8_inSight 0 = .ok (.aload_n 0, 1) := by decide +kernel
theorem dX8_inSight_1 : decode cX8_inSight 1 = .ok (.getfield 7, 3) := by decide +kernel
theorem dX8_inSight_4 : decode cX8_inSight 4 = .ok (.bipush 6, 2) := by decide +kernel
theorem dX8_inSight_6 : decode cX8_inSight 6 = .ok (.iaload, 1) := by decide +kernel
theorem dX8_inSight_7 : decode cX8_inSight 7 = .ok (.iconst 2, 1) := by decide +kernel
theorem dX8_inSight_8 : decode cX8_inSight 8 = .ok (.if_icmp .eq 7, 3) := by decide +kernel
theorem dX8_inSight_11 : decode cX8_inSight 11 = .ok (.sipush (-10003), 3) := by decide +kernel
theorem dX8_inSight_14 : decode cX8_inSight 14 = .ok (.ireturn, 1) := by decide +kernel
theorem dX8_inSight_15 : decode cX8_inSight 15 = .ok (.iconst 0, 1) := by decide +kernel
theorem dX8_inSight_16 : decode cX8_inSight 16 = .ok (.istore_n 1, 1) := by decide +kernel
theorem dX8_inSight_17 : decode cX8_inSight 17 = .ok (.iconst 0, 1) := by decide +kernel
theorem dX8_inSight_18 : decode cX8_inSight 18 = .ok (.istore_n 2, 1) := by decide +kernel
theorem dX8_inSight_19 : decode cX8_inSight 19 = .ok (.iload_n 2, 1) := by decide +kernel
theorem dX8_inSight_20 : decode cX8_inSight 20 = .ok (.bipush 16, 2) := by decide +kernel
theorem dX8_inSight_22 : decode cX8_inSight 22 = .ok (.if_icmp .ge 39, 3) := by decide +kernel
theorem dX8_inSight_25 : decode cX8_inSight 25 = .ok (.iload_n 1, 1) := by decide +kernel
theorem dX8_inSight_26 : decode cX8_inSight 26 = .ok (.iload_n 2, 1) := by decide +kernel
theorem dX8_inSight_27 : decode cX8_inSight 27 = .ok (.aload_n 0, 1) := by decide +kernel
theorem dX8_inSight_28 : decode cX8_inSight 28 = .ok (.getfield 7, 3) := by decide +kernel
theorem dX8_inSight_31 : decode cX8_inSight 31 = .ok (.bipush 9, 2) := by decide +kernel
theorem dX8_inSight_33 : decode cX8_inSight 33 = .ok (.iaload, 1) := by decide +kernel
theorem dX8_inSight_34 : decode cX8_inSight 34 = .ok (.invokestatic 56, 3) := by decide +kernel
theorem dX8_inSight_37 : decode cX8_inSight 37 = .ok (.aload_n 0, 1) := by decide +kernel
theorem dX8_inSight_38 : decode cX8_inSight 38 = .ok (.getfield 7, 3) := by decide +kernel
theorem dX8_inSight_41 : decode cX8_inSight 41 = .ok (.iconst 0, 1) := by decide +kernel
theorem dX8_inSight_42 : decode cX8_inSight 42 = .ok (.iaload, 1) := by decide +kernel
theorem dX8_inSight_43 : decode cX8_inSight 43 = .ok (.if_icmp .gt 9, 3) := by decide +kernel
theorem dX8_inSight_46 : decode cX8_inSight 46 = .ok (.iconst 1, 1) := by decide +kernel
theorem dX8_inSight_47 : decode cX8_inSight 47 = .ok (.iload_n 2, 1) := by decide +kernel
theorem dX8_inSight_48 : decode cX8_inSight 48 = .ok (.ishl, 1) := by decide +kernel
theorem dX8_inSight_49 : decode cX8_inSight 49 = .ok (.goto 4, 3) := by decide +kernel
theorem dX8_inSight_52 : decode cX8_inSight 52 = .ok (.iconst 0, 1) := by decide +kernel
theorem dX8_inSight_53 : decode cX8_inSight 53 = .ok (.ior, 1) := by decide +kernel
theorem dX8_inSight_54 : decode cX8_inSight 54 = .ok (.istore_n 1, 1) := by decide +kernel
theorem dX8_inSight_55 : decode cX8_inSight 55 = .ok (.iinc 2 1, 3) := by decide +kernel
theorem dX8_inSight_58 : decode cX8_inSight 58 = .ok (.goto (-39), 3) := by decide +kernel
theorem dX8_inSight_61 : decode cX8_inSight 61 = .ok (.iload_n 1, 1) := by decide +kernel
theorem dX8_inSight_62 : decode cX8_inSight 62 = .ok (.ireturn, 1) := by decide +kernel
theorem dX8_couldDash_0 : decode cX8_couldDash 0 = .ok (.aload_n 0, 1) := by decide +kernel
theorem dX8_couldDash_1 : decode cX8_couldDash 1 = .ok (.getfield 7, 3) := by decide +kernel
theorem dX8_couldDash_4 : decode cX8_couldDash 4 = .ok (.bipush 6, 2) := by decide +kernel
theorem dX8_couldDash_6 : decode cX8_couldDash 6 = .ok (.iaload, 1) := by decide +kernel
theorem dX8_couldDash_7 : decode cX8_couldDash 7 = .ok (.iconst 2, 1) := by decide +kernel
theorem dX8_couldDash_8 : decode cX8_couldDash 8 = .ok (.if_icmp .eq 7, 3) := by decide +kernel
theorem dX8_couldDash_11 : decode cX8_couldDash 11 = .ok (.sipush (-10003), 3) := by decide +kernel
theorem dX8_couldDash_14 : decode cX8_couldDash 14 = .ok (.ireturn, 1) := by decide +kernel
theorem dX8_couldDash_15 : decode cX8_couldDash 15 = .ok (.iconst 0, 1) := by decide +kernel
theorem dX8_couldDash_16 : decode cX8_couldDash 16 = .ok (.istore_n 1, 1) := by decide +kernel
theorem dX8_couldDash_17 : decode cX8_couldDash 17 = .ok (.iconst 0, 1) := by decide +kernel
theorem dX8_couldDash_18 : decode cX8_couldDash 18 = .ok (.istore_n 2, 1) := by decide +kernel
theorem dX8_couldDash_19 : decode cX8_couldDash 19 = .ok (.iload_n 2, 1) := by decide +kernel
theorem dX8_couldDash_20 : decode cX8_couldDash 20 = .ok (.aload_n 0, 1) := by decide +kernel
theorem dX8_couldDash_21 : decode cX8_couldDash 21 = .ok (.getfield 7, 3) := by decide +kernel
theorem dX8_couldDash_24 : decode cX8_couldDash 24 = .ok (.iconst 4, 1) := by decide +kernel
theorem dX8_couldDash_25 : decode cX8_couldDash 25 = .ok (.iaload, 1) := by decide +kernel
theorem dX8_couldDash_26 : decode cX8_couldDash 26 = .ok (.if_icmp .ge 39, 3) := by decide +kernel
theorem dX8_couldDash_29 : decode cX8_couldDash 29 = .ok (.iload_n 1, 1) := by decide +kernel
theorem dX8_couldDash_30 : decode cX8_couldDash 30 = .ok (.aload_n 0, 1) := by decide +kernel
theorem dX8_couldDash_31 : decode cX8_couldDash 31 = .ok (.iload_n 2, 1) := by decide +kernel
theorem dX8_couldDash_32 : decode cX8_couldDash 32 = .ok (.iconst 5, 1) := by decide +kernel
theorem dX8_couldDash_33 : decode cX8_couldDash 33 = .ok (.invokevirtual 53, 3) := by decide +kernel
theorem dX8_couldDash_36 : decode cX8_couldDash 36 = .ok (.sipush (-10006), 3) := by decide +kernel
theorem dX8_couldDash_39 : decode cX8_couldDash 39 = .ok (.if_icmp .eq 17, 3) := by decide +kernel
theorem dX8_couldDash_42 : decode cX8_couldDash 42 = .ok (.aload_n 0, 1) := by decide +kernel
theorem dX8_couldDash_43 : decode cX8_couldDash 43 = .ok (.iload_n 2, 1) := by decide +kernel
theorem dX8_couldDash_44 : decode cX8_couldDash 44 = .ok (.invokevirtual 118, 3) := by decide +kernel
theorem dX8_couldDash_47 : decode cX8_couldDash 47 = .ok (.ifCond .eq 9, 3) := by decide +kernel
theorem dX8_couldDash_50 : decode cX8_couldDash 50 = .ok (.iconst 1, 1) := by decide +kernel
theorem dX8_couldDash_51 : decode cX8_couldDash 51 = .ok (.iload_n 2, 1) := by decide +kernel
theorem dX8_couldDash_52 : decode cX8_couldDash 52 = .ok (.ishl, 1) := by decide +kernel
theorem dX8_couldDash_53 : decode cX8_couldDash 53 = .ok (.goto 4, 3) := by decide +kernel
theorem dX8_couldDash_56 : decode cX8_couldDash 56 = .ok (.iconst 0, 1) := by decide +kernel
theorem dX8_couldDash_57 : decode cX8_couldDash 57 = .ok (.ior, 1) := by decide +kernel
theorem dX8_couldDash_58 : decode cX8_couldDash 58 = .ok (.istore_n 1, 1) := by decide +kernel
theorem dX8_couldDash_59 : decode cX8_couldDash 59 = .ok (.iinc 2 1, 3) := by decide +kernel
theorem dX8_couldDash_62 : decode cX8_couldDash 62 = .ok (.goto (-43), 3) := by decide +kernel
theorem dX8_couldDash_65 : decode cX8_couldDash 65 = .ok (.iload_n 1, 1) := by decide +kernel
theorem dX8_couldDash_66 : decode cX8_couldDash 66 = .ok (.ireturn, 1) := by decide +kernel
theorem dX8_isBetter_0 : decode cX8_isBetter 0 = .ok (.iload_n 1, 1) := by decide +kernel
theorem dX8_isBetter_1 : decode cX8_isBetter 1 = .ok (.iconst 0, 1) := by decide +kernel
theorem dX8_isBetter_2 : decode cX8_isBetter 2 = .ok (.invokestatic 56, 3) := by decide +kernel
theorem dX8_isBetter_5 : decode cX8_isBetter 5 = .ok (.iload_n 2, 1) := by decide +kernel
theorem dX8_isBetter_6 : decode cX8_isBetter 6 = .ok (.iconst 0, 1) := by decide +kernel
theorem dX8_isBetter_7 : decode cX8_isBetter 7 = .ok (.invokestatic 56, 3) := by decide +kernel
theorem dX8_isBetter_10 : decode cX8_isBetter 10 = .ok (.if_icmp .eq 22, 3) := by decide +kernel
theorem dX8_isBetter_13 : decode cX8_isBetter 13 = .ok (.iload_n 1, 1) := by decide +kernel
theorem dX8_isBetter_14 : decode cX8_isBetter 14 = .ok (.iconst 0, 1) := by decide +kernel
theorem dX8_isBetter_15 : decode cX8_isBetter 15 = .ok (.invokestatic 56, 3) := by decide +kernel
theorem dX8_isBetter_18 : decode cX8_isBetter 18 = .ok (.iload_n 2, 1) := by decide +kernel
theorem dX8_isBetter_19 : decode cX8_isBetter 19 = .ok (.iconst 0, 1) := by decide +kernel
theorem dX8_isBetter_20 : decode cX8_isBetter 20 = .ok (.invokestatic 56, 3) := by decide +kernel
theorem dX8_isBetter_23 : decode cX8_isBetter 23 = .ok (.if_icmp .le 7, 3) := by decide +kernel
theorem dX8_isBetter_26 : decode cX8_isBetter 26 = .ok (.iconst 1, 1) := by decide +kernel
theorem dX8_isBetter_27 : decode cX8_isBetter 27 = .ok (.goto 4, 3) := by decide +kernel
theorem dX8_isBetter_30 : decode cX8_isBetter 30 = .ok (.iconst 0, 1) := by decide +kernel
theorem dX8_isBetter_31 : decode cX8_isBetter 31 = .ok (.ireturn, 1) := by decide +kernel
theorem dX8_isBetter_32 : decode cX8_isBetter 32 = .ok (.aload_n 0, 1) := by decide +kernel
theorem dX8_isBetter_33 : decode cX8_isBetter 33 = .ok (.iload_n 1, 1) := by decide +kernel
theorem dX8_isBetter_34 : decode cX8_isBetter 34 = .ok (.iconst 0, 1) := by decide +kernel
theorem dX8_isBetter_35 : decode cX8_isBetter 35 = .ok (.invokevirtual 30, 3) := by decide +kernel
theorem dX8_isBetter_38 : decode cX8_isBetter 38 = .ok (.aload_n 0, 1) := by decide +kernel
theorem dX8_isBetter_39 : decode cX8_isBetter 39 = .ok (.iload_n 2, 1) := by decide +kernel
theorem dX8_isBetter_40 : decode cX8_isBetter 40 = .ok (.iconst 0, 1) := by decide +kernel
theorem dX8_isBetter_41 : decode cX8_isBetter 41 = .ok (.invokevirtual 30, 3) := by decide +kernel
theorem dX8_isBetter_44 : decode cX8_isBetter 44 = .ok (.if_icmp .eq 24, 3) := by decide +kernel
theorem dX8_isBetter_47 : decode cX8_isBetter 47 = .ok (.aload_n 0, 1) := by decide +kernel
theorem dX8_isBetter_48 : decode cX8_isBetter 48 = .ok (.iload_n 1, 1) := by decide +kernel
theorem dX8_isBetter_49 : decode cX8_isBetter 49 = .ok (.iconst 0, 1) := by decide +kernel
theorem dX8_isBetter_50 : decode cX8_isBetter 50 = .ok (.invokevirtual 30, 3) := by decide +kernel
theorem dX8_isBetter_53 : decode cX8_isBetter 53 = .ok (.aload_n 0, 1) := by decide +kernel
theorem dX8_isBetter_54 : decode cX8_isBetter 54 = .ok (.iload_n 2, 1) := by decide +kernel
theorem dX8_isBetter_55 : decode cX8_isBetter 55 = .ok (.iconst 0, 1) := by decide +kernel
theorem dX8_isBetter_56 : decode cX8_isBetter 56 = .ok (.invokevirtual 30, 3) := by decide +kernel
theorem dX8_isBetter_59 : decode cX8_isBetter 59 = .ok (.if_icmp .ge 7, 3) := by decide +kernel
theorem dX8_isBetter_62 : decode cX8_isBetter 62 = .ok (.iconst 1, 1) := by decide +kernel
theorem dX8_isBetter_63 : decode cX8_isBetter 63 = .ok (.goto 4, 3) := by decide +kernel
theorem dX8_isBetter_66 : decode cX8_isBetter 66 = .ok (.iconst 0, 1) := by decide +kernel
theorem dX8_isBetter_67 : decode cX8_isBetter 67 = .ok (.ireturn, 1) := by decide +kernel
theorem dX8_isBetter_68 : decode cX8_isBetter 68 = .ok (.aload_n 0, 1) := by decide +kernel
theorem dX8_isBetter_69 : decode cX8_isBetter 69 = .ok (.iload_n 1, 1) := by decide +kernel
theorem dX8_isBetter_70 : decode cX8_isBetter 70 = .ok (.invokevirtual 66, 3) := by decide +kernel
theorem dX8_isBetter_73 : decode cX8_isBetter 73 = .ok (.invokestatic 70, 3) := by decide +kernel
theorem dX8_isBetter_76 : decode cX8_isBetter 76 = .ok (.aload_n 0, 1) := by decide +kernel
theorem dX8_isBetter_77 : decode cX8_isBetter 77 = .ok (.iload_n 2, 1) := by decide +kernel
theorem dX8_isBetter_78 : decode cX8_isBetter 78 = .ok (.invokevirtual 66, 3) := by decide +kernel
theorem dX8_isBetter_81 : decode cX8_isBetter 81 = .ok (.invokestatic 70, 3) := by decide +kernel
theorem dX8_isBetter_84 : decode cX8_isBetter 84 = .ok (.if_icmp .ge 7, 3) := by decide +kernel
theorem dX8_isBetter_87 : decode cX8_isBetter 87 = .ok (.iconst 1, 1) := by decide +kernel
theorem dX8_isBetter_88 : decode cX8_isBetter 88 = .ok (.goto 4, 3) := by decide +kernel
theorem dX8_isBetter_91 : decode cX8_isBetter 91 = .ok (.iconst 0, 1) := by decide +kernel
theorem dX8_isBetter_92 : decode cX8_isBetter 92 = .ok (.ireturn, 1) := by decide +kernel
theorem dX8_bestSpot_0 : decode cX8_bestSpot 0 = .ok (.aload_n 0, 1) := by decide +kernel
theorem dX8_bestSpot_1 : decode cX8_bestSpot 1 = .ok (.getfield 7, 3) := by decide +kernel
theorem dX8_bestSpot_4 : decode cX8_bestSpot 4 = .ok (.bipush 6, 2) := by decide +kernel
theorem dX8_bestSpot_6 : decode cX8_bestSpot 6 = .ok (.iaload, 1) := by decide +kernel
theorem dX8_bestSpot_7 : decode cX8_bestSpot 7 = .ok (.iconst 1, 1) := by decide +kernel
theorem dX8_bestSpot_8 : decode cX8_bestSpot 8 = .ok (.if_icmp .eq 7, 3) := by decide +kernel
theorem dX8_bestSpot_11 : decode cX8_bestSpot 11 = .ok (.sipush (-10003), 3) := by decide +kernel
theorem dX8_bestSpot_14 : decode cX8_bestSpot 14 = .ok (.ireturn, 1) := by decide +kernel
theorem dX8_bestSpot_15 : decode cX8_bestSpot 15 = .ok (.sipush (-10006), 3) := by decide +kernel
theorem dX8_bestSpot_18 : decode cX8_bestSpot 18 = .ok (.istore_n 1, 1) := by decide +kernel
theorem dX8_bestSpot_19 : decode cX8_bestSpot 19 = .ok (.iconst 1, 1) := by decide +kernel
theorem dX8_bestSpot_20 : decode cX8_bestSpot 20 = .ok (.istore_n 2, 1) := by decide +kernel
theorem dX8_bestSpot_21 : decode cX8_bestSpot 21 = .ok (.iload_n 2, 1) := by decide +kernel
theorem dX8_bestSpot_22 : decode cX8_bestSpot 22 = .ok (.bipush 16, 2) := by decide +kernel
theorem dX8_bestSpot_24 : decode cX8_bestSpot 24 = .ok (.if_icmp .ge 39, 3) := by decide +kernel
theorem dX8_bestSpot_27 : decode cX8_bestSpot 27 = .ok (.aload_n 0, 1) := by decide +kernel
theorem dX8_bestSpot_28 : decode cX8_bestSpot 28 = .ok (.iload_n 2, 1) := by decide +kernel
theorem dX8_bestSpot_29 : decode cX8_bestSpot 29 = .ok (.invokevirtual 80, 3) := by decide +kernel
theorem dX8_bestSpot_32 : decode cX8_bestSpot 32 = .ok (.ifCond .eq 23, 3) := by decide +kernel
theorem dX8_bestSpot_35 : decode cX8_bestSpot 35 = .ok (.iload_n 1, 1) := by decide +kernel
theorem dX8_bestSpot_36 : decode cX8_bestSpot 36 = .ok (.sipush (-10006), 3) := by decide +kernel
theorem dX8_bestSpot_39 : decode cX8_bestSpot 39 = .ok (.if_icmp .eq 12, 3) := by decide +kernel
theorem dX8_bestSpot_42 : decode cX8_bestSpot 42 = .ok (.aload_n 0, 1) := by decide +kernel
theorem dX8_bestSpot_43 : decode cX8_bestSpot 43 = .ok (.iload_n 2, 1) := by decide +kernel
theorem dX8_bestSpot_44 : decode cX8_bestSpot 44 = .ok (.iload_n 1, 1) := by decide +kernel
theorem dX8_bestSpot_45 : decode cX8_bestSpot 45 = .ok (.invokevirtual 139, 3) := by decide +kernel
theorem dX8_bestSpot_48 : decode cX8_bestSpot 48 = .ok (.ifCond .eq 7, 3) := by decide +kernel
theorem dX8_bestSpot_51 : decode cX8_bestSpot 51 = .ok (.iload_n 2, 1) := by decide +kernel
theorem dX8_bestSpot_52 : decode cX8_bestSpot 52 = .ok (.goto 4, 3) := by decide +kernel
theorem dX8_bestSpot_55 : decode cX8_bestSpot 55 = .ok (.iload_n 1, 1) := by decide +kernel
theorem dX8_bestSpot_56 : decode cX8_bestSpot 56 = .ok (.istore_n 1, 1) := by decide +kernel
theorem dX8_bestSpot_57 : decode cX8_bestSpot 57 = .ok (.iinc 2 1, 3) := by decide +kernel
theorem dX8_bestSpot_60 : decode cX8_bestSpot 60 = .ok (.goto (-39), 3) := by decide +kernel
theorem dX8_bestSpot_63 : decode cX8_bestSpot 63 = .ok (.iload_n 1, 1) := by decide +kernel
theorem dX8_bestSpot_64 : decode cX8_bestSpot 64 = .ok (.ireturn, 1) := by decide +kernel
theorem dX8_seesAll_0 : decode cX8_seesAll 0 = .ok (.iconst 1, 1) := by decide +kernel
theorem dX8_seesAll_1 : decode cX8_seesAll 1 = .ok (.istore_n 3, 1) := by decide +kernel
theorem dX8_seesAll_2 : decode cX8_seesAll 2 = .ok (.iconst 0, 1) := by decide +kernel
theorem dX8_seesAll_3 : decode cX8_seesAll 3 = .ok (.istore 4, 2) := by decide +kernel
theorem dX8_seesAll_5 : decode cX8_seesAll 5 = .ok (.iload 4, 2) := by decide +kernel
theorem dX8_seesAll_7 : decode cX8_seesAll 7 = .ok (.aload_n 0, 1) := by decide +kernel
theorem dX8_seesAll_8 : decode cX8_seesAll 8 = .ok (.getfield 7, 3) := by decide +kernel
theorem dX8_seesAll_11 : decode cX8_seesAll 11 = .ok (.iconst 4, 1) := by decide +kernel
theorem dX8_seesAll_12 : decode cX8_seesAll 12 = .ok (.iaload, 1) := by decide +kernel
theorem dX8_seesAll_13 : decode cX8_seesAll 13 = .ok (.if_icmp .ge 107, 3) := by decide +kernel
theorem dX8_seesAll_16 : decode cX8_seesAll 16 = .ok (.aload_n 0, 1) := by decide +kernel
theorem dX8_seesAll_17 : decode cX8_seesAll 17 = .ok (.iload 4, 2) := by decide +kernel
theorem dX8_seesAll_19 : decode cX8_seesAll 19 = .ok (.iconst 5, 1) := by decide +kernel
theorem dX8_seesAll_20 : decode cX8_seesAll 20 = .ok (.invokevirtual 53, 3) := by decide +kernel
theorem dX8_seesAll_23 : decode cX8_seesAll 23 = .ok (.sipush (-10006), 3) := by decide +kernel
theorem dX8_seesAll_26 : decode cX8_seesAll 26 = .ok (.if_icmp .ne 7, 3) := by decide +kernel
theorem dX8_seesAll_29 : decode cX8_seesAll 29 = .ok (.iconst 1, 1) := by decide +kernel
theorem dX8_seesAll_30 : decode cX8_seesAll 30 = .ok (.goto 4, 3) := by decide +kernel
theorem dX8_seesAll_33 : decode cX8_seesAll 33 = .ok (.iconst 0, 1) := by decide +kernel
theorem dX8_seesAll_34 : decode cX8_seesAll 34 = .ok (.istore 5, 2) := by decide +kernel
theorem dX8_seesAll_36 : decode cX8_seesAll 36 = .ok (.iload_n 2, 1) := by decide +kernel
theorem dX8_seesAll_37 : decode cX8_seesAll 37 = .ok (.ineg, 1) := by decide +kernel
theorem dX8_seesAll_38 : decode cX8_seesAll 38 = .ok (.istore 6, 2) := by decide +kernel
theorem dX8_seesAll_40 : decode cX8_seesAll 40 = .ok (.iload 6, 2) := by decide +kernel
theorem dX8_seesAll_42 : decode cX8_seesAll 42 = .ok (.iload_n 1, 1) := by decide +kernel
theorem dX8_seesAll_43 : decode cX8_seesAll 43 = .ok (.if_icmp .gt 56, 3) := by decide +kernel
theorem dX8_seesAll_46 : decode cX8_seesAll 46 = .ok (.iload 5, 2) := by decide +kernel
theorem dX8_seesAll_48 : decode cX8_seesAll 48 = .ok (.ifCond .ne 38, 3) := by decide +kernel
theorem dX8_seesAll_51 : decode cX8_seesAll 51 = .ok (.aload_n 0, 1) := by decide +kernel
theorem dX8_seesAll_52 : decode cX8_seesAll 52 = .ok (.iload 4, 2) := by decide +kernel
theorem dX8_seesAll_54 : decode cX8_seesAll 54 = .ok (.iconst 5, 1) := by decide +kernel
theorem dX8_seesAll_55 : decode cX8_seesAll 55 = .ok (.invokevirtual 53, 3) := by decide +kernel
theorem dX8_seesAll_58 : decode cX8_seesAll 58 = .ok (.aload_n 0, 1) := by decide +kernel
theorem dX8_seesAll_59 : decode cX8_seesAll 59 = .ok (.getfield 7, 3) := by decide +kernel
theorem dX8_seesAll_62 : decode cX8_seesAll 62 = .ok (.bipush 9, 2) := by decide +kernel
theorem dX8_seesAll_64 : decode cX8_seesAll 64 = .ok (.iaload, 1) := by decide +kernel
theorem dX8_seesAll_65 : decode cX8_seesAll 65 = .ok (.iload 6, 2) := by decide +kernel
theorem dX8_seesAll_67 : decode cX8_seesAll 67 = .ok (.iadd, 1) := by decide +kernel
theorem dX8_seesAll_68 : decode cX8_seesAll 68 = .ok (.bipush 32, 2) := by decide +kernel
theorem dX8_seesAll_70 : decode cX8_seesAll 70 = .ok (.iadd, 1) := by decide +kernel
theorem dX8_seesAll_71 : decode cX8_seesAll 71 = .ok (.bipush 16, 2) := by decide +kernel
theorem dX8_seesAll_73 : decode cX8_seesAll 73 = .ok (.irem, 1) := by decide +kernel
theorem dX8_seesAll_74 : decode cX8_seesAll 74 = .ok (.invokestatic 56, 3) := by decide +kernel
theorem dX8_seesAll_77 : decode cX8_seesAll 77 = .ok (.aload_n 0, 1) := by decide +kernel
theorem dX8_seesAll_78 : decode cX8_seesAll 78 = .ok (.getfield 7, 3) := by decide +kernel
theorem dX8_seesAll_81 : decode cX8_seesAll 81 = .ok (.iconst 0, 1) := by decide +kernel
theorem dX8_seesAll_82 : decode cX8_seesAll 82 = .ok (.iaload, 1) := by decide +kernel
theorem dX8_seesAll_83 : decode cX8_seesAll 83 = .ok (.if_icmp .gt 7, 3) := by decide +kernel
theorem dX8_seesAll_86 : decode cX8_seesAll 86 = .ok (.iconst 1, 1) := by decide +kernel
theorem dX8_seesAll_87 : decode cX8_seesAll 87 = .ok (.goto 4, 3) := by decide +kernel
theorem dX8_seesAll_90 : decode cX8_seesAll 90 = .ok (.iconst 0, 1) := by decide +kernel
theorem dX8_seesAll_91 : decode cX8_seesAll 91 = .ok (.istore 5, 2) := by decide +kernel
theorem dX8_seesAll_93 : decode cX8_seesAll 93 = .ok (.iinc 6 1, 3) := by decide +kernel
theorem dX8_seesAll_96 : decode cX8_seesAll 96 = .ok (.goto (-56), 3) := by decide +kernel
theorem dX8_seesAll_99 : decode cX8_seesAll 99 = .ok (.iload_n 3, 1) := by decide +kernel
theorem dX8_seesAll_100 : decode cX8_seesAll 100 = .ok (.ifCond .eq 12, 3) := by decide +kernel
theorem dX8_seesAll_103 : decode cX8_seesAll 103 = .ok (.iload 5, 2) := by decide +kernel
theorem dX8_seesAll_105 : decode cX8_seesAll 105 = .ok (.ifCond .eq 7, 3) := by decide +kernel
theorem dX8_seesAll_108 : decode cX8_seesAll 108 = .ok (.iconst 1, 1) := by decide +kernel
theorem dX8_seesAll_109 : decode cX8_seesAll 109 = .ok (.goto 4, 3) := by decide +kernel
theorem dX8_seesAll_112 : decode cX8_seesAll 112 = .ok (.iconst 0, 1) := by decide +kernel
theorem dX8_seesAll_113 : decode cX8_seesAll 113 = .ok (.istore_n 3, 1) := by decide +kernel
theorem dX8_seesAll_114 : decode cX8_seesAll 114 = .ok (.iinc 4 1, 3) := by decide +kernel
theorem dX8_seesAll_117 : decode cX8_seesAll 117 = .ok (.goto (-112), 3) := by decide +kernel
theorem dX8_seesAll_120 : decode cX8_seesAll 120 = .ok (.iload_n 3, 1) := by decide +kernel
theorem dX8_seesAll_121 : decode cX8_seesAll 121 = .ok (.ireturn, 1) := by decide +kernel
theorem dX8_fewestSteps_0 : decode cX8_fewestSteps 0 = .ok (.aload_n 0, 1) := by decide +kernel
theorem dX8_fewestSteps_1 : decode cX8_fewestSteps 1 = .ok (.getfield 7, 3) := by decide +kernel
theorem dX8_fewestSteps_4 : decode cX8_fewestSteps 4 = .ok (.bipush 6, 2) := by decide +kernel
theorem dX8_fewestSteps_6 : decode cX8_fewestSteps 6 = .ok (.iaload, 1) := by decide +kernel
theorem dX8_fewestSteps_7 : decode cX8_fewestSteps 7 = .ok (.iconst 2, 1) := by decide +kernel
theorem dX8_fewestSteps_8 : decode cX8_fewestSteps 8 = .ok (.if_icmp .eq 7, 3) := by decide +kernel
theorem dX8_fewestSteps_11 : decode cX8_fewestSteps 11 = .ok (.sipush (-10003), 3) := by decide +kernel
theorem dX8_fewestSteps_14 : decode cX8_fewestSteps 14 = .ok (.ireturn, 1) := by decide +kernel
theorem dX8_fewestSteps_15 : decode cX8_fewestSteps 15 = .ok (.bipush 32, 2) := by decide +kernel
theorem dX8_fewestSteps_17 : decode cX8_fewestSteps 17 = .ok (.istore_n 1, 1) := by decide +kernel
theorem dX8_fewestSteps_18 : decode cX8_fewestSteps 18 = .ok (.iconst 0, 1) := by decide +kernel
theorem dX8_fewestSteps_19 : decode cX8_fewestSteps 19 = .ok (.istore_n 2, 1) := by decide +kernel
theorem dX8_fewestSteps_20 : decode cX8_fewestSteps 20 = .ok (.iload_n 2, 1) := by decide +kernel
theorem dX8_fewestSteps_21 : decode cX8_fewestSteps 21 = .ok (.bipush 16, 2) := by decide +kernel
theorem dX8_fewestSteps_23 : decode cX8_fewestSteps 23 = .ok (.if_icmp .ge 63, 3) := by decide +kernel
theorem dX8_fewestSteps_26 : decode cX8_fewestSteps 26 = .ok (.iconst 0, 1) := by decide +kernel
theorem dX8_fewestSteps_27 : decode cX8_fewestSteps 27 = .ok (.istore_n 3, 1) := by decide +kernel
theorem dX8_fewestSteps_28 : decode cX8_fewestSteps 28 = .ok (.iload_n 2, 1) := by decide +kernel
theorem dX8_fewestSteps_29 : decode cX8_fewestSteps 29 = .ok (.iload_n 3, 1) := by decide +kernel
theorem dX8_fewestSteps_30 : decode cX8_fewestSteps 30 = .ok (.iadd, 1) := by decide +kernel
theorem dX8_fewestSteps_31 : decode cX8_fewestSteps 31 = .ok (.bipush 16, 2) := by decide +kernel
theorem dX8_fewestSteps_33 : decode cX8_fewestSteps 33 = .ok (.if_icmp .ge 47, 3) := by decide +kernel
theorem dX8_fewestSteps_36 : decode cX8_fewestSteps 36 = .ok (.iload_n 2, 1) := by decide +kernel
theorem dX8_fewestSteps_37 : decode cX8_fewestSteps 37 = .ok (.iload_n 3, 1) := by decide +kernel
theorem dX8_fewestSteps_38 : decode cX8_fewestSteps 38 = .ok (.iadd, 1) := by decide +kernel
theorem dX8_fewestSteps_39 : decode cX8_fewestSteps 39 = .ok (.iload_n 2, 1) := by decide +kernel
theorem dX8_fewestSteps_40 : decode cX8_fewestSteps 40 = .ok (.iload_n 3, 1) := by decide +kernel
theorem dX8_fewestSteps_41 : decode cX8_fewestSteps 41 = .ok (.if_icmp .ge 7, 3) := by decide +kernel
theorem dX8_fewestSteps_44 : decode cX8_fewestSteps 44 = .ok (.iload_n 2, 1) := by decide +kernel
theorem dX8_fewestSteps_45 : decode cX8_fewestSteps 45 = .ok (.goto 4, 3) := by decide +kernel
theorem dX8_fewestSteps_48 : decode cX8_fewestSteps 48 = .ok (.iload_n 3, 1) := by decide +kernel
theorem dX8_fewestSteps_49 : decode cX8_fewestSteps 49 = .ok (.iadd, 1) := by decide +kernel
theorem dX8_fewestSteps_50 : decode cX8_fewestSteps 50 = .ok (.istore 4, 2) := by decide +kernel
theorem dX8_fewestSteps_52 : decode cX8_fewestSteps 52 = .ok (.iload 4, 2) := by decide +kernel
theorem dX8_fewestSteps_54 : decode cX8_fewestSteps 54 = .ok (.iload_n 1, 1) := by decide +kernel
theorem dX8_fewestSteps_55 : decode cX8_fewestSteps 55 = .ok (.if_icmp .ge 17, 3) := by decide +kernel
theorem dX8_fewestSteps_58 : decode cX8_fewestSteps 58 = .ok (.aload_n 0, 1) := by decide +kernel
theorem dX8_fewestSteps_59 : decode cX8_fewestSteps 59 = .ok (.iload_n 2, 1) := by decide +kernel
theorem dX8_fewestSteps_60 : decode cX8_fewestSteps 60 = .ok (.iload_n 3, 1) := by decide +kernel
theorem dX8_fewestSteps_61 : decode cX8_fewestSteps 61 = .ok (.invokevirtual 142, 3) := by decide +kernel
theorem dX8_fewestSteps_64 : decode cX8_fewestSteps 64 = .ok (.ifCond .eq 8, 3) := by decide +kernel
theorem dX8_fewestSteps_67 : decode cX8_fewestSteps 67 = .ok (.iload 4, 2) := by decide +kernel
theorem dX8_fewestSteps_69 : decode cX8_fewestSteps 69 = .ok (.goto 4, 3) := by decide +kernel
theorem dX8_fewestSteps_72 : decode cX8_fewestSteps 72 = .ok (.iload_n 1, 1) := by decide +kernel
theorem dX8_fewestSteps_73 : decode cX8_fewestSteps 73 = .ok (.istore_n 1, 1) := by decide +kernel
theorem dX8_fewestSteps_74 : decode cX8_fewestSteps 74 = .ok (.iinc 3 1, 3) := by decide +kernel
theorem dX8_fewestSteps_77 : decode cX8_fewestSteps 77 = .ok (.goto (-49), 3) := by decide +kernel
theorem dX8_fewestSteps_80 : decode cX8_fewestSteps 80 = .ok (.iinc 2 1, 3) := by decide +kernel
theorem dX8_fewestSteps_83 : decode cX8_fewestSteps 83 = .ok (.goto (-63), 3) := by decide +kernel
theorem dX8_fewestSteps_86 : decode cX8_fewestSteps 86 = .ok (.iload_n 1, 1) := by decide +kernel
theorem dX8_fewestSteps_87 : decode cX8_fewestSteps 87 = .ok (.ireturn, 1) := by decide +kernel
theorem dX8_append_0 : decode cX8_append 0 = .ok (.iload_n 1, 1) := by decide +kernel
theorem dX8_append_1 : decode cX8_append 1 = .ok (.bipush 33, 2) := by decide +kernel
theorem dX8_append_3 : decode cX8_append 3 = .ok (.bipush 126, 2) := by decide +kernel
theorem dX8_append_5 : decode cX8_append 5 = .ok (.invokestatic 26, 3) := by decide +kernel
theorem dX8_append_8 : decode cX8_append 8 = .ok (.ifCond .ne 7, 3) := by decide +kernel
theorem dX8_append_11 : decode cX8_append 11 = .ok (.sipush (-10002), 3) := by decide +kernel
theorem dX8_append_14 : decode cX8_append 14 = .ok (.ireturn, 1) := by decide +kernel
theorem dX8_append_15 : decode cX8_append 15 = .ok (.aload_n 0, 1) := by decide +kernel
theorem dX8_append_16 : decode cX8_append 16 = .ok (.getfield 145, 3) := by decide +kernel
theorem dX8_append_19 : decode cX8_append 19 = .ok (.bipush 60, 2) := by decide +kernel
theorem dX8_append_21 : decode cX8_append 21 = .ok (.if_icmp .ne 7, 3) := by decide +kernel
theorem dX8_append_24 : decode cX8_append 24 = .ok (.sipush (-10004), 3) := by decide +kernel
theorem dX8_append_27 : decode cX8_append 27 = .ok (.ireturn, 1) := by decide +kernel
theorem dX8_append_28 : decode cX8_append 28 = .ok (.aload_n 0, 1) := by decide +kernel
theorem dX8_append_29 : decode cX8_append 29 = .ok (.getfield 19, 3) := by decide +kernel
theorem dX8_append_32 : decode cX8_append 32 = .ok (.aload_n 0, 1) := by decide +kernel
theorem dX8_append_33 : decode cX8_append 33 = .ok (.getfield 145, 3) := by decide +kernel
theorem dX8_append_36 : decode cX8_append 36 = .ok (.iload_n 1, 1) := by decide +kernel
theorem dX8_append_37 : decode cX8_append 37 = .ok (.i2c, 1) := by decide +kernel
theorem dX8_append_38 : decode cX8_append 38 = .ok (.castore, 1) := by decide +kernel
theorem dX8_append_39 : decode cX8_append 39 = .ok (.aload_n 0, 1) := by decide +kernel
theorem dX8_append_40 : decode cX8_append 40 = .ok (.dup, 1) := by decide +kernel
theorem dX8_append_41 : decode cX8_append 41 = .ok (.getfield 145, 3) := by decide +kernel
theorem dX8_append_44 : decode cX8_append 44 = .ok (.iconst 1, 1) := by decide +kernel
theorem dX8_append_45 : decode cX8_append 45 = .ok (.iadd, 1) := by decide +kernel
theorem dX8_append_46 : decode cX8_append 46 = .ok (.putfield 145, 3) := by decide +kernel
theorem dX8_append_49 : decode cX8_append 49 = .ok (.aload_n 0, 1) := by decide +kernel
theorem dX8_append_50 : decode cX8_append 50 = .ok (.getfield 145, 3) := by decide +kernel
theorem dX8_append_53 : decode cX8_append 53 = .ok (.ireturn, 1) := by decide +kernel
theorem dX8_clearText_0 : decode cX8_clearText 0 = .ok (.aload_n 0, 1) := by decide +kernel
theorem dX8_clearText_1 : decode cX8_clearText 1 = .ok (.getfield 145, 3) := by decide +kernel
theorem dX8_clearText_4 : decode cX8_clearText 4 = .ok (.istore_n 1, 1) := by decide +kernel
theorem dX8_clearText_5 : decode cX8_clearText 5 = .ok (.aload_n 0, 1) := by decide +kernel
theorem dX8_clearText_6 : decode cX8_clearText 6 = .ok (.iconst 0, 1) := by decide +kernel
theorem dX8_clearText_7 : decode cX8_clearText 7 = .ok (.putfield 145, 3) := by decide +kernel
theorem dX8_clearText_10 : decode cX8_clearText 10 = .ok (.iload_n 1, 1) := by decide +kernel
theorem dX8_clearText_11 : decode cX8_clearText 11 = .ok (.ireturn, 1) := by decide +kernel
theorem dX8_letter_0 : decode cX8_letter 0 = .ok (.aload_n 0, 1) := by decide +kernel
theorem dX8_letter_1 : decode cX8_letter 1 = .ok (.getfield 148, 3) := by decide +kernel
theorem dX8_letter_4 : decode cX8_letter 4 = .ok (.aload_n 0, 1) := by decide +kernel
theorem dX8_letter_5 : decode cX8_letter 5 = .ok (.getfield 145, 3) := by decide +kernel
theorem dX8_letter_8 : decode cX8_letter 8 = .ok (.if_icmp .ge 15, 3) := by decide +kernel
theorem dX8_letter_11 : decode cX8_letter 11 = .ok (.aload_n 0, 1) := by decide +kernel
theorem dX8_letter_12 : decode cX8_letter 12 = .ok (.getfield 19, 3) := by decide +kernel
theorem dX8_letter_15 : decode cX8_letter 15 = .ok (.aload_n 0, 1) := by decide +kernel
theorem dX8_letter_16 : decode cX8_letter 16 = .ok (.getfield 148, 3) := by decide +kernel
theorem dX8_letter_19 : decode cX8_letter 19 = .ok (.caload, 1) := by decide +kernel
theorem dX8_letter_20 : decode cX8_letter 20 = .ok (.goto 6, 3) := by decide +kernel
theorem dX8_letter_23 : decode cX8_letter 23 = .ok (.sipush (-10006), 3) := by decide +kernel
theorem dX8_letter_26 : decode cX8_letter 26 = .ok (.ireturn, 1) := by decide +kernel
theorem dX8_wants_0 : decode cX8_wants 0 = .ok (.aload_n 0, 1) := by decide +kernel
theorem dX8_wants_1 : decode cX8_wants 1 = .ok (.getfield 151, 3) := by decide +kernel
theorem dX8_wants_4 : decode cX8_wants 4 = .ok (.sipush (-10006), 3) := by decide +kernel
theorem dX8_wants_7 : decode cX8_wants 7 = .ok (.if_icmp .ne 31, 3) := by decide +kernel
theorem dX8_wants_10 : decode cX8_wants 10 = .ok (.aload_n 0, 1) := by decide +kernel
theorem dX8_wants_11 : decode cX8_wants 11 = .ok (.iload_n 1, 1) := by decide +kernel
theorem dX8_wants_12 : decode cX8_wants 12 = .ok (.ifCond .eq 9, 3) := by decide +kernel
theorem dX8_wants_15 : decode cX8_wants 15 = .ok (.sipush (-10006), 3) := by decide +kernel
theorem dX8_wants_18 : decode cX8_wants 18 = .ok (.goto 7, 3) := by decide +kernel
theorem dX8_wants_21 : decode cX8_wants 21 = .ok (.aload_n 0, 1) := by decide +kernel
theorem dX8_wants_22 : decode cX8_wants 22 = .ok (.getfield 148, 3) := by decide +kernel
theorem dX8_wants_25 : decode cX8_wants 25 = .ok (.putfield 151, 3) := by decide +kernel
theorem dX8_wants_28 : decode cX8_wants 28 = .ok (.aload_n 0, 1) := by decide +kernel
theorem dX8_wants_29 : decode cX8_wants 29 = .ok (.dup, 1) := by decide +kernel
theorem dX8_wants_30 : decode cX8_wants 30 = .ok (.getfield 148, 3) := by decide +kernel
theorem dX8_wants_33 : decode cX8_wants 33 = .ok (.iconst 1, 1) := by decide +kernel
theorem dX8_wants_34 : decode cX8_wants 34 = .ok (.iadd, 1) := by decide +kernel
theorem dX8_wants_35 : decode cX8_wants 35 = .ok (.putfield 148, 3) := by decide +kernel
theorem dX8_wants_38 : decode cX8_wants 38 = .ok (.return_, 1) := by decide +kernel
theorem dX8_readMove_0 : decode cX8_readMove 0 = .ok (.aload_n 0, 1) := by decide +kernel
theorem dX8_readMove_1 : decode cX8_readMove 1 = .ok (.invokevirtual 154, 3) := by decide +kernel
theorem dX8_readMove_4 : decode cX8_readMove 4 = .ok (.istore_n 1, 1) := by decide +kernel
theorem dX8_readMove_5 : decode cX8_readMove 5 = .ok (.aload_n 0, 1) := by decide +kernel
theorem dX8_readMove_6 : decode cX8_readMove 6 = .ok (.iload_n 1, 1) := by decide +kernel
theorem dX8_readMove_7 : decode cX8_readMove 7 = .ok (.bipush 104, 2) := by decide +kernel
theorem dX8_readMove_9 : decode cX8_readMove 9 = .ok (.if_icmp .eq 33, 3) := by decide +kernel
theorem dX8_readMove_12 : decode cX8_readMove 12 = .ok (.iload_n 1, 1) := by decide +kernel
theorem dX8_readMove_13 : decode cX8_readMove 13 = .ok (.bipush 98, 2) := by decide +kernel
theorem dX8_readMove_15 : decode cX8_readMove 15 = .ok (.if_icmp .eq 27, 3) := by decide +kernel
theorem dX8_readMove_18 : decode cX8_readMove 18 = .ok (.iload_n 1, 1) := by decide +kernel
theorem dX8_readMove_19 : decode cX8_readMove 19 = .ok (.bipush 43, 2) := by decide +kernel
theorem dX8_readMove_21 : decode cX8_readMove 21 = .ok (.if_icmp .eq 21, 3) := by decide +kernel
theorem dX8_readMove_24 : decode cX8_readMove 24 = .ok (.iload_n 1, 1) := by decide +kernel
theorem dX8_readMove_25 : decode cX8_readMove 25 = .ok (.bipush 45, 2) := by decide +kernel
theorem dX8_readMove_27 : decode cX8_readMove 27 = .ok (.if_icmp .eq 15, 3) := by decide +kernel
theorem dX8_readMove_30 : decode cX8_readMove 30 = .ok (.iload_n 1, 1) := by decide +kernel
theorem dX8_readMove_31 : decode cX8_readMove 31 = .ok (.bipush 99, 2) := by decide +kernel
theorem dX8_readMove_33 : decode cX8_readMove 33 = .ok (.if_icmp .eq 9, 3) := by decide +kernel
theorem dX8_readMove_36 : decode cX8_readMove 36 = .ok (.iload_n 1, 1) := by decide +kernel
theorem dX8_readMove_37 : decode cX8_readMove 37 = .ok (.bipush 100, 2) := by decide +kernel
theorem dX8_readMove_39 : decode cX8_readMove 39 = .ok (.if_icmp .ne 7, 3) := by decide +kernel
theorem dX8_readMove_42 : decode cX8_readMove 42 = .ok (.iconst 1, 1) := by decide +kernel
theorem dX8_readMove_43 : decode cX8_readMove 43 = .ok (.goto 4, 3) := by decide +kernel
theorem dX8_readMove_46 : decode cX8_readMove 46 = .ok (.iconst 0, 1) := by decide +kernel
theorem dX8_readMove_47 : decode cX8_readMove 47 = .ok (.invokevirtual 157, 3) := by decide +kernel
theorem dX8_readMove_50 : decode cX8_readMove 50 = .ok (.iconst 3, 1) := by decide +kernel
theorem dX8_readMove_51 : decode cX8_readMove 51 = .ok (.aload_n 0, 1) := by decide +kernel
theorem dX8_readMove_52 : decode cX8_readMove 52 = .ok (.getfield 161, 3) := by decide +kernel
theorem dX8_readMove_55 : decode cX8_readMove 55 = .ok (.imul, 1) := by decide +kernel
theorem dX8_readMove_56 : decode cX8_readMove 56 = .ok (.istore_n 2, 1) := by decide +kernel
theorem dX8_readMove_57 : decode cX8_readMove 57 = .ok (.aload_n 0, 1) := by decide +kernel
theorem dX8_readMove_58 : decode cX8_readMove 58 = .ok (.getfield 23, 3) := by decide +kernel
theorem dX8_readMove_61 : decode cX8_readMove 61 = .ok (.iload_n 2, 1) := by decide +kernel
theorem dX8_readMove_62 : decode cX8_readMove 62 = .ok (.iload_n 1, 1) := by decide +kernel
theorem dX8_readMove_63 : decode cX8_readMove 63 = .ok (.iastore, 1) := by decide +kernel
theorem dX8_readMove_64 : decode cX8_readMove 64 = .ok (.iload_n 1, 1) := by decide +kernel
theorem dX8_readMove_65 : decode cX8_readMove 65 = .ok (.bipush 104, 2) := by decide +kernel
theorem dX8_readMove_67 : decode cX8_readMove 67 = .ok (.if_icmp .eq 15, 3) := by decide +kernel
theorem dX8_readMove_70 : decode cX8_readMove 70 = .ok (.iload_n 1, 1) := by decide +kernel
theorem dX8_readMove_71 : decode cX8_readMove 71 = .ok (.bipush 99, 2) := by decide +kernel
theorem dX8_readMove_73 : decode cX8_readMove 73 = .ok (.if_icmp .eq 9, 3) := by decide +kernel
theorem dX8_readMove_76 : decode cX8_readMove 76 = .ok (.iload_n 1, 1) := by decide +kernel
theorem dX8_readMove_77 : decode cX8_readMove 77 = .ok (.bipush 100, 2) := by decide +kernel
theorem dX8_readMove_79 : decode cX8_readMove 79 = .ok (.if_icmp .ne 33, 3) := by decide +kernel
theorem dX8_readMove_82 : decode cX8_readMove 82 = .ok (.aload_n 0, 1) := by decide +kernel
theorem dX8_readMove_83 : decode cX8_readMove 83 = .ok (.getfield 23, 3) := by decide +kernel
theorem dX8_readMove_86 : decode cX8_readMove 86 = .ok (.iload_n 2, 1) := by decide +kernel
theorem dX8_readMove_87 : decode cX8_readMove 87 = .ok (.iconst 1, 1) := by decide +kernel
theorem dX8_readMove_88 : decode cX8_readMove 88 = .ok (.iadd, 1) := by decide +kernel
theorem dX8_readMove_89 : decode cX8_readMove 89 = .ok (.aload_n 0, 1) := by decide +kernel
theorem dX8_readMove_90 : decode cX8_readMove 90 = .ok (.invokevirtual 154, 3) := by decide +kernel
theorem dX8_readMove_93 : decode cX8_readMove 93 = .ok (.bipush 48, 2) := by decide +kernel
theorem dX8_readMove_95 : decode cX8_readMove 95 = .ok (.isub, 1) := by decide +kernel
theorem dX8_readMove_96 : decode cX8_readMove 96 = .ok (.iastore, 1) := by decide +kernel
theorem dX8_readMove_97 : decode cX8_readMove 97 = .ok (.aload_n 0, 1) := by decide +kernel
theorem dX8_readMove_98 : decode cX8_readMove 98 = .ok (.aload_n 0, 1) := by decide +kernel
theorem dX8_readMove_99 : decode cX8_readMove 99 = .ok (.invokevirtual 154, 3) := by decide +kernel
theorem dX8_readMove_102 : decode cX8_readMove 102 = .ok (.bipush 48, 2) := by decide +kernel
theorem dX8_readMove_104 : decode cX8_readMove 104 = .ok (.bipush 55, 2) := by decide +kernel
theorem dX8_readMove_106 : decode cX8_readMove 106 = .ok (.invokestatic 26, 3) := by decide +kernel
theorem dX8_readMove_109 : decode cX8_readMove 109 = .ok (.invokevirtual 157, 3) := by decide +kernel
theorem dX8_readMove_112 : decode cX8_readMove 112 = .ok (.iload_n 1, 1) := by decide +kernel
theorem dX8_readMove_113 : decode cX8_readMove 113 = .ok (.bipush 104, 2) := by decide +kernel
theorem dX8_readMove_115 : decode cX8_readMove 115 = .ok (.if_icmp .eq 9, 3) := by decide +kernel
theorem dX8_readMove_118 : decode cX8_readMove 118 = .ok (.iload_n 1, 1) := by decide +kernel
theorem dX8_readMove_119 : decode cX8_readMove 119 = .ok (.bipush 99, 2) := by decide +kernel
theorem dX8_readMove_121 : decode cX8_readMove 121 = .ok (.if_icmp .ne 33, 3) := by decide +kernel
theorem dX8_readMove_124 : decode cX8_readMove 124 = .ok (.aload_n 0, 1) := by decide +kernel
theorem dX8_readMove_125 : decode cX8_readMove 125 = .ok (.getfield 23, 3) := by decide +kernel
theorem dX8_readMove_128 : decode cX8_readMove 128 = .ok (.iload_n 2, 1) := by decide +kernel
theorem dX8_readMove_129 : decode cX8_readMove 129 = .ok (.iconst 2, 1) := by decide +kernel
theorem dX8_readMove_130 : decode cX8_readMove 130 = .ok (.iadd, 1) := by decide +kernel
theorem dX8_readMove_131 : decode cX8_readMove 131 = .ok (.aload_n 0, 1) := by decide +kernel
theorem dX8_readMove_132 : decode cX8_readMove 132 = .ok (.invokevirtual 154, 3) := by decide +kernel
theorem dX8_readMove_135 : decode cX8_readMove 135 = .ok (.bipush 97, 2) := by decide +kernel
theorem dX8_readMove_137 : decode cX8_readMove 137 = .ok (.isub, 1) := by decide +kernel
theorem dX8_readMove_138 : decode cX8_readMove 138 = .ok (.iastore, 1) := by decide +kernel
theorem dX8_readMove_139 : decode cX8_readMove 139 = .ok (.aload_n 0, 1) := by decide +kernel
theorem dX8_readMove_140 : decode cX8_readMove 140 = .ok (.aload_n 0, 1) := by decide +kernel
theorem dX8_readMove_141 : decode cX8_readMove 141 = .ok (.invokevirtual 154, 3) := by decide +kernel
theorem dX8_readMove_144 : decode cX8_readMove 144 = .ok (.bipush 97, 2) := by decide +kernel
theorem dX8_readMove_146 : decode cX8_readMove 146 = .ok (.bipush 112, 2) := by decide +kernel
theorem dX8_readMove_148 : decode cX8_readMove 148 = .ok (.invokestatic 26, 3) := by decide +kernel
theorem dX8_readMove_151 : decode cX8_readMove 151 = .ok (.invokevirtual 157, 3) := by decide +kernel
theorem dX8_readMove_154 : decode cX8_readMove 154 = .ok (.aload_n 0, 1) := by decide +kernel
theorem dX8_readMove_155 : decode cX8_readMove 155 = .ok (.dup, 1) := by decide +kernel
theorem dX8_readMove_156 : decode cX8_readMove 156 = .ok (.getfield 161, 3) := by decide +kernel
theorem dX8_readMove_159 : decode cX8_readMove 159 = .ok (.iconst 1, 1) := by decide +kernel
theorem dX8_readMove_160 : decode cX8_readMove 160 = .ok (.iadd, 1) := by decide +kernel
theorem dX8_readMove_161 : decode cX8_readMove 161 = .ok (.putfield 161, 3) := by decide +kernel
theorem dX8_readMove_164 : decode cX8_readMove 164 = .ok (.return_, 1) := by decide +kernel
theorem dX8_errorPosition_0 : decode cX8_errorPosition 0 = .ok (.aload_n 0, 1) := by decide +kernel
theorem dX8_errorPosition_1 : decode cX8_errorPosition 1 = .ok (.iconst 0, 1) := by decide +kernel
theorem dX8_errorPosition_2 : decode cX8_errorPosition 2 = .ok (.putfield 161, 3) := by decide +kernel
theorem dX8_errorPosition_5 : decode cX8_errorPosition 5 = .ok (.aload_n 0, 1) := by decide +kernel
theorem dX8_errorPosition_6 : decode cX8_errorPosition 6 = .ok (.iconst 0, 1) := by decide +kernel
theorem dX8_errorPosition_7 : decode cX8_errorPosition 7 = .ok (.putfield 148, 3) := by decide +kernel
theorem dX8_errorPosition_10 : decode cX8_errorPosition 10 = .ok (.aload_n 0, 1) := by decide +kernel
theorem dX8_errorPosition_11 : decode cX8_errorPosition 11 = .ok (.sipush (-10006), 3) := by decide +kernel
theorem dX8_errorPosition_14 : decode cX8_errorPosition 14 = .ok (.putfield 151, 3) := by decide +kernel
theorem dX8_errorPosition_17 : decode cX8_errorPosition 17 = .ok (.iconst 1, 1) := by decide +kernel
theorem dX8_errorPosition_18 : decode cX8_errorPosition 18 = .ok (.istore_n 1, 1) := by decide +kernel
theorem dX8_errorPosition_19 : decode cX8_errorPosition 19 = .ok (.iload_n 1, 1) := by decide +kernel
theorem dX8_errorPosition_20 : decode cX8_errorPosition 20 = .ok (.ifCond .eq 75, 3) := by decide +kernel
theorem dX8_errorPosition_23 : decode cX8_errorPosition 23 = .ok (.aload_n 0, 1) := by decide +kernel
theorem dX8_errorPosition_24 : decode cX8_errorPosition 24 = .ok (.invokevirtual 164, 3) := by decide +kernel
theorem dX8_errorPosition_27 : decode cX8_errorPosition 27 = .ok (.aload_n 0, 1) := by decide +kernel
theorem dX8_errorPosition_28 : decode cX8_errorPosition 28 = .ok (.getfield 151, 3) := by decide +kernel
theorem dX8_errorPosition_31 : decode cX8_errorPosition 31 = .ok (.sipush (-10006), 3) := by decide +kernel
theorem dX8_errorPosition_34 : decode cX8_errorPosition 34 = .ok (.if_icmp .ne 18, 3) := by decide +kernel
theorem dX8_errorPosition_37 : decode cX8_errorPosition 37 = .ok (.aload_n 0, 1) := by decide +kernel
theorem dX8_errorPosition_38 : decode cX8_errorPosition 38 = .ok (.getfield 148, 3) := by decide +kernel
theorem dX8_errorPosition_41 : decode cX8_errorPosition 41 = .ok (.aload_n 0, 1) := by decide +kernel
theorem dX8_errorPosition_42 : decode cX8_errorPosition 42 = .ok (.getfield 145, 3) := by decide +kernel
theorem dX8_errorPosition_45 : decode cX8_errorPosition 45 = .ok (.if_icmp .ge 7, 3) := by decide +kernel
theorem dX8_errorPosition_48 : decode cX8_errorPosition 48 = .ok (.iconst 1, 1) := by decide +kernel
theorem dX8_errorPosition_49 : decode cX8_errorPosition 49 = .ok (.goto 4, 3) := by decide +kernel
theorem dX8_errorPosition_52 : decode cX8_errorPosition 52 = .ok (.iconst 0, 1) := by decide +kernel
theorem dX8_errorPosition_53 : decode cX8_errorPosition 53 = .ok (.istore_n 1, 1) := by decide +kernel
theorem dX8_errorPosition_54 : decode cX8_errorPosition 54 = .ok (.iload_n 1, 1) := by decide +kernel
theorem dX8_errorPosition_55 : decode cX8_errorPosition 55 = .ok (.ifCond .eq (-36), 3) := by decide +kernel
theorem dX8_errorPosition_58 : decode cX8_errorPosition 58 = .ok (.aload_n 0, 1) := by decide +kernel
theorem dX8_errorPosition_59 : decode cX8_errorPosition 59 = .ok (.aload_n 0, 1) := by decide +kernel
theorem dX8_errorPosition_60 : decode cX8_errorPosition 60 = .ok (.invokevirtual 154, 3) := by decide +kernel
theorem dX8_errorPosition_63 : decode cX8_errorPosition 63 = .ok (.bipush 44, 2) := by decide +kernel
theorem dX8_errorPosition_65 : decode cX8_errorPosition 65 = .ok (.if_icmp .ne 7, 3) := by decide +kernel
theorem dX8_errorPosition_68 : decode cX8_errorPosition 68 = .ok (.iconst 1, 1) := by decide +kernel
theorem dX8_errorPosition_69 : decode cX8_errorPosition 69 = .ok (.goto 4, 3) := by decide +kernel
theorem dX8_errorPosition_72 : decode cX8_errorPosition 72 = .ok (.iconst 0, 1) := by decide +kernel
theorem dX8_errorPosition_73 : decode cX8_errorPosition 73 = .ok (.invokevirtual 157, 3) := by decide +kernel
theorem dX8_errorPosition_76 : decode cX8_errorPosition 76 = .ok (.aload_n 0, 1) := by decide +kernel
theorem dX8_errorPosition_77 : decode cX8_errorPosition 77 = .ok (.getfield 151, 3) := by decide +kernel
theorem dX8_errorPosition_80 : decode cX8_errorPosition 80 = .ok (.sipush (-10006), 3) := by decide +kernel
theorem dX8_errorPosition_83 : decode cX8_errorPosition 83 = .ok (.if_icmp .ne 7, 3) := by decide +kernel
theorem dX8_errorPosition_86 : decode cX8_errorPosition 86 = .ok (.iconst 1, 1) := by decide +kernel
theorem dX8_errorPosition_87 : decode cX8_errorPosition 87 = .ok (.goto 4, 3) := by decide +kernel
theorem dX8_errorPosition_90 : decode cX8_errorPosition 90 = .ok (.iconst 0, 1) := by decide +kernel
theorem dX8_errorPosition_91 : decode cX8_errorPosition 91 = .ok (.istore_n 1, 1) := by decide +kernel
theorem dX8_errorPosition_92 : decode cX8_errorPosition 92 = .ok (.goto (-73), 3) := by decide +kernel
theorem dX8_errorPosition_95 : decode cX8_errorPosition 95 = .ok (.aload_n 0, 1) := by decide +kernel
theorem dX8_errorPosition_96 : decode cX8_errorPosition 96 = .ok (.getfield 151, 3) := by decide +kernel
theorem dX8_errorPosition_99 : decode cX8_errorPosition 99 = .ok (.ireturn, 1) := by decide +kernel
theorem dX8_makeOne_0 : decode cX8_makeOne 0 = .ok (.aload_n 0, 1) := by decide +kernel
theorem dX8_makeOne_1 : decode cX8_makeOne 1 = .ok (.getfield 23, 3) := by decide +kernel
theorem dX8_makeOne_4 : decode cX8_makeOne 4 = .ok (.iload_n 1, 1) := by decide +kernel
theorem dX8_makeOne_5 : decode cX8_makeOne 5 = .ok (.iconst 1, 1) := by decide +kernel
theorem dX8_makeOne_6 : decode cX8_makeOne 6 = .ok (.iadd, 1) := by decide +kernel
theorem dX8_makeOne_7 : decode cX8_makeOne 7 = .ok (.iaload, 1) := by decide +kernel
theorem dX8_makeOne_8 : decode cX8_makeOne 8 = .ok (.istore_n 2, 1) := by decide +kernel
theorem dX8_makeOne_9 : decode cX8_makeOne 9 = .ok (.aload_n 0, 1) := by decide +kernel
theorem dX8_makeOne_10 : decode cX8_makeOne 10 = .ok (.getfield 23, 3) := by decide +kernel
theorem dX8_makeOne_13 : decode cX8_makeOne 13 = .ok (.iload_n 1, 1) := by decide +kernel
theorem dX8_makeOne_14 : decode cX8_makeOne 14 = .ok (.iconst 2, 1) := by decide +kernel
theorem dX8_makeOne_15 : decode cX8_makeOne 15 = .ok (.iadd, 1) := by decide +kernel
theorem dX8_makeOne_16 : decode cX8_makeOne 16 = .ok (.iaload, 1) := by decide +kernel
theorem dX8_makeOne_17 : decode cX8_makeOne 17 = .ok (.istore_n 3, 1) := by decide +kernel
theorem dX8_makeOne_18 : decode cX8_makeOne 18 = .ok (.iconst 0, 1) := by decide +kernel
theorem dX8_makeOne_19 : decode cX8_makeOne 19 = .ok (.istore 4, 2) := by decide +kernel
theorem dX8_makeOne_21 : decode cX8_makeOne 21 = .ok (.aload_n 0, 1) := by decide +kernel
theorem dX8_makeOne_22 : decode cX8_makeOne 22 = .ok (.getfield 23, 3) := by decide +kernel
theorem dX8_makeOne_25 : decode cX8_makeOne 25 = .ok (.iload_n 1, 1) := by decide +kernel
theorem dX8_makeOne_26 : decode cX8_makeOne 26 = .ok (.iaload, 1) := by decide +kernel
theorem dX8_makeOne_27 : decode cX8_makeOne 27 = .ok (.tableswitch 140 98 104 #[63, 96, 119, 140, 140, 140, 41], 41) := by decide +kernel
theorem dX8_makeOne_68 : decode cX8_makeOne 68 = .ok (.aload_n 0, 1) := by decide +kernel
theorem dX8_makeOne_69 : decode cX8_makeOne 69 = .ok (.iload_n 2, 1) := by decide +kernel
theorem dX8_makeOne_70 : decode cX8_makeOne 70 = .ok (.iload_n 3, 1) := by decide +kernel
theorem dX8_makeOne_71 : decode cX8_makeOne 71 = .ok (.invokevirtual 86, 3) := by decide +kernel
theorem dX8_makeOne_74 : decode cX8_makeOne 74 = .ok (.istore 4, 2) := by decide +kernel
theorem dX8_makeOne_76 : decode cX8_makeOne 76 = .ok (.iload 4, 2) := by decide +kernel
theorem dX8_makeOne_78 : decode cX8_makeOne 78 = .ok (.ifCond .ne 135, 3) := by decide +kernel
theorem dX8_makeOne_81 : decode cX8_makeOne 81 = .ok (.aload_n 0, 1) := by decide +kernel
theorem dX8_makeOne_82 : decode cX8_makeOne 82 = .ok (.iload_n 2, 1) := by decide +kernel
theorem dX8_makeOne_83 : decode cX8_makeOne 83 = .ok (.iload_n 3, 1) := by decide +kernel
theorem dX8_makeOne_84 : decode cX8_makeOne 84 = .ok (.invokevirtual 49, 3) := by decide +kernel
theorem dX8_makeOne_87 : decode cX8_makeOne 87 = .ok (.goto 126, 3) := by decide +kernel
theorem dX8_makeOne_90 : decode cX8_makeOne 90 = .ok (.aload_n 0, 1) := by decide +kernel
theorem dX8_makeOne_91 : decode cX8_makeOne 91 = .ok (.getfield 7, 3) := by decide +kernel
theorem dX8_makeOne_94 : decode cX8_makeOne 94 = .ok (.bipush 6, 2) := by decide +kernel
theorem dX8_makeOne_96 : decode cX8_makeOne 96 = .ok (.iaload, 1) := by decide +kernel
theorem dX8_makeOne_97 : decode cX8_makeOne 97 = .ok (.iconst 1, 1) := by decide +kernel
theorem dX8_makeOne_98 : decode cX8_makeOne 98 = .ok (.if_icmp .ne 7, 3) := by decide +kernel
theorem dX8_makeOne_101 : decode cX8_makeOne 101 = .ok (.iconst 0, 1) := by decide +kernel
theorem dX8_makeOne_102 : decode cX8_makeOne 102 = .ok (.goto 6, 3) := by decide +kernel
theorem dX8_makeOne_105 : decode cX8_makeOne 105 = .ok (.sipush (-10003), 3) := by decide +kernel
theorem dX8_makeOne_108 : decode cX8_makeOne 108 = .ok (.istore 4, 2) := by decide +kernel
theorem dX8_makeOne_110 : decode cX8_makeOne 110 = .ok (.iload 4, 2) := by decide +kernel
theorem dX8_makeOne_112 : decode cX8_makeOne 112 = .ok (.ifCond .ne 101, 3) := by decide +kernel
theorem dX8_makeOne_115 : decode cX8_makeOne 115 = .ok (.aload_n 0, 1) := by decide +kernel
theorem dX8_makeOne_116 : decode cX8_makeOne 116 = .ok (.invokevirtual 99, 3) := by decide +kernel
theorem dX8_makeOne_119 : decode cX8_makeOne 119 = .ok (.pop, 1) := by decide +kernel
theorem dX8_makeOne_120 : decode cX8_makeOne 120 = .ok (.goto 93, 3) := by decide +kernel
theorem dX8_makeOne_123 : decode cX8_makeOne 123 = .ok (.aload_n 0, 1) := by decide +kernel
theorem dX8_makeOne_124 : decode cX8_makeOne 124 = .ok (.iload_n 2, 1) := by decide +kernel
theorem dX8_makeOne_125 : decode cX8_makeOne 125 = .ok (.iload_n 3, 1) := by decide +kernel
theorem dX8_makeOne_126 : decode cX8_makeOne 126 = .ok (.invokevirtual 112, 3) := by decide +kernel
theorem dX8_makeOne_129 : decode cX8_makeOne 129 = .ok (.istore 4, 2) := by decide +kernel
theorem dX8_makeOne_131 : decode cX8_makeOne 131 = .ok (.iload 4, 2) := by decide +kernel
theorem dX8_makeOne_133 : decode cX8_makeOne 133 = .ok (.ifCond .ne 80, 3) := by decide +kernel
theorem dX8_makeOne_136 : decode cX8_makeOne 136 = .ok (.aload_n 0, 1) := by decide +kernel
theorem dX8_makeOne_137 : decode cX8_makeOne 137 = .ok (.iload_n 2, 1) := by decide +kernel
theorem dX8_makeOne_138 : decode cX8_makeOne 138 = .ok (.iload_n 3, 1) := by decide +kernel
theorem dX8_makeOne_139 : decode cX8_makeOne 139 = .ok (.invokevirtual 115, 3) := by decide +kernel
theorem dX8_makeOne_142 : decode cX8_makeOne 142 = .ok (.pop, 1) := by decide +kernel
theorem dX8_makeOne_143 : decode cX8_makeOne 143 = .ok (.goto 70, 3) := by decide +kernel
theorem dX8_makeOne_146 : decode cX8_makeOne 146 = .ok (.aload_n 0, 1) := by decide +kernel
theorem dX8_makeOne_147 : decode cX8_makeOne 147 = .ok (.iload_n 2, 1) := by decide +kernel
theorem dX8_makeOne_148 : decode cX8_makeOne 148 = .ok (.invokevirtual 121, 3) := by decide +kernel
theorem dX8_makeOne_151 : decode cX8_makeOne 151 = .ok (.istore 4, 2) := by decide +kernel
theorem dX8_makeOne_153 : decode cX8_makeOne 153 = .ok (.iload 4, 2) := by decide +kernel
theorem dX8_makeOne_155 : decode cX8_makeOne 155 = .ok (.ifCond .ne 58, 3) := by decide +kernel
theorem dX8_makeOne_158 : decode cX8_makeOne 158 = .ok (.aload_n 0, 1) := by decide +kernel
theorem dX8_makeOne_159 : decode cX8_makeOne 159 = .ok (.iload_n 2, 1) := by decide +kernel
theorem dX8_makeOne_160 : decode cX8_makeOne 160 = .ok (.invokevirtual 124, 3) := by decide +kernel
theorem dX8_makeOne_163 : decode cX8_makeOne 163 = .ok (.pop, 1) := by decide +kernel
theorem dX8_makeOne_164 : decode cX8_makeOne 164 = .ok (.goto 49, 3) := by decide +kernel
theorem dX8_makeOne_167 : decode cX8_makeOne 167 = .ok (.aload_n 0, 1) := by decide +kernel
theorem dX8_makeOne_168 : decode cX8_makeOne 168 = .ok (.getfield 7, 3) := by decide +kernel
theorem dX8_makeOne_171 : decode cX8_makeOne 171 = .ok (.bipush 6, 2) := by decide +kernel
theorem dX8_makeOne_173 : decode cX8_makeOne 173 = .ok (.iaload, 1) := by decide +kernel
theorem dX8_makeOne_174 : decode cX8_makeOne 174 = .ok (.iconst 2, 1) := by decide +kernel
theorem dX8_makeOne_175 : decode cX8_makeOne 175 = .ok (.if_icmp .ne 7, 3) := by decide +kernel
theorem dX8_makeOne_178 : decode cX8_makeOne 178 = .ok (.iconst 0, 1) := by decide +kernel
theorem dX8_makeOne_179 : decode cX8_makeOne 179 = .ok (.goto 6, 3) := by decide +kernel
theorem dX8_makeOne_182 : decode cX8_makeOne 182 = .ok (.sipush (-10003), 3) := by decide +kernel
theorem dX8_makeOne_185 : decode cX8_makeOne 185 = .ok (.istore 4, 2) := by decide +kernel
theorem dX8_makeOne_187 : decode cX8_makeOne 187 = .ok (.iload 4, 2) := by decide +kernel
theorem dX8_makeOne_189 : decode cX8_makeOne 189 = .ok (.ifCond .ne 24, 3) := by decide +kernel
theorem dX8_makeOne_192 : decode cX8_makeOne 192 = .ok (.aload_n 0, 1) := by decide +kernel
theorem dX8_makeOne_193 : decode cX8_makeOne 193 = .ok (.aload_n 0, 1) := by decide +kernel
theorem dX8_makeOne_194 : decode cX8_makeOne 194 = .ok (.getfield 23, 3) := by decide +kernel
theorem dX8_makeOne_197 : decode cX8_makeOne 197 = .ok (.iload_n 1, 1) := by decide +kernel
theorem dX8_makeOne_198 : decode cX8_makeOne 198 = .ok (.iaload, 1) := by decide +kernel
theorem dX8_makeOne_199 : decode cX8_makeOne 199 = .ok (.bipush 43, 2) := by decide +kernel
theorem dX8_makeOne_201 : decode cX8_makeOne 201 = .ok (.if_icmp .ne 7, 3) := by decide +kernel
theorem dX8_makeOne_204 : decode cX8_makeOne 204 = .ok (.iconst 1, 1) := by decide +kernel
theorem dX8_makeOne_205 : decode cX8_makeOne 205 = .ok (.goto 4, 3) := by decide +kernel
theorem dX8_makeOne_208 : decode cX8_makeOne 208 = .ok (.iconst (-1), 1) := by decide +kernel
theorem dX8_makeOne_209 : decode cX8_makeOne 209 = .ok (.invokevirtual 102, 3) := by decide +kernel
theorem dX8_makeOne_212 : decode cX8_makeOne 212 = .ok (.pop, 1) := by decide +kernel
theorem dX8_makeOne_213 : decode cX8_makeOne 213 = .ok (.iload 4, 2) := by decide +kernel
theorem dX8_makeOne_215 : decode cX8_makeOne 215 = .ok (.ireturn, 1) := by decide +kernel
theorem dX8_play_0 : decode cX8_play 0 = .ok (.aload_n 0, 1) := by decide +kernel
theorem dX8_play_1 : decode cX8_play 1 = .ok (.invokevirtual 167, 3) := by decide +kernel
theorem dX8_play_4 : decode cX8_play 4 = .ok (.sipush (-10006), 3) := by decide +kernel
theorem dX8_play_7 : decode cX8_play 7 = .ok (.if_icmp .eq 7, 3) := by decide +kernel
theorem dX8_play_10 : decode cX8_play 10 = .ok (.sipush (-10005), 3) := by decide +kernel
theorem dX8_play_13 : decode cX8_play 13 = .ok (.ireturn, 1) := by decide +kernel
theorem dX8_play_14 : decode cX8_play 14 = .ok (.aload_n 0, 1) := by decide +kernel
theorem dX8_play_15 : decode cX8_play 15 = .ok (.invokevirtual 42, 3) := by decide +kernel
theorem dX8_play_18 : decode cX8_play 18 = .ok (.iconst 0, 1) := by decide +kernel
theorem dX8_play_19 : decode cX8_play 19 = .ok (.istore_n 1, 1) := by decide +kernel
theorem dX8_play_20 : decode cX8_play 20 = .ok (.iload_n 1, 1) := by decide +kernel
theorem dX8_play_21 : decode cX8_play 21 = .ok (.aload_n 0, 1) := by decide +kernel
theorem dX8_play_22 : decode cX8_play 22 = .ok (.getfield 161, 3) := by decide +kernel
theorem dX8_play_25 : decode cX8_play 25 = .ok (.if_icmp .ge 19, 3) := by decide +kernel
theorem dX8_play_28 : decode cX8_play 28 = .ok (.aload_n 0, 1) := by decide +kernel
theorem dX8_play_29 : decode cX8_play 29 = .ok (.iconst 3, 1) := by decide +kernel
theorem dX8_play_30 : decode cX8_play 30 = .ok (.iload_n 1, 1) := by decide +kernel
theorem dX8_play_31 : decode cX8_play 31 = .ok (.imul, 1) := by decide +kernel
theorem dX8_play_32 : decode cX8_play 32 = .ok (.invokevirtual 170, 3) := by decide +kernel
theorem dX8_play_35 : decode cX8_play 35 = .ok (.ifCond .ne 9, 3) := by decide +kernel
theorem dX8_play_38 : decode cX8_play 38 = .ok (.iinc 1 1, 3) := by decide +kernel
theorem dX8_play_41 : decode cX8_play 41 = .ok (.goto (-21), 3) := by decide +kernel
theorem dX8_play_44 : decode cX8_play 44 = .ok (.aload_n 0, 1) := by decide +kernel
theorem dX8_play_45 : decode cX8_play 45 = .ok (.iconst 0, 1) := by decide +kernel
theorem dX8_play_46 : decode cX8_play 46 = .ok (.putfield 145, 3) := by decide +kernel
theorem dX8_play_49 : decode cX8_play 49 = .ok (.iload_n 1, 1) := by decide +kernel
theorem dX8_play_50 : decode cX8_play 50 = .ok (.ireturn, 1) := by decide +kernel
end
section
theorem dL_law_0 : decode cL_law 0 = .ok (.new 7, 3) := by decide +kernel
theorem dL_law_3 : decode cL_law 3 = .ok (.dup, 1) := by decide +kernel
theorem dL_law_4 : decode cL_law 4 = .ok (.invokespecial 9, 3) := by decide +kernel
theorem dL_law_7 : decode cL_law 7 = .ok (.astore_n 1, 1) := by decide +kernel
theorem dL_law_8 : decode cL_law 8 = .ok (.new 10, 3) := by decide +kernel
theorem dL_law_11 : decode cL_law 11 = .ok (.dup, 1) := by decide +kernel
theorem dL_law_12 : decode cL_law 12 = .ok (.invokespecial 12, 3) := by decide +kernel
theorem dL_law_15 : decode cL_law 15 = .ok (.astore_n 2, 1) := by decide +kernel
theorem dL_law_16 : decode cL_law 16 = .ok (.iconst 0, 1) := by decide +kernel
theorem dL_law_17 : decode cL_law 17 = .ok (.istore_n 3, 1) := by decide +kernel
theorem dL_law_18 : decode cL_law 18 = .ok (.iload_n 3, 1) := by decide +kernel
theorem dL_law_19 : decode cL_law 19 = .ok (.aload_n 0, 1) := by decide +kernel
theorem dL_law_20 : decode cL_law 20 = .ok (.arraylength, 1) := by decide +kernel
theorem dL_law_21 : decode cL_law 21 = .ok (.iconst 3, 1) := by decide +kernel
theorem dL_law_22 : decode cL_law 22 = .ok (.isub, 1) := by decide +kernel
theorem dL_law_23 : decode cL_law 23 = .ok (.if_icmp .gt 636, 3) := by decide +kernel
theorem dL_law_26 : decode cL_law 26 = .ok (.aload_n 0, 1) := by decide +kernel
theorem dL_law_27 : decode cL_law 27 = .ok (.iload_n 3, 1) := by decide +kernel
theorem dL_law_28 : decode cL_law 28 = .ok (.iaload, 1) := by decide +kernel
theorem dL_law_29 : decode cL_law 29 = .ok (.bipush 31, 2) := by decide +kernel
theorem dL_law_31 : decode cL_law 31 = .ok (.iand, 1) := by decide +kernel
theorem dL_law_32 : decode cL_law 32 = .ok (.tableswitch 621 0 24 #[116, 149, 172, 185, 218, 251, 264, 287, 320, 343, 376, 409, 432, 445, 468, 481, 494, 507, 520, 543, 556, 569, 582, 595, 608], 116) := by decide +kernel
theorem dL_law_148 : decode cL_law 148 = .ok (.aload_n 1, 1) := by decide +kernel
theorem dL_law_149 : decode cL_law 149 = .ok (.aload_n 0, 1) := by decide +kernel
theorem dL_law_150 : decode cL_law 150 = .ok (.iload_n 3, 1) := by decide +kernel
theorem dL_law_151 : decode cL_law 151 = .ok (.iconst 1, 1) := by decide +kernel
theorem dL_law_152 : decode cL_law 152 = .ok (.iadd, 1) := by decide +kernel
theorem dL_law_153 : decode cL_law 153 = .ok (.iaload, 1) := by decide +kernel
theorem dL_law_154 : decode cL_law 154 = .ok (.aload_n 0, 1) := by decide +kernel
theorem dL_law_155 : decode cL_law 155 = .ok (.iload_n 3, 1) := by decide +kernel
theorem dL_law_156 : decode cL_law 156 = .ok (.iconst 2, 1) := by decide +kernel
theorem dL_law_157 : decode cL_law 157 = .ok (.iadd, 1) := by decide +kernel
theorem dL_law_158 : decode cL_law 158 = .ok (.iaload, 1) := by decide +kernel
theorem dL_law_159 : decode cL_law 159 = .ok (.invokevirtual 13, 3) := by decide +kernel
theorem dL_law_162 : decode cL_law 162 = .ok (.aload_n 2, 1) := by decide +kernel
theorem dL_law_163 : decode cL_law 163 = .ok (.aload_n 0, 1) := by decide +kernel
theorem dL_law_164 : decode cL_law 164 = .ok (.iload_n 3, 1) := by decide +kernel
theorem dL_law_165 : decode cL_law 165 = .ok (.iconst 1, 1) := by decide +kernel
theorem dL_law_166 : decode cL_law 166 = .ok (.iadd, 1) := by decide +kernel
theorem dL_law_167 : decode cL_law 167 = .ok (.iaload, 1) := by decide +kernel
theorem dL_law_168 : decode cL_law 168 = .ok (.aload_n 0, 1) := by decide +kernel
theorem dL_law_169 : decode cL_law 169 = .ok (.iload_n 3, 1) := by decide +kernel
theorem dL_law_170 : decode cL_law 170 = .ok (.iconst 2, 1) := by decide +kernel
theorem dL_law_171 : decode cL_law 171 = .ok (.iadd, 1) := by decide +kernel
theorem dL_law_172 : decode cL_law 172 = .ok (.iaload, 1) := by decide +kernel
theorem dL_law_173 : decode cL_law 173 = .ok (.invokevirtual 17, 3) := by decide +kernel
theorem dL_law_176 : decode cL_law 176 = .ok (.if_icmp .eq 477, 3) := by decide +kernel
theorem dL_law_179 : decode cL_law 179 = .ok (.iconst 0, 1) := by decide +kernel
theorem dL_law_180 : decode cL_law 180 = .ok (.ireturn, 1) := by decide +kernel
theorem dL_law_181 : decode cL_law 181 = .ok (.aload_n 1, 1) := by decide +kernel
theorem dL_law_182 : decode cL_law 182 = .ok (.aload_n 0, 1) := by decide +kernel
theorem dL_law_183 : decode cL_law 183 = .ok (.iload_n 3, 1) := by decide +kernel
theorem dL_law_184 : decode cL_law 184 = .ok (.iconst 1, 1) := by decide +kernel
theorem dL_law_185 : decode cL_law 185 = .ok (.iadd, 1) := by decide +kernel
theorem dL_law_186 : decode cL_law 186 = .ok (.iaload, 1) := by decide +kernel
theorem dL_law_187 : decode cL_law 187 = .ok (.invokevirtual 18, 3) := by decide +kernel
theorem dL_law_190 : decode cL_law 190 = .ok (.aload_n 2, 1) := by decide +kernel
theorem dL_law_191 : decode cL_law 191 = .ok (.aload_n 0, 1) := by decide +kernel
theorem dL_law_192 : decode cL_law 192 = .ok (.iload_n 3, 1) := by decide +kernel
theorem dL_law_193 : decode cL_law 193 = .ok (.iconst 1, 1) := by decide +kernel
theorem dL_law_194 : decode cL_law 194 = .ok (.iadd, 1) := by decide +kernel
theorem dL_law_195 : decode cL_law 195 = .ok (.iaload, 1) := by decide +kernel
theorem dL_law_196 : decode cL_law 196 = .ok (.invokevirtual 22, 3) := by decide +kernel
theorem dL_law_199 : decode cL_law 199 = .ok (.if_icmp .eq 454, 3) := by decide +kernel
theorem dL_law_202 : decode cL_law 202 = .ok (.iconst 0, 1) := by decide +kernel
theorem dL_law_203 : decode cL_law 203 = .ok (.ireturn, 1) := by decide +kernel
theorem dL_law_204 : decode cL_law 204 = .ok (.aload_n 1, 1) := by decide +kernel
theorem dL_law_205 : decode cL_law 205 = .ok (.invokevirtual 23, 3) := by decide +kernel
theorem dL_law_208 : decode cL_law 208 = .ok (.aload_n 2, 1) := by decide +kernel
theorem dL_law_209 : decode cL_law 209 = .ok (.invokevirtual 27, 3) := by decide +kernel
theorem dL_law_212 : decode cL_law 212 = .ok (.if_icmp .eq 441, 3) := by decide +kernel
theorem dL_law_215 : decode cL_law 215 = .ok (.iconst 0, 1) := by decide +kernel
theorem dL_law_216 : decode cL_law 216 = .ok (.ireturn, 1) := by decide +kernel
theorem dL_law_217 : decode cL_law 217 = .ok (.aload_n 1, 1) := by decide +kernel
theorem dL_law_218 : decode cL_law 218 = .ok (.aload_n 0, 1) := by decide +kernel
theorem dL_law_219 : decode cL_law 219 = .ok (.iload_n 3, 1) := by decide +kernel
theorem dL_law_220 : decode cL_law 220 = .ok (.iconst 1, 1) := by decide +kernel
theorem dL_law_221 : decode cL_law 221 = .ok (.iadd, 1) := by decide +kernel
theorem dL_law_222 : decode cL_law 222 = .ok (.iaload, 1) := by decide +kernel
theorem dL_law_223 : decode cL_law 223 = .ok (.aload_n 0, 1) := by decide +kernel
theorem dL_law_224 : decode cL_law 224 = .ok (.iload_n 3, 1) := by decide +kernel
theorem dL_law_225 : decode cL_law 225 = .ok (.iconst 2, 1) := by decide +kernel
theorem dL_law_226 : decode cL_law 226 = .ok (.iadd, 1) := by decide +kernel
theorem dL_law_227 : decode cL_law 227 = .ok (.iaload, 1) := by decide +kernel
theorem dL_law_228 : decode cL_law 228 = .ok (.invokevirtual 28, 3) := by decide +kernel
theorem dL_law_231 : decode cL_law 231 = .ok (.aload_n 2, 1) := by decide +kernel
theorem dL_law_232 : decode cL_law 232 = .ok (.aload_n 0, 1) := by decide +kernel
theorem dL_law_233 : decode cL_law 233 = .ok (.iload_n 3, 1) := by decide +kernel
theorem dL_law_234 : decode cL_law 234 = .ok (.iconst 1, 1) := by decide +kernel
theorem dL_law_235 : decode cL_law 235 = .ok (.iadd, 1) := by decide +kernel
theorem dL_law_236 : decode cL_law 236 = .ok (.iaload, 1) := by decide +kernel
theorem dL_law_237 : decode cL_law 237 = .ok (.aload_n 0, 1) := by decide +kernel
theorem dL_law_238 : decode cL_law 238 = .ok (.iload_n 3, 1) := by decide +kernel
theorem dL_law_239 : decode cL_law 239 = .ok (.iconst 2, 1) := by decide +kernel
theorem dL_law_240 : decode cL_law 240 = .ok (.iadd, 1) := by decide +kernel
theorem dL_law_241 : decode cL_law 241 = .ok (.iaload, 1) := by decide +kernel
theorem dL_law_242 : decode cL_law 242 = .ok (.invokevirtual 31, 3) := by decide +kernel
theorem dL_law_245 : decode cL_law 245 = .ok (.if_icmp .eq 408, 3) := by decide +kernel
theorem dL_law_248 : decode cL_law 248 = .ok (.iconst 0, 1) := by decide +kernel
theorem dL_law_249 : decode cL_law 249 = .ok (.ireturn, 1) := by decide +kernel
theorem dL_law_250 : decode cL_law 250 = .ok (.aload_n 1, 1) := by decide +kernel
theorem dL_law_251 : decode cL_law 251 = .ok (.aload_n 0, 1) := by decide +kernel
theorem dL_law_252 : decode cL_law 252 = .ok (.iload_n 3, 1) := by decide +kernel
theorem dL_law_253 : decode cL_law 253 = .ok (.iconst 1, 1) := by decide +kernel
theorem dL_law_254 : decode cL_law 254 = .ok (.iadd, 1) := by decide +kernel
theorem dL_law_255 : decode cL_law 255 = .ok (.iaload, 1) := by decide +kernel
theorem dL_law_256 : decode cL_law 256 = .ok (.aload_n 0, 1) := by decide +kernel
theorem dL_law_257 : decode cL_law 257 = .ok (.iload_n 3, 1) := by decide +kernel
theorem dL_law_258 : decode cL_law 258 = .ok (.iconst 2, 1) := by decide +kernel
theorem dL_law_259 : decode cL_law 259 = .ok (.iadd, 1) := by decide +kernel
theorem dL_law_260 : decode cL_law 260 = .ok (.iaload, 1) := by decide +kernel
theorem dL_law_261 : decode cL_law 261 = .ok (.invokevirtual 32, 3) := by decide +kernel
theorem dL_law_264 : decode cL_law 264 = .ok (.aload_n 2, 1) := by decide +kernel
theorem dL_law_265 : decode cL_law 265 = .ok (.aload_n 0, 1) := by decide +kernel
theorem dL_law_266 : decode cL_law 266 = .ok (.iload_n 3, 1) := by decide +kernel
theorem dL_law_267 : decode cL_law 267 = .ok (.iconst 1, 1) := by decide +kernel
theorem dL_law_268 : decode cL_law 268 = .ok (.iadd, 1) := by decide +kernel
theorem dL_law_269 : decode cL_law 269 = .ok (.iaload, 1) := by decide +kernel
theorem dL_law_270 : decode cL_law 270 = .ok (.aload_n 0, 1) := by decide +kernel
theorem dL_law_271 : decode cL_law 271 = .ok (.iload_n 3, 1) := by decide +kernel
theorem dL_law_272 : decode cL_law 272 = .ok (.iconst 2, 1) := by decide +kernel
theorem dL_law_273 : decode cL_law 273 = .ok (.iadd, 1) := by decide +kernel
theorem dL_law_274 : decode cL_law 274 = .ok (.iaload, 1) := by decide +kernel
theorem dL_law_275 : decode cL_law 275 = .ok (.invokevirtual 35, 3) := by decide +kernel
theorem dL_law_278 : decode cL_law 278 = .ok (.if_icmp .eq 375, 3) := by decide +kernel
theorem dL_law_281 : decode cL_law 281 = .ok (.iconst 0, 1) := by decide +kernel
theorem dL_law_282 : decode cL_law 282 = .ok (.ireturn, 1) := by decide +kernel
theorem dL_law_283 : decode cL_law 283 = .ok (.aload_n 1, 1) := by decide +kernel
theorem dL_law_284 : decode cL_law 284 = .ok (.invokevirtual 36, 3) := by decide +kernel
theorem dL_law_287 : decode cL_law 287 = .ok (.aload_n 2, 1) := by decide +kernel
theorem dL_law_288 : decode cL_law 288 = .ok (.invokevirtual 39, 3) := by decide +kernel
theorem dL_law_291 : decode cL_law 291 = .ok (.if_icmp .eq 362, 3) := by decide +kernel
theorem dL_law_294 : decode cL_law 294 = .ok (.iconst 0, 1) := by decide +kernel
theorem dL_law_295 : decode cL_law 295 = .ok (.ireturn, 1) := by decide +kernel
theorem dL_law_296 : decode cL_law 296 = .ok (.aload_n 1, 1) := by decide +kernel
theorem dL_law_297 : decode cL_law 297 = .ok (.aload_n 0, 1) := by decide +kernel
theorem dL_law_298 : decode cL_law 298 = .ok (.iload_n 3, 1) := by decide +kernel
theorem dL_law_299 : decode cL_law 299 = .ok (.iconst 1, 1) := by decide +kernel
theorem dL_law_300 : decode cL_law 300 = .ok (.iadd, 1) := by decide +kernel
theorem dL_law_301 : decode cL_law 301 = .ok (.iaload, 1) := by decide +kernel
theorem dL_law_302 : decode cL_law 302 = .ok (.invokevirtual 40, 3) := by decide +kernel
theorem dL_law_305 : decode cL_law 305 = .ok (.aload_n 2, 1) := by decide +kernel
theorem dL_law_306 : decode cL_law 306 = .ok (.aload_n 0, 1) := by decide +kernel
theorem dL_law_307 : decode cL_law 307 = .ok (.iload_n 3, 1) := by decide +kernel
theorem dL_law_308 : decode cL_law 308 = .ok (.iconst 1, 1) := by decide +kernel
theorem dL_law_309 : decode cL_law 309 = .ok (.iadd, 1) := by decide +kernel
theorem dL_law_310 : decode cL_law 310 = .ok (.iaload, 1) := by decide +kernel
theorem dL_law_311 : decode cL_law 311 = .ok (.invokevirtual 43, 3) := by decide +kernel
theorem dL_law_314 : decode cL_law 314 = .ok (.if_icmp .eq 339, 3) := by decide +kernel
theorem dL_law_317 : decode cL_law 317 = .ok (.iconst 0, 1) := by decide +kernel
theorem dL_law_318 : decode cL_law 318 = .ok (.ireturn, 1) := by decide +kernel
theorem dL_law_319 : decode cL_law 319 = .ok (.aload_n 1, 1) := by decide +kernel
theorem dL_law_320 : decode cL_law 320 = .ok (.aload_n 0, 1) := by decide +kernel
theorem dL_law_321 : decode cL_law 321 = .ok (.iload_n 3, 1) := by decide +kernel
theorem dL_law_322 : decode cL_law 322 = .ok (.iconst 1, 1) := by decide +kernel
theorem dL_law_323 : decode cL_law 323 = .ok (.iadd, 1) := by decide +kernel
theorem dL_law_324 : decode cL_law 324 = .ok (.iaload, 1) := by decide +kernel
theorem dL_law_325 : decode cL_law 325 = .ok (.aload_n 0, 1) := by decide +kernel
theorem dL_law_326 : decode cL_law 326 = .ok (.iload_n 3, 1) := by decide +kernel
theorem dL_law_327 : decode cL_law 327 = .ok (.iconst 2, 1) := by decide +kernel
theorem dL_law_328 : decode cL_law 328 = .ok (.iadd, 1) := by decide +kernel
theorem dL_law_329 : decode cL_law 329 = .ok (.iaload, 1) := by decide +kernel
theorem dL_law_330 : decode cL_law 330 = .ok (.invokevirtual 44, 3) := by decide +kernel
theorem dL_law_333 : decode cL_law 333 = .ok (.aload_n 2, 1) := by decide +kernel
theorem dL_law_334 : decode cL_law 334 = .ok (.aload_n 0, 1) := by decide +kernel
theorem dL_law_335 : decode cL_law 335 = .ok (.iload_n 3, 1) := by decide +kernel
theorem dL_law_336 : decode cL_law 336 = .ok (.iconst 1, 1) := by decide +kernel
theorem dL_law_337 : decode cL_law 337 = .ok (.iadd, 1) := by decide +kernel
theorem dL_law_338 : decode cL_law 338 = .ok (.iaload, 1) := by decide +kernel
theorem dL_law_339 : decode cL_law 339 = .ok (.aload_n 0, 1) := by decide +kernel
theorem dL_law_340 : decode cL_law 340 = .ok (.iload_n 3, 1) := by decide +kernel
theorem dL_law_341 : decode cL_law 341 = .ok (.iconst 2, 1) := by decide +kernel
theorem dL_law_342 : decode cL_law 342 = .ok (.iadd, 1) := by decide +kernel
theorem dL_law_343 : decode cL_law 343 = .ok (.iaload, 1) := by decide +kernel
theorem dL_law_344 : decode cL_law 344 = .ok (.invokevirtual 47, 3) := by decide +kernel
theorem dL_law_347 : decode cL_law 347 = .ok (.if_icmp .eq 306, 3) := by decide +kernel
theorem dL_law_350 : decode cL_law 350 = .ok (.iconst 0, 1) := by decide +kernel
theorem dL_law_351 : decode cL_law 351 = .ok (.ireturn, 1) := by decide +kernel
theorem dL_law_352 : decode cL_law 352 = .ok (.aload_n 1, 1) := by decide +kernel
theorem dL_law_353 : decode cL_law 353 = .ok (.aload_n 0, 1) := by decide +kernel
theorem dL_law_354 : decode cL_law 354 = .ok (.iload_n 3, 1) := by decide +kernel
theorem dL_law_355 : decode cL_law 355 = .ok (.iconst 1, 1) := by decide +kernel
theorem dL_law_356 : decode cL_law 356 = .ok (.iadd, 1) := by decide +kernel
theorem dL_law_357 : decode cL_law 357 = .ok (.iaload, 1) := by decide +kernel
theorem dL_law_358 : decode cL_law 358 = .ok (.invokevirtual 48, 3) := by decide +kernel
theorem dL_law_361 : decode cL_law 361 = .ok (.aload_n 2, 1) := by decide +kernel
theorem dL_law_362 : decode cL_law 362 = .ok (.aload_n 0, 1) := by decide +kernel
theorem dL_law_363 : decode cL_law 363 = .ok (.iload_n 3, 1) := by decide +kernel
theorem dL_law_364 : decode cL_law 364 = .ok (.iconst 1, 1) := by decide +kernel
theorem dL_law_365 : decode cL_law 365 = .ok (.iadd, 1) := by decide +kernel
theorem dL_law_366 : decode cL_law 366 = .ok (.iaload, 1) := by decide +kernel
theorem dL_law_367 : decode cL_law 367 = .ok (.invokevirtual 51, 3) := by decide +kernel
theorem dL_law_370 : decode cL_law 370 = .ok (.if_icmp .eq 283, 3) := by decide +kernel
theorem dL_law_373 : decode cL_law 373 = .ok (.iconst 0, 1) := by decide +kernel
theorem dL_law_374 : decode cL_law 374 = .ok (.ireturn, 1) := by decide +kernel
theorem dL_law_375 : decode cL_law 375 = .ok (.aload_n 1, 1) := by decide +kernel
theorem dL_law_376 : decode cL_law 376 = .ok (.aload_n 0, 1) := by decide +kernel
theorem dL_law_377 : decode cL_law 377 = .ok (.iload_n 3, 1) := by decide +kernel
theorem dL_law_378 : decode cL_law 378 = .ok (.iconst 1, 1) := by decide +kernel
theorem dL_law_379 : decode cL_law 379 = .ok (.iadd, 1) := by decide +kernel
theorem dL_law_380 : decode cL_law 380 = .ok (.iaload, 1) := by decide +kernel
theorem dL_law_381 : decode cL_law 381 = .ok (.aload_n 0, 1) := by decide +kernel
theorem dL_law_382 : decode cL_law 382 = .ok (.iload_n 3, 1) := by decide +kernel
theorem dL_law_383 : decode cL_law 383 = .ok (.iconst 2, 1) := by decide +kernel
theorem dL_law_384 : decode cL_law 384 = .ok (.iadd, 1) := by decide +kernel
theorem dL_law_385 : decode cL_law 385 = .ok (.iaload, 1) := by decide +kernel
theorem dL_law_386 : decode cL_law 386 = .ok (.invokevirtual 52, 3) := by decide +kernel
theorem dL_law_389 : decode cL_law 389 = .ok (.aload_n 2, 1) := by decide +kernel
theorem dL_law_390 : decode cL_law 390 = .ok (.aload_n 0, 1) := by decide +kernel
theorem dL_law_391 : decode cL_law 391 = .ok (.iload_n 3, 1) := by decide +kernel
theorem dL_law_392 : decode cL_law 392 = .ok (.iconst 1, 1) := by decide +kernel
theorem dL_law_393 : decode cL_law 393 = .ok (.iadd, 1) := by decide +kernel
theorem dL_law_394 : decode cL_law 394 = .ok (.iaload, 1) := by decide +kernel
theorem dL_law_395 : decode cL_law 395 = .ok (.aload_n 0, 1) := by decide +kernel
theorem dL_law_396 : decode cL_law 396 = .ok (.iload_n 3, 1) := by decide +kernel
theorem dL_law_397 : decode cL_law 397 = .ok (.iconst 2, 1) := by decide +kernel
theorem dL_law_398 : decode cL_law 398 = .ok (.iadd, 1) := by decide +kernel
theorem dL_law_399 : decode cL_law 399 = .ok (.iaload, 1) := by decide +kernel
theorem dL_law_400 : decode cL_law 400 = .ok (.invokevirtual 55, 3) := by decide +kernel
theorem dL_law_403 : decode cL_law 403 = .ok (.if_icmp .eq 250, 3) := by decide +kernel
theorem dL_law_406 : decode cL_law 406 = .ok (.iconst 0, 1) := by decide +kernel
theorem dL_law_407 : decode cL_law 407 = .ok (.ireturn, 1) := by decide +kernel
theorem dL_law_408 : decode cL_law 408 = .ok (.aload_n 1, 1) := by decide +kernel
theorem dL_law_409 : decode cL_law 409 = .ok (.aload_n 0, 1) := by decide +kernel
theorem dL_law_410 : decode cL_law 410 = .ok (.iload_n 3, 1) := by decide +kernel
theorem dL_law_411 : decode cL_law 411 = .ok (.iconst 1, 1) := by decide +kernel
theorem dL_law_412 : decode cL_law 412 = .ok (.iadd, 1) := by decide +kernel
theorem dL_law_413 : decode cL_law 413 = .ok (.iaload, 1) := by decide +kernel
theorem dL_law_414 : decode cL_law 414 = .ok (.aload_n 0, 1) := by decide +kernel
theorem dL_law_415 : decode cL_law 415 = .ok (.iload_n 3, 1) := by decide +kernel
theorem dL_law_416 : decode cL_law 416 = .ok (.iconst 2, 1) := by decide +kernel
theorem dL_law_417 : decode cL_law 417 = .ok (.iadd, 1) := by decide +kernel
theorem dL_law_418 : decode cL_law 418 = .ok (.iaload, 1) := by decide +kernel
theorem dL_law_419 : decode cL_law 419 = .ok (.invokevirtual 56, 3) := by decide +kernel
theorem dL_law_422 : decode cL_law 422 = .ok (.aload_n 2, 1) := by decide +kernel
theorem dL_law_423 : decode cL_law 423 = .ok (.aload_n 0, 1) := by decide +kernel
theorem dL_law_424 : decode cL_law 424 = .ok (.iload_n 3, 1) := by decide +kernel
theorem dL_law_425 : decode cL_law 425 = .ok (.iconst 1, 1) := by decide +kernel
theorem dL_law_426 : decode cL_law 426 = .ok (.iadd, 1) := by decide +kernel
theorem dL_law_427 : decode cL_law 427 = .ok (.iaload, 1) := by decide +kernel
theorem dL_law_428 : decode cL_law 428 = .ok (.aload_n 0, 1) := by decide +kernel
theorem dL_law_429 : decode cL_law 429 = .ok (.iload_n 3, 1) := by decide +kernel
theorem dL_law_430 : decode cL_law 430 = .ok (.iconst 2, 1) := by decide +kernel
theorem dL_law_431 : decode cL_law 431 = .ok (.iadd, 1) := by decide +kernel
theorem dL_law_432 : decode cL_law 432 = .ok (.iaload, 1) := by decide +kernel
theorem dL_law_433 : decode cL_law 433 = .ok (.invokevirtual 59, 3) := by decide +kernel
theorem dL_law_436 : decode cL_law 436 = .ok (.if_icmp .eq 217, 3) := by decide +kernel
theorem dL_law_439 : decode cL_law 439 = .ok (.iconst 0, 1) := by decide +kernel
theorem dL_law_440 : decode cL_law 440 = .ok (.ireturn, 1) := by decide +kernel
theorem dL_law_441 : decode cL_law 441 = .ok (.aload_n 1, 1) := by decide +kernel
theorem dL_law_442 : decode cL_law 442 = .ok (.aload_n 0, 1) := by decide +kernel
theorem dL_law_443 : decode cL_law 443 = .ok (.iload_n 3, 1) := by decide +kernel
theorem dL_law_444 : decode cL_law 444 = .ok (.iconst 1, 1) := by decide +kernel
theorem dL_law_445 : decode cL_law 445 = .ok (.iadd, 1) := by decide +kernel
theorem dL_law_446 : decode cL_law 446 = .ok (.iaload, 1) := by decide +kernel
theorem dL_law_447 : decode cL_law 447 = .ok (.invokevirtual 60, 3) := by decide +kernel
theorem dL_law_450 : decode cL_law 450 = .ok (.aload_n 2, 1) := by decide +kernel
theorem dL_law_451 : decode cL_law 451 = .ok (.aload_n 0, 1) := by decide +kernel
theorem dL_law_452 : decode cL_law 452 = .ok (.iload_n 3, 1) := by decide +kernel
theorem dL_law_453 : decode cL_law 453 = .ok (.iconst 1, 1) := by decide +kernel
theorem dL_law_454 : decode cL_law 454 = .ok (.iadd, 1) := by decide +kernel
theorem dL_law_455 : decode cL_law 455 = .ok (.iaload, 1) := by decide +kernel
theorem dL_law_456 : decode cL_law 456 = .ok (.invokevirtual 63, 3) := by decide +kernel
theorem dL_law_459 : decode cL_law 459 = .ok (.if_icmp .eq 194, 3) := by decide +kernel
theorem dL_law_462 : decode cL_law 462 = .ok (.iconst 0, 1) := by decide +kernel
theorem dL_law_463 : decode cL_law 463 = .ok (.ireturn, 1) := by decide +kernel
theorem dL_law_464 : decode cL_law 464 = .ok (.aload_n 1, 1) := by decide +kernel
theorem dL_law_465 : decode cL_law 465 = .ok (.invokevirtual 64, 3) := by decide +kernel
theorem dL_law_468 : decode cL_law 468 = .ok (.aload_n 2, 1) := by decide +kernel
theorem dL_law_469 : decode cL_law 469 = .ok (.invokevirtual 67, 3) := by decide +kernel
theorem dL_law_472 : decode cL_law 472 = .ok (.if_icmp .eq 181, 3) := by decide +kernel
theorem dL_law_475 : decode cL_law 475 = .ok (.iconst 0, 1) := by decide +kernel
theorem dL_law_476 : decode cL_law 476 = .ok (.ireturn, 1) := by decide +kernel
theorem dL_law_477 : decode cL_law 477 = .ok (.aload_n 1, 1) := by decide +kernel
theorem dL_law_478 : decode cL_law 478 = .ok (.aload_n 0, 1) := by decide +kernel
theorem dL_law_479 : decode cL_law 479 = .ok (.iload_n 3, 1) := by decide +kernel
theorem dL_law_480 : decode cL_law 480 = .ok (.iconst 1, 1) := by decide +kernel
theorem dL_law_481 : decode cL_law 481 = .ok (.iadd, 1) := by decide +kernel
theorem dL_law_482 : decode cL_law 482 = .ok (.iaload, 1) := by decide +kernel
theorem dL_law_483 : decode cL_law 483 = .ok (.invokevirtual 68, 3) := by decide +kernel
theorem dL_law_486 : decode cL_law 486 = .ok (.aload_n 2, 1) := by decide +kernel
theorem dL_law_487 : decode cL_law 487 = .ok (.aload_n 0, 1) := by decide +kernel
theorem dL_law_488 : decode cL_law 488 = .ok (.iload_n 3, 1) := by decide +kernel
theorem dL_law_489 : decode cL_law 489 = .ok (.iconst 1, 1) := by decide +kernel
theorem dL_law_490 : decode cL_law 490 = .ok (.iadd, 1) := by decide +kernel
theorem dL_law_491 : decode cL_law 491 = .ok (.iaload, 1) := by decide +kernel
theorem dL_law_492 : decode cL_law 492 = .ok (.invokevirtual 71, 3) := by decide +kernel
theorem dL_law_495 : decode cL_law 495 = .ok (.if_icmp .eq 158, 3) := by decide +kernel
theorem dL_law_498 : decode cL_law 498 = .ok (.iconst 0, 1) := by decide +kernel
theorem dL_law_499 : decode cL_law 499 = .ok (.ireturn, 1) := by decide +kernel
theorem dL_law_500 : decode cL_law 500 = .ok (.aload_n 1, 1) := by decide +kernel
theorem dL_law_501 : decode cL_law 501 = .ok (.invokevirtual 72, 3) := by decide +kernel
theorem dL_law_504 : decode cL_law 504 = .ok (.aload_n 2, 1) := by decide +kernel
theorem dL_law_505 : decode cL_law 505 = .ok (.invokevirtual 75, 3) := by decide +kernel
theorem dL_law_508 : decode cL_law 508 = .ok (.if_icmp .eq 145, 3) := by decide +kernel
theorem dL_law_511 : decode cL_law 511 = .ok (.iconst 0, 1) := by decide +kernel
theorem dL_law_512 : decode cL_law 512 = .ok (.ireturn, 1) := by decide +kernel
theorem dL_law_513 : decode cL_law 513 = .ok (.aload_n 1, 1) := by decide +kernel
theorem dL_law_514 : decode cL_law 514 = .ok (.invokevirtual 76, 3) := by decide +kernel
theorem dL_law_517 : decode cL_law 517 = .ok (.aload_n 2, 1) := by decide +kernel
theorem dL_law_518 : decode cL_law 518 = .ok (.invokevirtual 79, 3) := by decide +kernel
theorem dL_law_521 : decode cL_law 521 = .ok (.if_icmp .eq 132, 3) := by decide +kernel
theorem dL_law_524 : decode cL_law 524 = .ok (.iconst 0, 1) := by decide +kernel
theorem dL_law_525 : decode cL_law 525 = .ok (.ireturn, 1) := by decide +kernel
theorem dL_law_526 : decode cL_law 526 = .ok (.aload_n 1, 1) := by decide +kernel
theorem dL_law_527 : decode cL_law 527 = .ok (.invokevirtual 80, 3) := by decide +kernel
theorem dL_law_530 : decode cL_law 530 = .ok (.aload_n 2, 1) := by decide +kernel
theorem dL_law_531 : decode cL_law 531 = .ok (.invokevirtual 83, 3) := by decide +kernel
theorem dL_law_534 : decode cL_law 534 = .ok (.if_icmp .eq 119, 3) := by decide +kernel
theorem dL_law_537 : decode cL_law 537 = .ok (.iconst 0, 1) := by decide +kernel
theorem dL_law_538 : decode cL_law 538 = .ok (.ireturn, 1) := by decide +kernel
theorem dL_law_539 : decode cL_law 539 = .ok (.aload_n 1, 1) := by decide +kernel
theorem dL_law_540 : decode cL_law 540 = .ok (.invokevirtual 84, 3) := by decide +kernel
theorem dL_law_543 : decode cL_law 543 = .ok (.aload_n 2, 1) := by decide +kernel
theorem dL_law_544 : decode cL_law 544 = .ok (.invokevirtual 87, 3) := by decide +kernel
theorem dL_law_547 : decode cL_law 547 = .ok (.if_icmp .eq 106, 3) := by decide +kernel
theorem dL_law_550 : decode cL_law 550 = .ok (.iconst 0, 1) := by decide +kernel
theorem dL_law_551 : decode cL_law 551 = .ok (.ireturn, 1) := by decide +kernel
theorem dL_law_552 : decode cL_law 552 = .ok (.aload_n 1, 1) := by decide +kernel
theorem dL_law_553 : decode cL_law 553 = .ok (.aload_n 0, 1) := by decide +kernel
theorem dL_law_554 : decode cL_law 554 = .ok (.iload_n 3, 1) := by decide +kernel
theorem dL_law_555 : decode cL_law 555 = .ok (.iconst 1, 1) := by decide +kernel
theorem dL_law_556 : decode cL_law 556 = .ok (.iadd, 1) := by decide +kernel
theorem dL_law_557 : decode cL_law 557 = .ok (.iaload, 1) := by decide +kernel
theorem dL_law_558 : decode cL_law 558 = .ok (.invokevirtual 88, 3) := by decide +kernel
theorem dL_law_561 : decode cL_law 561 = .ok (.aload_n 2, 1) := by decide +kernel
theorem dL_law_562 : decode cL_law 562 = .ok (.aload_n 0, 1) := by decide +kernel
theorem dL_law_563 : decode cL_law 563 = .ok (.iload_n 3, 1) := by decide +kernel
theorem dL_law_564 : decode cL_law 564 = .ok (.iconst 1, 1) := by decide +kernel
theorem dL_law_565 : decode cL_law 565 = .ok (.iadd, 1) := by decide +kernel
theorem dL_law_566 : decode cL_law 566 = .ok (.iaload, 1) := by decide +kernel
theorem dL_law_567 : decode cL_law 567 = .ok (.invokevirtual 91, 3) := by decide +kernel
theorem dL_law_570 : decode cL_law 570 = .ok (.if_icmp .eq 83, 3) := by decide +kernel
theorem dL_law_573 : decode cL_law 573 = .ok (.iconst 0, 1) := by decide +kernel
theorem dL_law_574 : decode cL_law 574 = .ok (.ireturn, 1) := by decide +kernel
theorem dL_law_575 : decode cL_law 575 = .ok (.aload_n 1, 1) := by decide +kernel
theorem dL_law_576 : decode cL_law 576 = .ok (.invokevirtual 92, 3) := by decide +kernel
theorem dL_law_579 : decode cL_law 579 = .ok (.aload_n 2, 1) := by decide +kernel
theorem dL_law_580 : decode cL_law 580 = .ok (.invokevirtual 95, 3) := by decide +kernel
theorem dL_law_583 : decode cL_law 583 = .ok (.if_icmp .eq 70, 3) := by decide +kernel
theorem dL_law_586 : decode cL_law 586 = .ok (.iconst 0, 1) := by decide +kernel
theorem dL_law_587 : decode cL_law 587 = .ok (.ireturn, 1) := by decide +kernel
theorem dL_law_588 : decode cL_law 588 = .ok (.aload_n 1, 1) := by decide +kernel
theorem dL_law_589 : decode cL_law 589 = .ok (.invokevirtual 96, 3) := by decide +kernel
theorem dL_law_592 : decode cL_law 592 = .ok (.aload_n 2, 1) := by decide +kernel
theorem dL_law_593 : decode cL_law 593 = .ok (.invokevirtual 99, 3) := by decide +kernel
theorem dL_law_596 : decode cL_law 596 = .ok (.if_icmp .eq 57, 3) := by decide +kernel
theorem dL_law_599 : decode cL_law 599 = .ok (.iconst 0, 1) := by decide +kernel
theorem dL_law_600 : decode cL_law 600 = .ok (.ireturn, 1) := by decide +kernel
theorem dL_law_601 : decode cL_law 601 = .ok (.aload_n 1, 1) := by decide +kernel
theorem dL_law_602 : decode cL_law 602 = .ok (.invokevirtual 100, 3) := by decide +kernel
theorem dL_law_605 : decode cL_law 605 = .ok (.aload_n 2, 1) := by decide +kernel
theorem dL_law_606 : decode cL_law 606 = .ok (.invokevirtual 103, 3) := by decide +kernel
theorem dL_law_609 : decode cL_law 609 = .ok (.if_icmp .eq 44, 3) := by decide +kernel
theorem dL_law_612 : decode cL_law 612 = .ok (.iconst 0, 1) := by decide +kernel
theorem dL_law_613 : decode cL_law 613 = .ok (.ireturn, 1) := by decide +kernel
theorem dL_law_614 : decode cL_law 614 = .ok (.aload_n 1, 1) := by decide +kernel
theorem dL_law_615 : decode cL_law 615 = .ok (.invokevirtual 104, 3) := by decide +kernel
theorem dL_law_618 : decode cL_law 618 = .ok (.aload_n 2, 1) := by decide +kernel
theorem dL_law_619 : decode cL_law 619 = .ok (.invokevirtual 107, 3) := by decide +kernel
theorem dL_law_622 : decode cL_law 622 = .ok (.if_icmp .eq 31, 3) := by decide +kernel
theorem dL_law_625 : decode cL_law 625 = .ok (.iconst 0, 1) := by decide +kernel
theorem dL_law_626 : decode cL_law 626 = .ok (.ireturn, 1) := by decide +kernel
theorem dL_law_627 : decode cL_law 627 = .ok (.aload_n 1, 1) := by decide +kernel
theorem dL_law_628 : decode cL_law 628 = .ok (.invokevirtual 108, 3) := by decide +kernel
theorem dL_law_631 : decode cL_law 631 = .ok (.aload_n 2, 1) := by decide +kernel
theorem dL_law_632 : decode cL_law 632 = .ok (.invokevirtual 111, 3) := by decide +kernel
theorem dL_law_635 : decode cL_law 635 = .ok (.if_icmp .eq 18, 3) := by decide +kernel
theorem dL_law_638 : decode cL_law 638 = .ok (.iconst 0, 1) := by decide +kernel
theorem dL_law_639 : decode cL_law 639 = .ok (.ireturn, 1) := by decide +kernel
theorem dL_law_640 : decode cL_law 640 = .ok (.aload_n 1, 1) := by decide +kernel
theorem dL_law_641 : decode cL_law 641 = .ok (.invokevirtual 112, 3) := by decide +kernel
theorem dL_law_644 : decode cL_law 644 = .ok (.aload_n 2, 1) := by decide +kernel
theorem dL_law_645 : decode cL_law 645 = .ok (.invokevirtual 115, 3) := by decide +kernel
theorem dL_law_648 : decode cL_law 648 = .ok (.if_icmp .eq 5, 3) := by decide +kernel
theorem dL_law_651 : decode cL_law 651 = .ok (.iconst 0, 1) := by decide +kernel
theorem dL_law_652 : decode cL_law 652 = .ok (.ireturn, 1) := by decide +kernel
theorem dL_law_653 : decode cL_law 653 = .ok (.iinc 3 3, 3) := by decide +kernel
theorem dL_law_656 : decode cL_law 656 = .ok (.goto (-638), 3) := by decide +kernel
theorem dL_law_659 : decode cL_law 659 = .ok (.iconst 1, 1) := by decide +kernel
theorem dL_law_660 : decode cL_law 660 = .ok (.ireturn, 1) := by decide +kernel
end
