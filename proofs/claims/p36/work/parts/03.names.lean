/-! ===== BEGIN printed: names, fields, word lists, decode rows ===== -/
def RX0 : String := "CanyonEchoes$Canyon"
def TX0 : u_T := fun k => match k with
  | 0 => ("CanyonEchoes$Canyon", "beatCount", "I", false)
  | 1 => ("CanyonEchoes$Canyon", "wallCount", "I", false)
  | 2 => ("CanyonEchoes$Canyon", "shoutCount", "I", false)
  | 3 => ("CanyonEchoes$Canyon", "underWayCount", "I", false)
  | 4 => ("CanyonEchoes$Canyon", "overlapCount", "I", false)
  | 5 => ("CanyonEchoes$Canyon", "inheritedCount", "I", false)
  | 6 => ("CanyonEchoes$Canyon", "snow", "[I", true)
  | 7 => ("CanyonEchoes$Canyon", "wallAt", "[I", true)
  | 8 => ("CanyonEchoes$Canyon", "shoutAt", "[I", true)
  | 9 => ("CanyonEchoes$Canyon", "wallStone", "[I", true)
  | 10 => ("CanyonEchoes$Canyon", "wallOwner", "[I", true)
  | 11 => ("CanyonEchoes$Canyon", "wallSoaks", "[I", true)
  | 12 => ("CanyonEchoes$Canyon", "wallThrows", "[I", true)
  | 13 => ("CanyonEchoes$Canyon", "coins", "[I", true)
  | 14 => ("CanyonEchoes$Canyon", "silence", "[I", true)
  | 15 => ("CanyonEchoes$Canyon", "loud", "[I", true)
  | 16 => ("CanyonEchoes$Canyon", "place", "[I", true)
  | 17 => ("CanyonEchoes$Canyon", "step", "[I", true)
  | _ => ("CanyonEchoes$Canyon", "turns", "[I", true)
def tyX0 : Nat → FieldType := fun k => match k with
  | 0 => .int
  | 1 => .int
  | 2 => .int
  | 3 => .int
  | 4 => .int
  | 5 => .int
  | 6 => .array .int
  | 7 => .array .int
  | 8 => .array .int
  | 9 => .array .int
  | 10 => .array .int
  | 11 => .array .int
  | 12 => .array .int
  | 13 => .array .int
  | 14 => .array .int
  | 15 => .array .int
  | 16 => .array .int
  | 17 => .array .int
  | _ => .array .int
abbrev wsX00 : List Cond := u_ws RX0 TX0 19
theorem nmX0 : ∀ a, a < 19 → ∀ b, b < 19 → a ≠ b → (TX0 a).2.1 ≠ (TX0 b).2.1 := by decide +kernel
theorem tyX0_ok : ∀ k, k < 19 → parseFieldDescriptor (TX0 k).2.2.1 = some (tyX0 k) := by decide +kernel
abbrev cX0_init : ByteArray := prog_2_method_1_code
def yX0_init : MethodName := ⟨RX0, "<init>", "()V"⟩
abbrev cX0_copyFrom : ByteArray := prog_2_method_2_code
def yX0_copyFrom : MethodName := ⟨RX0, "copyFrom", "(LCanyonEchoes$Canyon;)V"⟩
abbrev cX0_build : ByteArray := prog_2_method_3_code
def yX0_build : MethodName := ⟨RX0, "build", "(III)I"⟩
abbrev cX0_start : ByteArray := prog_2_method_4_code
def yX0_start : MethodName := ⟨RX0, "start", "(IZI)I"⟩
abbrev cX0_startAlone : ByteArray := prog_2_method_5_code
def yX0_startAlone : MethodName := ⟨RX0, "startAlone", "(IZI)V"⟩
abbrev cX0_loudAt : ByteArray := prog_2_method_6_code
def yX0_loudAt : MethodName := ⟨RX0, "loudAt", "(I)I"⟩
abbrev cX0_goOn : ByteArray := prog_2_method_7_code
def yX0_goOn : MethodName := ⟨RX0, "goOn", "()V"⟩
abbrev cX0_move : ByteArray := prog_2_method_8_code
def yX0_move : MethodName := ⟨RX0, "move", "(I)V"⟩
abbrev cX0_turnAt : ByteArray := prog_2_method_9_code
def yX0_turnAt : MethodName := ⟨RX0, "turnAt", "(II)V"⟩
abbrev cX0_hush : ByteArray := prog_2_method_10_code
def yX0_hush : MethodName := ⟨RX0, "hush", "(I)V"⟩
abbrev cX0_meet : ByteArray := prog_2_method_11_code
def yX0_meet : MethodName := ⟨RX0, "meet", "()V"⟩
abbrev cX0_settle : ByteArray := prog_2_method_12_code
def yX0_settle : MethodName := ⟨RX0, "settle", "(I)V"⟩
abbrev cX0_listen : ByteArray := prog_2_method_13_code
def yX0_listen : MethodName := ⟨RX0, "listen", "(IZ)V"⟩
abbrev cX0_loseWall : ByteArray := prog_2_method_14_code
def yX0_loseWall : MethodName := ⟨RX0, "loseWall", "(I)V"⟩
def RX1 : String := "CanyonEchoes"
def TX1 : u_T := fun k => match k with
  | 0 => ("CanyonEchoes", "now", "LCanyonEchoes$Canyon;", true)
  | _ => ("CanyonEchoes", "ahead", "LCanyonEchoes$Canyon;", true)
def tyX1 : Nat → FieldType := fun k => match k with
  | 0 => .object "CanyonEchoes$Canyon"
  | _ => .object "CanyonEchoes$Canyon"
abbrev wsX10 : List Cond := u_ws RX1 TX1 2
theorem nmX1 : ∀ a, a < 2 → ∀ b, b < 2 → a ≠ b → (TX1 a).2.1 ≠ (TX1 b).2.1 := by decide +kernel
theorem tyX1_ok : ∀ k, k < 2 → parseFieldDescriptor (TX1 k).2.2.1 = some (tyX1 k) := by decide +kernel
abbrev cX1_init : ByteArray := prog_1_method_1_code
def yX1_init : MethodName := ⟨RX1, "<init>", "()V"⟩
abbrev cX1_addWall : ByteArray := prog_1_method_2_code
def yX1_addWall : MethodName := ⟨RX1, "addWall", "(III)I"⟩
abbrev cX1_hand : ByteArray := prog_1_method_3_code
def yX1_hand : MethodName := ⟨RX1, "hand", "(I)I"⟩
abbrev cX1_setSnow : ByteArray := prog_1_method_4_code
def yX1_setSnow : MethodName := ⟨RX1, "setSnow", "(II)I"⟩
abbrev cX1_shout : ByteArray := prog_1_method_5_code
def yX1_shout : MethodName := ⟨RX1, "shout", "(IZI)I"⟩
abbrev cX1_pass : ByteArray := prog_1_method_6_code
def yX1_pass : MethodName := ⟨RX1, "pass", "(I)I"⟩
abbrev cX1_beat : ByteArray := prog_1_method_7_code
def yX1_beat : MethodName := ⟨RX1, "beat", "()I"⟩
abbrev cX1_walls : ByteArray := prog_1_method_8_code
def yX1_walls : MethodName := ⟨RX1, "walls", "()I"⟩
abbrev cX1_shouts : ByteArray := prog_1_method_9_code
def yX1_shouts : MethodName := ⟨RX1, "shouts", "()I"⟩
abbrev cX1_underWay : ByteArray := prog_1_method_10_code
def yX1_underWay : MethodName := ⟨RX1, "underWay", "()I"⟩
abbrev cX1_overlaps : ByteArray := prog_1_method_11_code
def yX1_overlaps : MethodName := ⟨RX1, "overlaps", "()I"⟩
abbrev cX1_snowOn : ByteArray := prog_1_method_12_code
def yX1_snowOn : MethodName := ⟨RX1, "snowOn", "(I)I"⟩
abbrev cX1_wallOn : ByteArray := prog_1_method_13_code
def yX1_wallOn : MethodName := ⟨RX1, "wallOn", "(I)I"⟩
abbrev cX1_loudOn : ByteArray := prog_1_method_14_code
def yX1_loudOn : MethodName := ⟨RX1, "loudOn", "(I)I"⟩
abbrev cX1_stoneOf : ByteArray := prog_1_method_15_code
def yX1_stoneOf : MethodName := ⟨RX1, "stoneOf", "(I)I"⟩
abbrev cX1_ownerOf : ByteArray := prog_1_method_16_code
def yX1_ownerOf : MethodName := ⟨RX1, "ownerOf", "(I)I"⟩
abbrev cX1_thrownBack : ByteArray := prog_1_method_17_code
def yX1_thrownBack : MethodName := ⟨RX1, "thrownBack", "(I)I"⟩
abbrev cX1_coinsOf : ByteArray := prog_1_method_18_code
def yX1_coinsOf : MethodName := ⟨RX1, "coinsOf", "(I)I"⟩
abbrev cX1_wallsOf : ByteArray := prog_1_method_19_code
def yX1_wallsOf : MethodName := ⟨RX1, "wallsOf", "(I)I"⟩
abbrev cX1_silentFor : ByteArray := prog_1_method_20_code
def yX1_silentFor : MethodName := ⟨RX1, "silentFor", "(I)I"⟩
abbrev cX1_inherited : ByteArray := prog_1_method_21_code
def yX1_inherited : MethodName := ⟨RX1, "inherited", "()I"⟩
abbrev cX1_loudnessOf : ByteArray := prog_1_method_22_code
def yX1_loudnessOf : MethodName := ⟨RX1, "loudnessOf", "(I)I"⟩
abbrev cX1_placeOf : ByteArray := prog_1_method_23_code
def yX1_placeOf : MethodName := ⟨RX1, "placeOf", "(I)I"⟩
abbrev cX1_goesRight : ByteArray := prog_1_method_24_code
def yX1_goesRight : MethodName := ⟨RX1, "goesRight", "(I)Z"⟩
abbrev cX1_turnsOf : ByteArray := prog_1_method_25_code
def yX1_turnsOf : MethodName := ⟨RX1, "turnsOf", "(I)I"⟩
abbrev cX1_nextWall : ByteArray := prog_1_method_26_code
def yX1_nextWall : MethodName := ⟨RX1, "nextWall", "(IZ)I"⟩
abbrev cX1_beatsUntilGone : ByteArray := prog_1_method_27_code
def yX1_beatsUntilGone : MethodName := ⟨RX1, "beatsUntilGone", "(I)I"⟩
abbrev cX1_beatsUntilQuiet : ByteArray := prog_1_method_28_code
def yX1_beatsUntilQuiet : MethodName := ⟨RX1, "beatsUntilQuiet", "()I"⟩
abbrev cX1_coinsIn : ByteArray := prog_1_method_29_code
def yX1_coinsIn : MethodName := ⟨RX1, "coinsIn", "(II)I"⟩
abbrev cX1_loudestOn : ByteArray := prog_1_method_30_code
def yX1_loudestOn : MethodName := ⟨RX1, "loudestOn", "(II)I"⟩
abbrev cX1_loudnessWanted : ByteArray := prog_1_method_31_code
def yX1_loudnessWanted : MethodName := ⟨RX1, "loudnessWanted", "(IZI)I"⟩
abbrev cX1_bestStone : ByteArray := prog_1_method_32_code
def yX1_bestStone : MethodName := ⟨RX1, "bestStone", "(I)I"⟩
abbrev cX1_meanLoudness : ByteArray := prog_1_method_33_code
def yX1_meanLoudness : MethodName := ⟨RX1, "meanLoudness", "()D"⟩
abbrev cX1_digest : ByteArray := prog_1_method_34_code
def yX1_digest : MethodName := ⟨RX1, "digest", "()J"⟩
abbrev cX1_digestCounts : ByteArray := prog_1_method_35_code
def yX1_digestCounts : MethodName := ⟨RX1, "digestCounts", "(J)J"⟩
abbrev cX1_digestEchoes : ByteArray := prog_1_method_36_code
def yX1_digestEchoes : MethodName := ⟨RX1, "digestEchoes", "(J)J"⟩
abbrev cX1_digestWalls : ByteArray := prog_1_method_37_code
def yX1_digestWalls : MethodName := ⟨RX1, "digestWalls", "(J)J"⟩
abbrev cX1_digestShouts : ByteArray := prog_1_method_38_code
def yX1_digestShouts : MethodName := ⟨RX1, "digestShouts", "(J)J"⟩
abbrev cX1_digestStones : ByteArray := prog_1_method_39_code
def yX1_digestStones : MethodName := ⟨RX1, "digestStones", "(J)J"⟩
abbrev cX1_mix : ByteArray := prog_1_method_40_code
def yX1_mix : MethodName := ⟨RX1, "mix", "(JI)J"⟩
abbrev cX1_turnsAlone : ByteArray := prog_1_method_41_code
def yX1_turnsAlone : MethodName := ⟨RX1, "turnsAlone", "(II)I"⟩
abbrev cX1_isStone : ByteArray := prog_1_method_42_code
def yX1_isStone : MethodName := ⟨RX1, "isStone", "(I)Z"⟩
abbrev cX1_otherEcho : ByteArray := prog_1_method_43_code
def yX1_otherEcho : MethodName := ⟨RX1, "otherEcho", "(I)I"⟩
abbrev cX1_needStone : ByteArray := prog_1_method_44_code
def yX1_needStone : MethodName := ⟨RX1, "needStone", "(I)V"⟩
abbrev cX1_needEcho : ByteArray := prog_1_method_45_code
def yX1_needEcho : MethodName := ⟨RX1, "needEcho", "(I)V"⟩
abbrev cX1_needWall : ByteArray := prog_1_method_46_code
def yX1_needWall : MethodName := ⟨RX1, "needWall", "(I)V"⟩
abbrev cX1_needShout : ByteArray := prog_1_method_47_code
def yX1_needShout : MethodName := ⟨RX1, "needShout", "(I)V"⟩
abbrev cX1_needLoud : ByteArray := prog_1_method_48_code
def yX1_needLoud : MethodName := ⟨RX1, "needLoud", "(I)V"⟩
abbrev cX1_needBeats : ByteArray := prog_1_method_49_code
def yX1_needBeats : MethodName := ⟨RX1, "needBeats", "(I)V"⟩
def RX2 : String := "CanyonEchoesLaw$Sim"
def TX2 : u_T := fun k => match k with
  | 0 => ("CanyonEchoesLaw$Sim", "snow", "[I", false)
  | 1 => ("CanyonEchoesLaw$Sim", "walls", "[[I", false)
  | 2 => ("CanyonEchoesLaw$Sim", "shouts", "[[I", false)
  | 3 => ("CanyonEchoesLaw$Sim", "coins", "[I", false)
  | 4 => ("CanyonEchoesLaw$Sim", "silent", "[I", false)
  | 5 => ("CanyonEchoesLaw$Sim", "beat", "I", false)
  | 6 => ("CanyonEchoesLaw$Sim", "overlaps", "I", false)
  | _ => ("CanyonEchoesLaw$Sim", "lost", "I", false)
def tyX2 : Nat → FieldType := fun k => match k with
  | 0 => .array .int
  | 1 => .array (.array .int)
  | 2 => .array (.array .int)
  | 3 => .array .int
  | 4 => .array .int
  | 5 => .int
  | 6 => .int
  | _ => .int
abbrev wsX20 : List Cond := u_ws RX2 TX2 8
theorem nmX2 : ∀ a, a < 8 → ∀ b, b < 8 → a ≠ b → (TX2 a).2.1 ≠ (TX2 b).2.1 := by decide +kernel
theorem tyX2_ok : ∀ k, k < 8 → parseFieldDescriptor (TX2 k).2.2.1 = some (tyX2 k) := by decide +kernel
abbrev cX2_init : ByteArray := prog_4_method_1_code
def yX2_init : MethodName := ⟨RX2, "<init>", "()V"⟩
abbrev cX2_with : ByteArray := prog_4_method_2_code
def yX2_with : MethodName := ⟨RX2, "with", "([[I[I)[[I"⟩
abbrev cX2_copy : ByteArray := prog_4_method_3_code
def yX2_copy : MethodName := ⟨RX2, "copy", "()LCanyonEchoesLaw$Sim;"⟩
abbrev cX2_wallOn : ByteArray := prog_4_method_4_code
def yX2_wallOn : MethodName := ⟨RX2, "wallOn", "(I)I"⟩
abbrev cX2_loudestOn : ByteArray := prog_4_method_5_code
def yX2_loudestOn : MethodName := ⟨RX2, "loudestOn", "(I)I"⟩
abbrev cX2_underWay : ByteArray := prog_4_method_6_code
def yX2_underWay : MethodName := ⟨RX2, "underWay", "()I"⟩
abbrev cX2_pass : ByteArray := prog_4_method_7_code
def yX2_pass : MethodName := ⟨RX2, "pass", "()I"⟩
abbrev cX2_pass_ : ByteArray := prog_4_method_8_code
def yX2_pass_ : MethodName := ⟨RX2, "pass", "(I)I"⟩
abbrev cX2_alone : ByteArray := prog_4_method_9_code
def yX2_alone : MethodName := ⟨RX2, "alone", "(III)LCanyonEchoesLaw$Sim;"⟩
abbrev cX2_turns : ByteArray := prog_4_method_10_code
def yX2_turns : MethodName := ⟨RX2, "turns", "(II)I"⟩
abbrev cX2_isSame : ByteArray := prog_4_method_12_code
def yX2_isSame : MethodName := ⟨RX2, "isSame", "(LCanyonEchoes;)Z"⟩
def RX3 : String := "CanyonEchoesModel"
def TX3 : u_T := fun k => match k with
  | _ => ("", "", "", false)
def tyX3 : Nat → FieldType := fun k => match k with
  | _ => .int
abbrev wsX30 : List Cond := u_ws RX3 TX3 0
theorem nmX3 : ∀ a, a < 0 → ∀ b, b < 0 → a ≠ b → (TX3 a).2.1 ≠ (TX3 b).2.1 := by decide +kernel
theorem tyX3_ok : ∀ k, k < 0 → parseFieldDescriptor (TX3 k).2.2.1 = some (tyX3 k) := by decide +kernel
def RJx145de : String := "java/io/Serializable"
def TJx145de : u_T := fun k => match k with
  | _ => ("", "", "", false)
def tyJx145de : Nat → FieldType := fun k => match k with
  | _ => .int
abbrev wsJx145de0 : List Cond := u_ws RJx145de TJx145de 0
theorem nmJx145de : ∀ a, a < 0 → ∀ b, b < 0 → a ≠ b → (TJx145de a).2.1 ≠ (TJx145de b).2.1 := by decide +kernel
theorem tyJx145de_ok : ∀ k, k < 0 → parseFieldDescriptor (TJx145de k).2.2.1 = some (tyJx145de k) := by decide +kernel
def RJx8e188 : String := "java/lang/Cloneable"
def TJx8e188 : u_T := fun k => match k with
  | _ => ("", "", "", false)
def tyJx8e188 : Nat → FieldType := fun k => match k with
  | _ => .int
abbrev wsJx8e1880 : List Cond := u_ws RJx8e188 TJx8e188 0
theorem nmJx8e188 : ∀ a, a < 0 → ∀ b, b < 0 → a ≠ b → (TJx8e188 a).2.1 ≠ (TJx8e188 b).2.1 := by decide +kernel
theorem tyJx8e188_ok : ∀ k, k < 0 → parseFieldDescriptor (TJx8e188 k).2.2.1 = some (tyJx8e188 k) := by decide +kernel
def RJ9 : String := "java/lang/Math"
def TJ9 : u_T := fun k => match k with
  | _ => ("", "", "", false)
def tyJ9 : Nat → FieldType := fun k => match k with
  | _ => .int
abbrev wsJ90 : List Cond := u_ws RJ9 TJ9 0
theorem nmJ9 : ∀ a, a < 0 → ∀ b, b < 0 → a ≠ b → (TJ9 a).2.1 ≠ (TJ9 b).2.1 := by decide +kernel
theorem tyJ9_ok : ∀ k, k < 0 → parseFieldDescriptor (TJ9 k).2.2.1 = some (tyJ9 k) := by decide +kernel
abbrev cJ9_max_7cf53 : ByteArray := prog_11_method_65_code
def yJ9_max_7cf53 : MethodName := ⟨RJ9, "max", "(II)I"⟩
def RJ0 : String := "java/lang/String"
def TJ0 : u_T := fun k => match k with
  | _ => ("", "", "", false)
def tyJ0 : Nat → FieldType := fun k => match k with
  | _ => .int
abbrev wsJ00 : List Cond := u_ws RJ0 TJ0 0
theorem nmJ0 : ∀ a, a < 0 → ∀ b, b < 0 → a ≠ b → (TJ0 a).2.1 ≠ (TJ0 b).2.1 := by decide +kernel
theorem tyJ0_ok : ∀ k, k < 0 → parseFieldDescriptor (TJ0 k).2.2.1 = some (tyJ0 k) := by decide +kernel
def RJ10 : String := "java/lang/System"
def TJ10 : u_T := fun k => match k with
  | _ => ("", "", "", false)
def tyJ10 : Nat → FieldType := fun k => match k with
  | _ => .int
abbrev wsJ100 : List Cond := u_ws RJ10 TJ10 0
theorem nmJ10 : ∀ a, a < 0 → ∀ b, b < 0 → a ≠ b → (TJ10 a).2.1 ≠ (TJ10 b).2.1 := by decide +kernel
theorem tyJ10_ok : ∀ k, k < 0 → parseFieldDescriptor (TJ10 k).2.2.1 = some (tyJ10 k) := by decide +kernel
def RJ7 : String := "java/util/Arrays"
def TJ7 : u_T := fun k => match k with
  | _ => ("", "", "", false)
def tyJ7 : Nat → FieldType := fun k => match k with
  | _ => .int
abbrev wsJ70 : List Cond := u_ws RJ7 TJ7 0
theorem nmJ7 : ∀ a, a < 0 → ∀ b, b < 0 → a ≠ b → (TJ7 a).2.1 ≠ (TJ7 b).2.1 := by decide +kernel
theorem tyJ7_ok : ∀ k, k < 0 → parseFieldDescriptor (TJ7 k).2.2.1 = some (tyJ7 k) := by decide +kernel
abbrev cJ7_fill_53178 : ByteArray := prog_16_method_103_code
def yJ7_fill_53178 : MethodName := ⟨RJ7, "fill", "([II)V"⟩
def RL : String := "CanyonEchoesLaw"
abbrev cL_below : ByteArray := method_2_code
def yL_below : MethodName := ⟨RL, "below", "(II)I"⟩
abbrev cL_cell : ByteArray := method_3_code
def yL_cell : MethodName := ⟨RL, "cell", "([II)I"⟩
abbrev cL_act : ByteArray := method_4_code
def yL_act : MethodName := ⟨RL, "act", "(LCanyonEchoes;LCanyonEchoesLaw$Sim;I)Z"⟩
abbrev cL_build : ByteArray := method_5_code
def yL_build : MethodName := ⟨RL, "build", "(LCanyonEchoes;[I)LCanyonEchoesLaw$Sim;"⟩
abbrev cL_law : ByteArray := code
def yL_law : MethodName := ⟨RL, "law", "([I)Z"⟩
abbrev cL_comes : ByteArray := method_7_code
def yL_comes : MethodName := ⟨RL, "comes", "(LCanyonEchoesLaw$Sim;IZII)Z"⟩
theorem inX0 : ∀ w ∈ wsX00, w ∈ lw_tbl := by decide +kernel
theorem inX1 : ∀ w ∈ wsX10, w ∈ lw_tbl := by decide +kernel
theorem inX2 : ∀ w ∈ wsX20, w ∈ lw_tbl := by decide +kernel
abbrev vwCl : List vw_C := [(RX0, TX0, 19), (RX1, TX1, 2), (RX2, TX2, 8)]
