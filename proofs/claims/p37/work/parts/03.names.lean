def RX0 : String := "Panyard$Arrangement"
def TX0 : u_T := fun k => match k with
  | 0 => ("Panyard$Arrangement", "phraseAt", "[I", true)
  | _ => ("Panyard$Arrangement", "count", "I", false)
def tyX0 : Nat → FieldType := fun k => match k with
  | 0 => .array .int
  | _ => .int
abbrev wsX00 : List Cond := u_ws RX0 TX0 2
theorem nmX0 : ∀ a, a < 2 → ∀ b, b < 2 → a ≠ b → (TX0 a).2.1 ≠ (TX0 b).2.1 := by decide +kernel
theorem tyX0_ok : ∀ k, k < 2 → parseFieldDescriptor (TX0 k).2.2.1 = some (tyX0 k) := by decide +kernel
abbrev cX0_init : ByteArray := prog_2_method_1_code
def yX0_init : MethodName := ⟨RX0, "<init>", "()V"⟩
abbrev cX0_copyFrom : ByteArray := prog_2_method_2_code
def yX0_copyFrom : MethodName := ⟨RX0, "copyFrom", "(LPanyard$Arrangement;)V"⟩
abbrev cX0_append : ByteArray := prog_2_method_3_code
def yX0_append : MethodName := ⟨RX0, "append", "(I)V"⟩
abbrev cX0_closeUp : ByteArray := prog_2_method_4_code
def yX0_closeUp : MethodName := ⟨RX0, "closeUp", "(I)V"⟩
abbrev cX0_placesOf : ByteArray := prog_2_method_5_code
def yX0_placesOf : MethodName := ⟨RX0, "placesOf", "(I)I"⟩
abbrev cX0_repeats : ByteArray := prog_2_method_6_code
def yX0_repeats : MethodName := ⟨RX0, "repeats", "()I"⟩
abbrev cX0_shuffle : ByteArray := prog_2_method_7_code
def yX0_shuffle : MethodName := ⟨RX0, "shuffle", "(I)V"⟩
def RX1 : String := "Panyard$Contest"
def TX1 : u_T := fun k => match k with
  | 0 => ("Panyard$Contest", "rivals", "[I", true)
  | 1 => ("Panyard$Contest", "leans", "[I", true)
  | 2 => ("Panyard$Contest", "scores", "[I", true)
  | 3 => ("Panyard$Contest", "ranks", "[I", true)
  | 4 => ("Panyard$Contest", "rivalCount", "I", false)
  | 5 => ("Panyard$Contest", "roundsPlayed", "I", false)
  | _ => ("Panyard$Contest", "lost", "Z", false)
def tyX1 : Nat → FieldType := fun k => match k with
  | 0 => .array .int
  | 1 => .array .int
  | 2 => .array .int
  | 3 => .array .int
  | 4 => .int
  | 5 => .int
  | _ => .boolean
abbrev wsX10 : List Cond := u_ws RX1 TX1 7
theorem nmX1 : ∀ a, a < 7 → ∀ b, b < 7 → a ≠ b → (TX1 a).2.1 ≠ (TX1 b).2.1 := by decide +kernel
theorem tyX1_ok : ∀ k, k < 7 → parseFieldDescriptor (TX1 k).2.2.1 = some (tyX1 k) := by decide +kernel
abbrev cX1_init : ByteArray := prog_3_method_1_code
def yX1_init : MethodName := ⟨RX1, "<init>", "()V"⟩
abbrev cX1_isOver : ByteArray := prog_3_method_2_code
def yX1_isOver : MethodName := ⟨RX1, "isOver", "()Z"⟩
abbrev cX1_scoreOf : ByteArray := prog_3_method_3_code
def yX1_scoreOf : MethodName := ⟨RX1, "scoreOf", "(I)I"⟩
abbrev cX1_enter : ByteArray := prog_3_method_4_code
def yX1_enter : MethodName := ⟨RX1, "enter", "(I)I"⟩
abbrev cX1_rankOf : ByteArray := prog_3_method_5_code
def yX1_rankOf : MethodName := ⟨RX1, "rankOf", "(II)I"⟩
abbrev cX1_prizeOf : ByteArray := prog_3_method_6_code
def yX1_prizeOf : MethodName := ⟨RX1, "prizeOf", "(II)I"⟩
def RX2 : String := "Panyard$Minds"
def TX2 : u_T := fun k => match k with
  | 0 => ("Panyard$Minds", "known", "[[I", true)
  | _ => ("Panyard$Minds", "practised", "[I", true)
def tyX2 : Nat → FieldType := fun k => match k with
  | 0 => .array (.array .int)
  | _ => .array .int
abbrev wsX20 : List Cond := u_ws RX2 TX2 2
theorem nmX2 : ∀ a, a < 2 → ∀ b, b < 2 → a ≠ b → (TX2 a).2.1 ≠ (TX2 b).2.1 := by decide +kernel
theorem tyX2_ok : ∀ k, k < 2 → parseFieldDescriptor (TX2 k).2.2.1 = some (tyX2 k) := by decide +kernel
abbrev cX2_init : ByteArray := prog_4_method_1_code
def yX2_init : MethodName := ⟨RX2, "<init>", "()V"⟩
abbrev cX2_copyFrom : ByteArray := prog_4_method_2_code
def yX2_copyFrom : MethodName := ⟨RX2, "copyFrom", "(LPanyard$Minds;)V"⟩
abbrev cX2_learn : ByteArray := prog_4_method_3_code
def yX2_learn : MethodName := ⟨RX2, "learn", "(IIII)V"⟩
abbrev cX2_halve : ByteArray := prog_4_method_4_code
def yX2_halve : MethodName := ⟨RX2, "halve", "(III)V"⟩
abbrev cX2_sleep : ByteArray := prog_4_method_5_code
def yX2_sleep : MethodName := ⟨RX2, "sleep", "([LPanyard$Phrase;I)V"⟩
def RX3 : String := "Panyard$Pan"
def TX3 : u_T := fun k => match k with
  | 0 => ("Panyard$Pan", "number", "I", true)
  | 1 => ("Panyard$Pan", "offs", "[I", true)
  | 2 => ("Panyard$Pan", "family", "I", false)
  | 3 => ("Panyard$Pan", "fatigue", "I", false)
  | _ => ("Panyard$Pan", "blows", "I", false)
def tyX3 : Nat → FieldType := fun k => match k with
  | 0 => .int
  | 1 => .array .int
  | 2 => .int
  | 3 => .int
  | _ => .int
abbrev wsX30 : List Cond := u_ws RX3 TX3 5
theorem nmX3 : ∀ a, a < 5 → ∀ b, b < 5 → a ≠ b → (TX3 a).2.1 ≠ (TX3 b).2.1 := by decide +kernel
theorem tyX3_ok : ∀ k, k < 5 → parseFieldDescriptor (TX3 k).2.2.1 = some (tyX3 k) := by decide +kernel
abbrev cX3_init : ByteArray := prog_5_method_1_code
def yX3_init : MethodName := ⟨RX3, "<init>", "(II)V"⟩
abbrev cX3_copyFrom : ByteArray := prog_5_method_2_code
def yX3_copyFrom : MethodName := ⟨RX3, "copyFrom", "(LPanyard$Pan;)V"⟩
abbrev cX3_isCracked : ByteArray := prog_5_method_3_code
def yX3_isCracked : MethodName := ⟨RX3, "isCracked", "()Z"⟩
abbrev cX3_notesInTune : ByteArray := prog_5_method_4_code
def yX3_notesInTune : MethodName := ⟨RX3, "notesInTune", "()I"⟩
abbrev cX3_grade : ByteArray := prog_5_method_5_code
def yX3_grade : MethodName := ⟨RX3, "grade", "()I"⟩
abbrev cX3_shift : ByteArray := prog_5_method_6_code
def yX3_shift : MethodName := ⟨RX3, "shift", "(II)V"⟩
abbrev cX3_strike : ByteArray := prog_5_method_7_code
def yX3_strike : MethodName := ⟨RX3, "strike", "(II)V"⟩
abbrev cX3_heat : ByteArray := prog_5_method_8_code
def yX3_heat : MethodName := ⟨RX3, "heat", "()V"⟩
abbrev cX3_warm : ByteArray := prog_5_method_9_code
def yX3_warm : MethodName := ⟨RX3, "warm", "()V"⟩
abbrev cX3_wear : ByteArray := prog_5_method_10_code
def yX3_wear : MethodName := ⟨RX3, "wear", "(II)V"⟩
abbrev cX3_needsTuner : ByteArray := prog_5_method_11_code
def yX3_needsTuner : MethodName := ⟨RX3, "needsTuner", "()Z"⟩
abbrev cX3_tuneUpTo : ByteArray := prog_5_method_12_code
def yX3_tuneUpTo : MethodName := ⟨RX3, "tuneUpTo", "(I)I"⟩
abbrev cX3_tuneOnce : ByteArray := prog_5_method_13_code
def yX3_tuneOnce : MethodName := ⟨RX3, "tuneOnce", "()V"⟩
def RX4 : String := "Panyard$Phrase"
def TX4 : u_T := fun k => match k with
  | 0 => ("Panyard$Phrase", "section", "I", true)
  | 1 => ("Panyard$Phrase", "hard", "I", false)
  | 2 => ("Panyard$Phrase", "notes", "I", false)
  | _ => ("Panyard$Phrase", "changes", "I", false)
def tyX4 : Nat → FieldType := fun k => match k with
  | 0 => .int
  | 1 => .int
  | 2 => .int
  | _ => .int
abbrev wsX40 : List Cond := u_ws RX4 TX4 4
theorem nmX4 : ∀ a, a < 4 → ∀ b, b < 4 → a ≠ b → (TX4 a).2.1 ≠ (TX4 b).2.1 := by decide +kernel
theorem tyX4_ok : ∀ k, k < 4 → parseFieldDescriptor (TX4 k).2.2.1 = some (tyX4 k) := by decide +kernel
abbrev cX4_init : ByteArray := prog_6_method_1_code
def yX4_init : MethodName := ⟨RX4, "<init>", "(III)V"⟩
abbrev cX4_tellAnew : ByteArray := prog_6_method_2_code
def yX4_tellAnew : MethodName := ⟨RX4, "tellAnew", "(II)V"⟩
abbrev cX4_noteCount : ByteArray := prog_6_method_3_code
def yX4_noteCount : MethodName := ⟨RX4, "noteCount", "()I"⟩
def RX5 : String := "Panyard$Player"
def TX5 : u_T := fun k => match k with
  | 0 => ("Panyard$Player", "section", "I", true)
  | 1 => ("Panyard$Player", "speed", "I", true)
  | 2 => ("Panyard$Player", "reach", "I", true)
  | 3 => ("Panyard$Player", "pan", "LPanyard$Pan;", false)
  | 4 => ("Panyard$Player", "away", "Z", false)
  | _ => ("Panyard$Player", "minutesTaught", "I", false)
def tyX5 : Nat → FieldType := fun k => match k with
  | 0 => .int
  | 1 => .int
  | 2 => .int
  | 3 => .object "Panyard$Pan"
  | 4 => .boolean
  | _ => .int
abbrev wsX50 : List Cond := u_ws RX5 TX5 6
theorem nmX5 : ∀ a, a < 6 → ∀ b, b < 6 → a ≠ b → (TX5 a).2.1 ≠ (TX5 b).2.1 := by decide +kernel
theorem tyX5_ok : ∀ k, k < 6 → parseFieldDescriptor (TX5 k).2.2.1 = some (tyX5 k) := by decide +kernel
abbrev cX5_init : ByteArray := prog_7_method_1_code
def yX5_init : MethodName := ⟨RX5, "<init>", "(III)V"⟩
abbrev cX5_panNumber : ByteArray := prog_7_method_2_code
def yX5_panNumber : MethodName := ⟨RX5, "panNumber", "()I"⟩
abbrev cX5_soundingPan : ByteArray := prog_7_method_3_code
def yX5_soundingPan : MethodName := ⟨RX5, "soundingPan", "()LPanyard$Pan;"⟩
abbrev cX5_mostMemory : ByteArray := prog_7_method_4_code
def yX5_mostMemory : MethodName := ⟨RX5, "mostMemory", "(LPanyard$Phrase;)I"⟩
def RX6 : String := "Panyard$Today"
def TX6 : u_T := fun k => match k with
  | 0 => ("Panyard$Today", "taught", "[I", true)
  | 1 => ("Panyard$Today", "number", "I", false)
  | 2 => ("Panyard$Today", "rehearsed", "I", false)
  | _ => ("Panyard$Today", "played", "Z", false)
def tyX6 : Nat → FieldType := fun k => match k with
  | 0 => .array .int
  | 1 => .int
  | 2 => .int
  | _ => .boolean
abbrev wsX60 : List Cond := u_ws RX6 TX6 4
theorem nmX6 : ∀ a, a < 4 → ∀ b, b < 4 → a ≠ b → (TX6 a).2.1 ≠ (TX6 b).2.1 := by decide +kernel
theorem tyX6_ok : ∀ k, k < 4 → parseFieldDescriptor (TX6 k).2.2.1 = some (tyX6 k) := by decide +kernel
abbrev cX6_init : ByteArray := prog_8_method_1_code
def yX6_init : MethodName := ⟨RX6, "<init>", "()V"⟩
abbrev cX6_turn : ByteArray := prog_8_method_2_code
def yX6_turn : MethodName := ⟨RX6, "turn", "()V"⟩
def RX7 : String := "Panyard"
def TX7 : u_T := fun k => match k with
  | 0 => ("Panyard", "pans", "[LPanyard$Pan;", true)
  | 1 => ("Panyard", "phrases", "[LPanyard$Phrase;", true)
  | 2 => ("Panyard", "players", "[LPanyard$Player;", true)
  | 3 => ("Panyard", "arrangement", "LPanyard$Arrangement;", true)
  | 4 => ("Panyard", "minds", "LPanyard$Minds;", true)
  | 5 => ("Panyard", "today", "LPanyard$Today;", true)
  | 6 => ("Panyard", "contest", "LPanyard$Contest;", true)
  | 7 => ("Panyard", "panCount", "I", false)
  | 8 => ("Panyard", "phraseCount", "I", false)
  | 9 => ("Panyard", "playerCount", "I", false)
  | 10 => ("Panyard", "money", "I", false)
  | 11 => ("Panyard", "covered", "Z", false)
  | 12 => ("Panyard", "trialPan", "LPanyard$Pan;", true)
  | 13 => ("Panyard", "trialOrder", "LPanyard$Arrangement;", true)
  | 14 => ("Panyard", "trialMinds", "LPanyard$Minds;", true)
  | _ => ("Panyard", "levels", "[I", true)
def tyX7 : Nat → FieldType := fun k => match k with
  | 0 => .array (.object "Panyard$Pan")
  | 1 => .array (.object "Panyard$Phrase")
  | 2 => .array (.object "Panyard$Player")
  | 3 => .object "Panyard$Arrangement"
  | 4 => .object "Panyard$Minds"
  | 5 => .object "Panyard$Today"
  | 6 => .object "Panyard$Contest"
  | 7 => .int
  | 8 => .int
  | 9 => .int
  | 10 => .int
  | 11 => .boolean
  | 12 => .object "Panyard$Pan"
  | 13 => .object "Panyard$Arrangement"
  | 14 => .object "Panyard$Minds"
  | _ => .array .int
abbrev wsX70 : List Cond := u_ws RX7 TX7 16
theorem nmX7 : ∀ a, a < 16 → ∀ b, b < 16 → a ≠ b → (TX7 a).2.1 ≠ (TX7 b).2.1 := by decide +kernel
theorem tyX7_ok : ∀ k, k < 16 → parseFieldDescriptor (TX7 k).2.2.1 = some (tyX7 k) := by decide +kernel
abbrev cX7_init : ByteArray := prog_1_method_1_code
def yX7_init : MethodName := ⟨RX7, "<init>", "()V"⟩
abbrev cX7_pan : ByteArray := prog_1_method_2_code
def yX7_pan : MethodName := ⟨RX7, "pan", "(I)I"⟩
abbrev cX7_blow : ByteArray := prog_1_method_3_code
def yX7_blow : MethodName := ⟨RX7, "blow", "(III)I"⟩
abbrev cX7_burn : ByteArray := prog_1_method_4_code
def yX7_burn : MethodName := ⟨RX7, "burn", "(I)I"⟩
abbrev cX7_tuner : ByteArray := prog_1_method_5_code
def yX7_tuner : MethodName := ⟨RX7, "tuner", "(II)I"⟩
abbrev cX7_phrase : ByteArray := prog_1_method_7_code
def yX7_phrase : MethodName := ⟨RX7, "phrase", "(III)I"⟩
abbrev cX7_change : ByteArray := prog_1_method_8_code
def yX7_change : MethodName := ⟨RX7, "change", "(III)I"⟩
abbrev cX7_put : ByteArray := prog_1_method_9_code
def yX7_put : MethodName := ⟨RX7, "put", "(I)I"⟩
abbrev cX7_cut : ByteArray := prog_1_method_10_code
def yX7_cut : MethodName := ⟨RX7, "cut", "(I)I"⟩
abbrev cX7_player : ByteArray := prog_1_method_11_code
def yX7_player : MethodName := ⟨RX7, "player", "(III)I"⟩
abbrev cX7_give : ByteArray := prog_1_method_12_code
def yX7_give : MethodName := ⟨RX7, "give", "(II)I"⟩
abbrev cX7_absent : ByteArray := prog_1_method_13_code
def yX7_absent : MethodName := ⟨RX7, "absent", "(IZ)Z"⟩
abbrev cX7_teach : ByteArray := prog_1_method_14_code
def yX7_teach : MethodName := ⟨RX7, "teach", "(III)I"⟩
abbrev cX7_rehearse : ByteArray := prog_1_method_15_code
def yX7_rehearse : MethodName := ⟨RX7, "rehearse", "(I)I"⟩
abbrev cX7_pass : ByteArray := prog_1_method_16_code
def yX7_pass : MethodName := ⟨RX7, "pass", "(III)I"⟩
abbrev cX7_rival : ByteArray := prog_1_method_18_code
def yX7_rival : MethodName := ⟨RX7, "rival", "(I)I"⟩
abbrev cX7_play : ByteArray := prog_1_method_20_code
def yX7_play : MethodName := ⟨RX7, "play", "()I"⟩
abbrev cX7_ofPan : ByteArray := prog_1_method_21_code
def yX7_ofPan : MethodName := ⟨RX7, "ofPan", "(II)I"⟩
abbrev cX7_off : ByteArray := prog_1_method_22_code
def yX7_off : MethodName := ⟨RX7, "off", "(II)I"⟩
abbrev cX7_ofPhrase : ByteArray := prog_1_method_23_code
def yX7_ofPhrase : MethodName := ⟨RX7, "ofPhrase", "(II)I"⟩
abbrev cX7_ofPlayer : ByteArray := prog_1_method_24_code
def yX7_ofPlayer : MethodName := ⟨RX7, "ofPlayer", "(II)I"⟩
abbrev cX7_memory : ByteArray := prog_1_method_25_code
def yX7_memory : MethodName := ⟨RX7, "memory", "(II)I"⟩
abbrev cX7_ofPlace : ByteArray := prog_1_method_26_code
def yX7_ofPlace : MethodName := ⟨RX7, "ofPlace", "(II)I"⟩
abbrev cX7_mark : ByteArray := prog_1_method_27_code
def yX7_mark : MethodName := ⟨RX7, "mark", "(I)I"⟩
abbrev cX7_ofRound : ByteArray := prog_1_method_28_code
def yX7_ofRound : MethodName := ⟨RX7, "ofRound", "(II)I"⟩
abbrev cX7_many : ByteArray := prog_1_method_29_code
def yX7_many : MethodName := ⟨RX7, "many", "(I)I"⟩
abbrev cX7_meanMemory : ByteArray := prog_1_method_30_code
def yX7_meanMemory : MethodName := ⟨RX7, "meanMemory", "()D"⟩
abbrev cX7_wouldTotal : ByteArray := prog_1_method_31_code
def yX7_wouldTotal : MethodName := ⟨RX7, "wouldTotal", "(I)I"⟩
abbrev cX7_bestOrder : ByteArray := prog_1_method_32_code
def yX7_bestOrder : MethodName := ⟨RX7, "bestOrder", "()I"⟩
abbrev cX7_bestTeach : ByteArray := prog_1_method_33_code
def yX7_bestTeach : MethodName := ⟨RX7, "bestTeach", "(II)I"⟩
abbrev cX7_blowsFor : ByteArray := prog_1_method_34_code
def yX7_blowsFor : MethodName := ⟨RX7, "blowsFor", "(I)I"⟩
abbrev cX7_digest : ByteArray := prog_1_method_35_code
def yX7_digest : MethodName := ⟨RX7, "digest", "()J"⟩
abbrev cX7_digestPans : ByteArray := prog_1_method_36_code
def yX7_digestPans : MethodName := ⟨RX7, "digestPans", "(J)J"⟩
abbrev cX7_digestPhrases : ByteArray := prog_1_method_37_code
def yX7_digestPhrases : MethodName := ⟨RX7, "digestPhrases", "(J)J"⟩
abbrev cX7_digestPlayers : ByteArray := prog_1_method_38_code
def yX7_digestPlayers : MethodName := ⟨RX7, "digestPlayers", "(J)J"⟩
abbrev cX7_digestPlacesAndMarks : ByteArray := prog_1_method_39_code
def yX7_digestPlacesAndMarks : MethodName := ⟨RX7, "digestPlacesAndMarks", "(J)J"⟩
abbrev cX7_isWithin : ByteArray := prog_1_method_40_code
def yX7_isWithin : MethodName := ⟨RX7, "isWithin", "(III)Z"⟩
abbrev cX7_held : ByteArray := prog_1_method_41_code
def yX7_held : MethodName := ⟨RX7, "held", "(III)I"⟩
abbrev cX7_requireSection : ByteArray := prog_1_method_42_code
def yX7_requireSection : MethodName := ⟨RX7, "requireSection", "(I)V"⟩
abbrev cX7_requireNote : ByteArray := prog_1_method_43_code
def yX7_requireNote : MethodName := ⟨RX7, "requireNote", "(I)V"⟩
abbrev cX7_requirePhraseWords : ByteArray := prog_1_method_44_code
def yX7_requirePhraseWords : MethodName := ⟨RX7, "requirePhraseWords", "(II)V"⟩
abbrev cX7_requireLesson : ByteArray := prog_1_method_45_code
def yX7_requireLesson : MethodName := ⟨RX7, "requireLesson", "(I)V"⟩
abbrev cX7_requirePan : ByteArray := prog_1_method_46_code
def yX7_requirePan : MethodName := ⟨RX7, "requirePan", "(I)V"⟩
abbrev cX7_requireWhole : ByteArray := prog_1_method_47_code
def yX7_requireWhole : MethodName := ⟨RX7, "requireWhole", "(I)V"⟩
abbrev cX7_requirePhrase : ByteArray := prog_1_method_48_code
def yX7_requirePhrase : MethodName := ⟨RX7, "requirePhrase", "(I)V"⟩
abbrev cX7_requirePlayer : ByteArray := prog_1_method_49_code
def yX7_requirePlayer : MethodName := ⟨RX7, "requirePlayer", "(I)V"⟩
abbrev cX7_requirePlace : ByteArray := prog_1_method_50_code
def yX7_requirePlace : MethodName := ⟨RX7, "requirePlace", "(I)V"⟩
abbrev cX7_giveLesson : ByteArray := prog_1_method_51_code
def yX7_giveLesson : MethodName := ⟨RX7, "giveLesson", "(LPanyard$Minds;III)V"⟩
abbrev cX7_rehearsePlaces : ByteArray := prog_1_method_52_code
def yX7_rehearsePlaces : MethodName := ⟨RX7, "rehearsePlaces", "(ILPanyard$Pan;I)V"⟩
abbrev cX7_weather : ByteArray := prog_1_method_53_code
def yX7_weather : MethodName := ⟨RX7, "weather", "(II)V"⟩
abbrev cX7_soundingCount : ByteArray := prog_1_method_54_code
def yX7_soundingCount : MethodName := ⟨RX7, "soundingCount", "()I"⟩
abbrev cX7_blowsEver : ByteArray := prog_1_method_55_code
def yX7_blowsEver : MethodName := ⟨RX7, "blowsEver", "()I"⟩
abbrev cX7_weigh : ByteArray := prog_1_method_56_code
def yX7_weigh : MethodName := ⟨RX7, "weigh", "(LPanyard$Minds;)V"⟩
abbrev cX7_levelOf : ByteArray := prog_1_method_57_code
def yX7_levelOf : MethodName := ⟨RX7, "levelOf", "(ILPanyard$Minds;)I"⟩
abbrev cX7_soundAt : ByteArray := prog_1_method_58_code
def yX7_soundAt : MethodName := ⟨RX7, "soundAt", "(LPanyard$Arrangement;I)I"⟩
abbrev cX7_meanSound : ByteArray := prog_1_method_59_code
def yX7_meanSound : MethodName := ⟨RX7, "meanSound", "(LPanyard$Arrangement;)I"⟩
abbrev cX7_leastSound : ByteArray := prog_1_method_60_code
def yX7_leastSound : MethodName := ⟨RX7, "leastSound", "(LPanyard$Arrangement;)I"⟩
abbrev cX7_tone : ByteArray := prog_1_method_61_code
def yX7_tone : MethodName := ⟨RX7, "tone", "()I"⟩
abbrev cX7_variety : ByteArray := prog_1_method_62_code
def yX7_variety : MethodName := ⟨RX7, "variety", "(LPanyard$Arrangement;)I"⟩
abbrev cX7_heard : ByteArray := prog_1_method_63_code
def yX7_heard : MethodName := ⟨RX7, "heard", "(LPanyard$Arrangement;)I"⟩
abbrev cX7_totalNow : ByteArray := prog_1_method_64_code
def yX7_totalNow : MethodName := ⟨RX7, "totalNow", "()I"⟩
abbrev cX7_heardIfTaught : ByteArray := prog_1_method_65_code
def yX7_heardIfTaught : MethodName := ⟨RX7, "heardIfTaught", "(III)I"⟩
def RX8 : String := "PanyardModel$Pan"
def TX8 : u_T := fun k => match k with
  | _ => ("", "", "", false)
def tyX8 : Nat → FieldType := fun k => match k with
  | _ => .int
abbrev wsX80 : List Cond := u_ws RX8 TX8 0
theorem nmX8 : ∀ a, a < 0 → ∀ b, b < 0 → a ≠ b → (TX8 a).2.1 ≠ (TX8 b).2.1 := by decide +kernel
theorem tyX8_ok : ∀ k, k < 0 → parseFieldDescriptor (TX8 k).2.2.1 = some (tyX8 k) := by decide +kernel
def RX9 : String := "PanyardModel$Phrase"
def TX9 : u_T := fun k => match k with
  | _ => ("", "", "", false)
def tyX9 : Nat → FieldType := fun k => match k with
  | _ => .int
abbrev wsX90 : List Cond := u_ws RX9 TX9 0
theorem nmX9 : ∀ a, a < 0 → ∀ b, b < 0 → a ≠ b → (TX9 a).2.1 ≠ (TX9 b).2.1 := by decide +kernel
theorem tyX9_ok : ∀ k, k < 0 → parseFieldDescriptor (TX9 k).2.2.1 = some (tyX9 k) := by decide +kernel
def RX10 : String := "PanyardModel$Player"
def TX10 : u_T := fun k => match k with
  | _ => ("", "", "", false)
def tyX10 : Nat → FieldType := fun k => match k with
  | _ => .int
abbrev wsX100 : List Cond := u_ws RX10 TX10 0
theorem nmX10 : ∀ a, a < 0 → ∀ b, b < 0 → a ≠ b → (TX10 a).2.1 ≠ (TX10 b).2.1 := by decide +kernel
theorem tyX10_ok : ∀ k, k < 0 → parseFieldDescriptor (TX10 k).2.2.1 = some (tyX10 k) := by decide +kernel
def RX11 : String := "PanyardModel"
def TX11 : u_T := fun k => match k with
  | _ => ("", "", "", false)
def tyX11 : Nat → FieldType := fun k => match k with
  | _ => .int
abbrev wsX110 : List Cond := u_ws RX11 TX11 0
theorem nmX11 : ∀ a, a < 0 → ∀ b, b < 0 → a ≠ b → (TX11 a).2.1 ≠ (TX11 b).2.1 := by decide +kernel
theorem tyX11_ok : ∀ k, k < 0 → parseFieldDescriptor (TX11 k).2.2.1 = some (tyX11 k) := by decide +kernel
def RJx145de : String := "java/io/Serializable"
def TJx145de : u_T := fun k => match k with
  | _ => ("", "", "", false)
def tyJx145de : Nat → FieldType := fun k => match k with
  | _ => .int
abbrev wsJx145de0 : List Cond := u_ws RJx145de TJx145de 0
theorem nmJx145de : ∀ a, a < 0 → ∀ b, b < 0 → a ≠ b → (TJx145de a).2.1 ≠ (TJx145de b).2.1 := by decide +kernel
theorem tyJx145de_ok : ∀ k, k < 0 → parseFieldDescriptor (TJx145de k).2.2.1 = some (tyJx145de k) := by decide +kernel
def RJ6 : String := "java/lang/Integer"
def TJ6 : u_T := fun k => match k with
  | _ => ("", "", "", false)
def tyJ6 : Nat → FieldType := fun k => match k with
  | _ => .int
abbrev wsJ60 : List Cond := u_ws RJ6 TJ6 0
theorem nmJ6 : ∀ a, a < 0 → ∀ b, b < 0 → a ≠ b → (TJ6 a).2.1 ≠ (TJ6 b).2.1 := by decide +kernel
theorem tyJ6_ok : ∀ k, k < 0 → parseFieldDescriptor (TJ6 k).2.2.1 = some (tyJ6 k) := by decide +kernel
abbrev cJ6_bitCount_0f7a4 : ByteArray := prog_18_method_49_code
def yJ6_bitCount_0f7a4 : MethodName := ⟨RJ6, "bitCount", "(I)I"⟩
def RJ9 : String := "java/lang/Math"
def TJ9 : u_T := fun k => match k with
  | _ => ("", "", "", false)
def tyJ9 : Nat → FieldType := fun k => match k with
  | _ => .int
abbrev wsJ90 : List Cond := u_ws RJ9 TJ9 0
theorem nmJ9 : ∀ a, a < 0 → ∀ b, b < 0 → a ≠ b → (TJ9 a).2.1 ≠ (TJ9 b).2.1 := by decide +kernel
theorem tyJ9_ok : ∀ k, k < 0 → parseFieldDescriptor (TJ9 k).2.2.1 = some (tyJ9 k) := by decide +kernel
abbrev cJ9_abs_0f7a4 : ByteArray := prog_19_method_59_code
def yJ9_abs_0f7a4 : MethodName := ⟨RJ9, "abs", "(I)I"⟩
abbrev cJ9_max_7cf53 : ByteArray := prog_19_method_65_code
def yJ9_max_7cf53 : MethodName := ⟨RJ9, "max", "(II)I"⟩
abbrev cJ9_min_7cf53 : ByteArray := prog_19_method_69_code
def yJ9_min_7cf53 : MethodName := ⟨RJ9, "min", "(II)I"⟩
def RJ0 : String := "java/lang/String"
def TJ0 : u_T := fun k => match k with
  | _ => ("", "", "", false)
def tyJ0 : Nat → FieldType := fun k => match k with
  | _ => .int
abbrev wsJ00 : List Cond := u_ws RJ0 TJ0 0
theorem nmJ0 : ∀ a, a < 0 → ∀ b, b < 0 → a ≠ b → (TJ0 a).2.1 ≠ (TJ0 b).2.1 := by decide +kernel
theorem tyJ0_ok : ∀ k, k < 0 → parseFieldDescriptor (TJ0 k).2.2.1 = some (tyJ0 k) := by decide +kernel
def RJ10 : String := "java/lang/System"
def TJ10 : u_T := fun k => match k with
  | _ => ("", "", "", false)
def tyJ10 : Nat → FieldType := fun k => match k with
  | _ => .int
abbrev wsJ100 : List Cond := u_ws RJ10 TJ10 0
theorem nmJ10 : ∀ a, a < 0 → ∀ b, b < 0 → a ≠ b → (TJ10 a).2.1 ≠ (TJ10 b).2.1 := by decide +kernel
theorem tyJ10_ok : ∀ k, k < 0 → parseFieldDescriptor (TJ10 k).2.2.1 = some (tyJ10 k) := by decide +kernel
def RL : String := "PanyardLaw"
abbrev cL_below : ByteArray := method_2_code
def yL_below : MethodName := ⟨RL, "below", "(II)I"⟩
abbrev cL_cell : ByteArray := method_3_code
def yL_cell : MethodName := ⟨RL, "cell", "([II)I"⟩
abbrev cL_law : ByteArray := code
def yL_law : MethodName := ⟨RL, "law", "([I)Z"⟩
abbrev cL_isHit : ByteArray := method_5_code
def yL_isHit : MethodName := ⟨RL, "isHit", "(LPanyard;III)Z"⟩
abbrev cL_isTuned : ByteArray := method_6_code
def yL_isTuned : MethodName := ⟨RL, "isTuned", "(LPanyard;II)Z"⟩
abbrev cL_isTaught : ByteArray := method_7_code
def yL_isTaught : MethodName := ⟨RL, "isTaught", "(LPanyard;III)Z"⟩
abbrev cL_isPlayed : ByteArray := method_8_code
def yL_isPlayed : MethodName := ⟨RL, "isPlayed", "(LPanyard;)Z"⟩
abbrev cL_isPassed : ByteArray := method_9_code
def yL_isPassed : MethodName := ⟨RL, "isPassed", "(LPanyard;II)Z"⟩
abbrev cL_isSound : ByteArray := method_10_code
def yL_isSound : MethodName := ⟨RL, "isSound", "(LPanyard;)Z"⟩
