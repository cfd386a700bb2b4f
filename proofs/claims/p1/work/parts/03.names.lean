def RX0 : String := "Panyard$Arrangement"
def TX0 : u_T := fun k => match k with
  | 0 => ("Panyard$Arrangement", "phraseAt", "[I", true)
  | _ => ("Panyard$Arrangement", "count", "I", false)
def tyX0 : Nat → FieldType := fun k => match k with
  | 0 => .array .int
  | _ => .int
abbrev wsX00 : List Cond := u_ws RX0 TX0 2
theorem nmX0 : ∀ a, a < 2 → ∀ b, b < 2 → a ≠ b → (TX0 a).2.1 ≠ (TX0 b).2.1 := by decide +kernel
theorem tyX0_ok : ∀ k, k < 2 → parseFieldDescriptor (TX0 k).2.2.1 = some (tyX0 k) := by decide +kernel
abbrev cX0_init : ByteArray := prog_2_method_1_code
def yX0_init : MethodName := ⟨RX0, "<init>", "()V"⟩
abbrev cX0_copyFrom : ByteArray := prog_2_method_2_code
def yX0_copyFrom : MethodName := ⟨RX0, "copyFrom", "(LPanyard$Arrangement;)V"⟩
abbrev cX0_append : ByteArray := prog_2_method_3_code
def yX0_append : MethodName := ⟨RX0, "append", "(I)V"⟩
abbrev cX0_closeUp : ByteArray := prog_2_method_4_code
def yX0_closeUp : MethodName := ⟨RX0, "closeUp", "(I)V"⟩
abbrev cX0_placesOf : ByteArray := prog_2_method_5_code
def yX0_placesOf : MethodName := ⟨RX0, "placesOf", "(I)I"⟩
abbrev cX0_repeats : ByteArray := prog_2_method_6_code
def yX0_repeats : MethodName := ⟨RX0, "repeats", "()I"⟩
abbrev cX0_shuffle : ByteArray := prog_2_method_7_code
def yX0_shuffle : MethodName := ⟨RX0, "shuffle", "(I)V"⟩
def RX1 : String := "Panyard$Contest"
def TX1 : u_T := fun k => match k with
  | 0 => ("Panyard$Contest", "rivals", "[I", true)
  | 1 => ("Panyard$Contest", "leans", "[I", true)
  | 2 => ("Panyard$Contest", "scores", "[I", true)
  | 3 => ("Panyard$Contest", "ranks", "[I", true)
  | 4 => ("Panyard$Contest", "rivalCount", "I", false)
  | 5 => ("Panyard$Contest", "roundsPlayed", "I", false)
  | _ => ("Panyard$Contest", "lost", "Z", false)
def tyX1 : Nat → FieldType := fun k => match k with
  | 0 => .array .int
  | 1 => .array .int
  | 2 => .array .int
  | 3 => .array .int
  | 4 => .int
  | 5 => .int
  | _ => .boolean
abbrev wsX10 : List Cond := u_ws RX1 TX1 7
theorem nmX1 : ∀ a, a < 7 → ∀ b, b < 7 → a ≠ b → (TX1 a).2.1 ≠ (TX1 b).2.1 := by decide +kernel
theorem tyX1_ok : ∀ k, k < 7 → parseFieldDescriptor (TX1 k).2.2.1 = some (tyX1 k) := by decide +kernel
abbrev cX1_init : ByteArray := prog_3_method_1_code
def yX1_init : MethodName := ⟨RX1, "<init>", "()V"⟩
abbrev cX1_isOver : ByteArray := prog_3_method_2_code
def yX1_isOver : MethodName := ⟨RX1, "isOver", "()Z"⟩
abbrev cX1_scoreOf : ByteArray := prog_3_method_3_code
def yX1_scoreOf : MethodName := ⟨RX1, "scoreOf", "(I)I"⟩
abbrev cX1_enter : ByteArray := prog_3_method_4_code
def yX1_enter : MethodName := ⟨RX1, "enter", "(I)I"⟩
abbrev cX1_rankOf : ByteArray := prog_3_method_5_code
def yX1_rankOf : MethodName := ⟨RX1, "rankOf", "(II)I"⟩
abbrev cX1_prizeOf : ByteArray := prog_3_method_6_code
def yX1_prizeOf : MethodName := ⟨RX1, "prizeOf", "(II)I"⟩
def RX2 : String := "Panyard$Minds"
def TX2 : u_T := fun k => match k with
  | 0 => ("Panyard$Minds", "known", "[[I", true)
  | _ => ("Panyard$Minds", "practised", "[I", true)
def tyX2 : Nat → FieldType := fun k => match k with
  | 0 => .array (.array .int)
  | _ => .array .int
abbrev wsX20 : List Cond := u_ws RX2 TX2 2
theorem nmX2 : ∀ a, a < 2 → ∀ b, b < 2 → a ≠ b → (TX2 a).2.1 ≠ (TX2 b).2.1 := by decide +kernel
theorem tyX2_ok : ∀ k, k < 2 → parseFieldDescriptor (TX2 k).2.2.1 = some (tyX2 k) := by decide +kernel
abbrev cX2_init : ByteArray := prog_4_method_1_code
def yX2_init : MethodName := ⟨RX2, "<init>", "()V"⟩
abbrev cX2_copyFrom : ByteArray := prog_4_method_2_code
def yX2_copyFrom : MethodName := ⟨RX2, "copyFrom", "(LPanyard$Minds;)V"⟩
abbrev cX2_learn : ByteArray := prog_4_method_3_code
def yX2_learn : MethodName := ⟨RX2, "learn", "(IIII)V"⟩
abbrev cX2_halve : ByteArray := prog_4_method_4_code
def yX2_halve : MethodName := ⟨RX2, "halve", "(III)V"⟩
abbrev cX2_sleep : ByteArray := prog_4_method_5_code
def yX2_sleep : MethodName := ⟨RX2, "sleep", "([LPanyard$Phrase;I)V"⟩
def RX3 : String := "Panyard$Pan"
def TX3 : u_T := fun k => match k with
  | 0 => ("Panyard$Pan", "number", "I", true)
  | 1 => ("Panyard$Pan", "offs", "[I", true)
  | 2 => ("Panyard$Pan", "family", "I", false)
  | 3 => ("Panyard$Pan", "fatigue", "I", false)
  | _ => ("Panyard$Pan", "blows", "I", false)
def tyX3 : Nat → FieldType := fun k => match k with
  | 0 => .int
  | 1 => .array .int
  | 2 => .int
  | 3 => .int
  | _ => .int
abbrev wsX30 : List Cond := u_ws RX3 TX3 5
theorem nmX3 : ∀ a, a < 5 → ∀ b, b < 5 → a ≠ b → (TX3 a).2.1 ≠ (TX3 b).2.1 := by decide +kernel
theorem tyX3_ok : ∀ k, k < 5 → parseFieldDescriptor (TX3 k).2.2.1 = some (tyX3 k) := by decide +kernel
abbrev cX3_init : ByteArray := prog_5_method_1_code
def yX3_init : MethodName := ⟨RX3, "<init>", "(II)V"⟩
abbrev cX3_copyFrom : ByteArray := prog_5_method_2_code
def yX3_copyFrom : MethodName := ⟨RX3, "copyFrom", "(LPanyard$Pan;)V"⟩
abbrev cX3_isCracked : ByteArray := prog_5_method_3_code
def yX3_isCracked : MethodName := ⟨RX3, "isCracked", "()Z"⟩
abbrev cX3_notesInTune : ByteArray := prog_5_method_4_code
def yX3_notesInTune : MethodName := ⟨RX3, "notesInTune", "()I"⟩
abbrev cX3_grade : ByteArray := prog_5_method_5_code
def yX3_grade : MethodName := ⟨RX3, "grade", "()I"⟩
abbrev cX3_shift : ByteArray := prog_5_method_6_code
def yX3_shift : MethodName := ⟨RX3, "shift", "(II)V"⟩
abbrev cX3_strike : ByteArray := prog_5_method_7_code
def yX3_strike : MethodName := ⟨RX3, "strike", "(II)V"⟩
abbrev cX3_heat : ByteArray := prog_5_method_8_code
def yX3_heat : MethodName := ⟨RX3, "heat", "()V"⟩
abbrev cX3_warm : ByteArray := prog_5_method_9_code
def yX3_warm : MethodName := ⟨RX3, "warm", "()V"⟩
abbrev cX3_wear : ByteArray := prog_5_method_10_code
def yX3_wear : MethodName := ⟨RX3, "wear", "(II)V"⟩
abbrev cX3_needsTuner : ByteArray := prog_5_method_11_code
def yX3_needsTuner : MethodName := ⟨RX3, "needsTuner", "()Z"⟩
abbrev cX3_tuneUpTo : ByteArray := prog_5_method_12_code
def yX3_tuneUpTo : MethodName := ⟨RX3, "tuneUpTo", "(I)I"⟩
abbrev cX3_tuneOnce : ByteArray := prog_5_method_13_code
def yX3_tuneOnce : MethodName := ⟨RX3, "tuneOnce", "()V"⟩
def RX4 : String := "Panyard$Phrase"
def TX4 : u_T := fun k => match k with
  | 0 => ("Panyard$Phrase", "section", "I", true)
  | 1 => ("Panyard$Phrase", "hard", "I", false)
  | 2 => ("Panyard$Phrase", "notes", "I", false)
  | _ => ("Panyard$Phrase", "changes", "I", false)
def tyX4 : Nat → FieldType := fun k => match k with
  | 0 => .int
  | 1 => .int
  | 2 => .int
  | _ => .int
abbrev wsX40 : List Cond := u_ws RX4 TX4 4
theorem nmX4 : ∀ a, a < 4 → ∀ b, b < 4 → a ≠ b → (TX4 a).2.1 ≠ (TX4 b).2.1 := by decide +kernel
theorem tyX4_ok : ∀ k, k < 4 → parseFieldDescriptor (TX4 k).2.2.1 = some (tyX4 k) := by decide +kernel
abbrev cX4_init : ByteArray := prog_6_method_1_code
def yX4_init : MethodName := ⟨RX4, "<init>", "(III)V"⟩
abbrev cX4_tellAnew : ByteArray := prog_6_method_2_code
def yX4_tellAnew : MethodName := ⟨RX4, "tellAnew", "(II)V"⟩
abbrev cX4_noteCount : ByteArray := prog_6_method_3_code
def yX4_noteCount : MethodName := ⟨RX4, "noteCount", "()I"⟩
def RX5 : String := "Panyard$Player"
def TX5 : u_T := fun k => match k with
  | 0 => ("Panyard$Player", "section", "I", true)
  | 1 => ("Panyard$Player", "speed", "I", true)
  | 2 => ("Panyard$Player", "reach", "I", true)
  | 3 => ("Panyard$Player", "pan", "LPanyard$Pan;", false)
  | 4 => ("Panyard$Player", "away", "Z", false)
  | _ => ("Panyard$Player", "minutesTaught", "I", false)
def tyX5 : Nat → FieldType := fun k => match k with
  | 0 => .int
  | 1 => .int
  | 2 => .int
  | 3 => .object "Panyard$Pan"
  | 4 => .boolean
  | _ => .int
abbrev wsX50 : List Cond := u_ws RX5 TX5 6
theorem nmX5 : ∀ a, a < 6 → ∀ b, b < 6 → a ≠ b → (TX5 a).2.1 ≠ (TX5 b).2.1 := by decide +kernel
theorem tyX5_ok : ∀ k, k < 6 → parseFieldDescriptor (TX5 k).2.2.1 = some (tyX5 k) := by decide +kernel
abbrev cX5_init : ByteArray := prog_7_method_1_code
def yX5_init : MethodName := ⟨RX5, "<init>", "(III)V"⟩
abbrev cX5_panNumber : ByteArray := prog_7_method_2_code
def yX5_panNumber : MethodName := ⟨RX5, "panNumber", "()I"⟩
abbrev cX5_soundingPan : ByteArray := prog_7_method_3_code
def yX5_soundingPan : MethodName := ⟨RX5, "soundingPan", "()LPanyard$Pan;"⟩
abbrev cX5_mostMemory : ByteArray := prog_7_method_4_code
def yX5_mostMemory : MethodName := ⟨RX5, "mostMemory", "(LPanyard$Phrase;)I"⟩
def RX6 : String := "Panyard$Today"
def TX6 : u_T := fun k => match k with
  | 0 => ("Panyard$Today", "taught", "[I", true)
  | 1 => ("Panyard$Today", "number", "I", false)
  | 2 => ("Panyard$Today", "rehearsed", "I", false)
  | _ => ("Panyard$Today", "played", "Z", false)
def tyX6 : Nat → FieldType := fun k => match k with
  | 0 => .array .int
  | 1 => .int
  | 2 => .int
  | _ => .boolean
abbrev wsX60 : List Cond := u_ws RX6 TX6 4
theorem nmX6 : ∀ a, a < 4 → ∀ b, b < 4 → a ≠ b → (TX6 a).2.1 ≠ (TX6 b).2.1 := by decide +kernel
theorem tyX6_ok : ∀ k, k < 4 → parseFieldDescriptor (TX6 k).2.2.1 = some (tyX6 k) := by decide +kernel
abbrev cX6_init : ByteArray := prog_8_method_1_code
def yX6_init : MethodName := ⟨RX6, "<init>", "()V"⟩
abbrev cX6_turn : ByteArray := prog_8_method_2_code
def yX6_turn : MethodName := ⟨RX6, "turn", "()V"⟩
def RX7 : String := "Panyard"
def TX7 : u_T := fun k => match k with
  | 0 => ("Panyard", "pans", "[LPanyard$Pan;", true)
  | 1 => ("Panyard", "phrases", "[LPanyard$Phrase;", true)
  | 2 => ("Panyard", "players", "[LPanyard$Player;", true)
  | 3 => ("Panyard", "arrangement", "LPanyard$Arrangement;", true)
  | 4 => ("Panyard", "minds", "LPanyard$Minds;", true)
  | 5 => ("Panyard", "today", "LPanyard$Today;", true)
  | 6 => ("Panyard", "contest", "LPanyard$Contest;", true)
  | 7 => ("Panyard", "panCount", "I", false)
  | 8 => ("Panyard", "phraseCount", "I", false)
  | 9 => ("Panyard", "playerCount", "I", false)
  | 10 => ("Panyard", "money", "I", false)
  | 11 => ("Panyard", "covered", "Z", false)
  | 12 => ("Panyard", "trialPan", "LPanyard$Pan;", true)
  | 13 => ("Panyard", "trialOrder", "LPanyard$Arrangement;", true)
  | 14 => ("Panyard", "trialMinds", "LPanyard$Minds;", true)
  | _ => ("Panyard", "levels", "[I", true)
def tyX7 : Nat → FieldType := fun k => match k with
  | 0 => .array (.object "Panyard$Pan")
  | 1 => .array (.object "Panyard$Phrase")
  | 2 => .array (.object "Panyard$Player")
  | 3 => .object "Panyard$Arrangement"
  | 4 => .object "Panyard$Minds"
  | 5 => .object "Panyard$Today"
  | 6 => .object "Panyard$Contest"
  | 7 => .int
  | 8 => .int
  | 9 => .int
  | 10 => .int
  | 11 => .boolean
  | 12 => .object "Panyard$Pan"
  | 13 => .object "Panyard$Arrangement"
  | 14 => .object "Panyard$Minds"
  | _ => .array .int
abbrev wsX70 : List Cond := u_ws RX7 TX7 16
theorem nmX7 : ∀ a, a < 16 → ∀ b, b < 16 → a ≠ b → (TX7 a).2.1 ≠ (TX7 b).2.1 := by decide +kernel
theorem tyX7_ok : ∀ k, k < 16 → parseFieldDescriptor (TX7 k).2.2.1 = some (tyX7 k) := by decide +kernel
abbrev cX7_init : ByteArray := prog_1_method_1_code
def yX7_init : MethodName := ⟨RX7, "<init>", "()V"⟩
abbrev cX7_pan : ByteArray := prog_1_method_2_code
def yX7_pan : MethodName := ⟨RX7, "pan", "(I)I"⟩
abbrev cX7_blow : ByteArray := prog_1_method_3_code
def yX7_blow : MethodName := ⟨RX7, "blow", "(III)I"⟩
abbrev cX7_burn : ByteArray := prog_1_method_4_code
def yX7_burn : MethodName := ⟨RX7, "burn", "(I)I"⟩
abbrev cX7_tuner : ByteArray := prog_1_method_5_code
def yX7_tuner : MethodName := ⟨RX7, "tuner", "(II)I"⟩
abbrev cX7_cover : ByteArray := prog_1_method_6_code
def yX7_cover : MethodName := ⟨RX7, "cover", "(Z)Z"⟩
abbrev cX7_phrase : ByteArray := prog_1_method_7_code
def yX7_phrase : MethodName := ⟨RX7, "phrase", "(III)I"⟩
abbrev cX7_change : ByteArray := prog_1_method_8_code
def yX7_change : MethodName := ⟨RX7, "change", "(III)I"⟩
abbrev cX7_put : ByteArray := prog_1_method_9_code
def yX7_put : MethodName := ⟨RX7, "put", "(I)I"⟩
abbrev cX7_cut : ByteArray := prog_1_method_10_code
def yX7_cut : MethodName := ⟨RX7, "cut", "(I)I"⟩
abbrev cX7_player : ByteArray := prog_1_method_11_code
def yX7_player : MethodName := ⟨RX7, "player", "(III)I"⟩
abbrev cX7_give : ByteArray := prog_1_method_12_code
def yX7_give : MethodName := ⟨RX7, "give", "(II)I"⟩
abbrev cX7_absent : ByteArray := prog_1_method_13_code
def yX7_absent : MethodName := ⟨RX7, "absent", "(IZ)Z"⟩
abbrev cX7_teach : ByteArray := prog_1_method_14_code
def yX7_teach : MethodName := ⟨RX7, "teach", "(III)I"⟩
abbrev cX7_rehearse : ByteArray := prog_1_method_15_code
def yX7_rehearse : MethodName := ⟨RX7, "rehearse", "(I)I"⟩
abbrev cX7_pass : ByteArray := prog_1_method_16_code
def yX7_pass : MethodName := ⟨RX7, "pass", "(III)I"⟩
abbrev cX7_sponsor : ByteArray := prog_1_method_17_code
def yX7_sponsor : MethodName := ⟨RX7, "sponsor", "(I)I"⟩
abbrev cX7_rival : ByteArray := prog_1_method_18_code
def yX7_rival : MethodName := ⟨RX7, "rival", "(I)I"⟩
abbrev cX7_lean : ByteArray := prog_1_method_19_code
def yX7_lean : MethodName := ⟨RX7, "lean", "(II)I"⟩
abbrev cX7_play : ByteArray := prog_1_method_20_code
def yX7_play : MethodName := ⟨RX7, "play", "()I"⟩
abbrev cX7_ofPan : ByteArray := prog_1_method_21_code
def yX7_ofPan : MethodName := ⟨RX7, "ofPan", "(II)I"⟩
abbrev cX7_off : ByteArray := prog_1_method_22_code
def yX7_off : MethodName := ⟨RX7, "off", "(II)I"⟩
abbrev cX7_ofPhrase : ByteArray := prog_1_method_23_code
def yX7_ofPhrase : MethodName := ⟨RX7, "ofPhrase", "(II)I"⟩
abbrev cX7_ofPlayer : ByteArray := prog_1_method_24_code
def yX7_ofPlayer : MethodName := ⟨RX7, "ofPlayer", "(II)I"⟩
abbrev cX7_memory : ByteArray := prog_1_method_25_code
def yX7_memory : MethodName := ⟨RX7, "memory", "(II)I"⟩
abbrev cX7_ofPlace : ByteArray := prog_1_method_26_code
def yX7_ofPlace : MethodName := ⟨RX7, "ofPlace", "(II)I"⟩
abbrev cX7_mark : ByteArray := prog_1_method_27_code
def yX7_mark : MethodName := ⟨RX7, "mark", "(I)I"⟩
abbrev cX7_ofRound : ByteArray := prog_1_method_28_code
def yX7_ofRound : MethodName := ⟨RX7, "ofRound", "(II)I"⟩
abbrev cX7_many : ByteArray := prog_1_method_29_code
def yX7_many : MethodName := ⟨RX7, "many", "(I)I"⟩
abbrev cX7_meanMemory : ByteArray := prog_1_method_30_code
def yX7_meanMemory : MethodName := ⟨RX7, "meanMemory", "()D"⟩
abbrev cX7_wouldTotal : ByteArray := prog_1_method_31_code
def yX7_wouldTotal : MethodName := ⟨RX7, "wouldTotal", "(I)I"⟩
abbrev cX7_bestOrder : ByteArray := prog_1_method_32_code
def yX7_bestOrder : MethodName := ⟨RX7, "bestOrder", "()I"⟩
abbrev cX7_bestTeach : ByteArray := prog_1_method_33_code
def yX7_bestTeach : MethodName := ⟨RX7, "bestTeach", "(II)I"⟩
abbrev cX7_blowsFor : ByteArray := prog_1_method_34_code
def yX7_blowsFor : MethodName := ⟨RX7, "blowsFor", "(I)I"⟩
abbrev cX7_digest : ByteArray := prog_1_method_35_code
def yX7_digest : MethodName := ⟨RX7, "digest", "()J"⟩
abbrev cX7_digestPans : ByteArray := prog_1_method_36_code
def yX7_digestPans : MethodName := ⟨RX7, "digestPans", "(J)J"⟩
abbrev cX7_digestPhrases : ByteArray := prog_1_method_37_code
def yX7_digestPhrases : MethodName := ⟨RX7, "digestPhrases", "(J)J"⟩
abbrev cX7_digestPlayers : ByteArray := prog_1_method_38_code
def yX7_digestPlayers : MethodName := ⟨RX7, "digestPlayers", "(J)J"⟩
abbrev cX7_digestPlacesAndMarks : ByteArray := prog_1_method_39_code
def yX7_digestPlacesAndMarks : MethodName := ⟨RX7, "digestPlacesAndMarks", "(J)J"⟩
abbrev cX7_isWithin : ByteArray := prog_1_method_40_code
def yX7_isWithin : MethodName := ⟨RX7, "isWithin", "(III)Z"⟩
abbrev cX7_held : ByteArray := prog_1_method_41_code
def yX7_held : MethodName := ⟨RX7, "held", "(III)I"⟩
abbrev cX7_requireSection : ByteArray := prog_1_method_42_code
def yX7_requireSection : MethodName := ⟨RX7, "requireSection", "(I)V"⟩
abbrev cX7_requireNote : ByteArray := prog_1_method_43_code
def yX7_requireNote : MethodName := ⟨RX7, "requireNote", "(I)V"⟩
abbrev cX7_requirePhraseWords : ByteArray := prog_1_method_44_code
def yX7_requirePhraseWords : MethodName := ⟨RX7, "requirePhraseWords", "(II)V"⟩
abbrev cX7_requireLesson : ByteArray := prog_1_method_45_code
def yX7_requireLesson : MethodName := ⟨RX7, "requireLesson", "(I)V"⟩
abbrev cX7_requirePan : ByteArray := prog_1_method_46_code
def yX7_requirePan : MethodName := ⟨RX7, "requirePan", "(I)V"⟩
abbrev cX7_requireWhole : ByteArray := prog_1_method_47_code
def yX7_requireWhole : MethodName := ⟨RX7, "requireWhole", "(I)V"⟩
abbrev cX7_requirePhrase : ByteArray := prog_1_method_48_code
def yX7_requirePhrase : MethodName := ⟨RX7, "requirePhrase", "(I)V"⟩
abbrev cX7_requirePlayer : ByteArray := prog_1_method_49_code
def yX7_requirePlayer : MethodName := ⟨RX7, "requirePlayer", "(I)V"⟩
abbrev cX7_requirePlace : ByteArray := prog_1_method_50_code
def yX7_requirePlace : MethodName := ⟨RX7, "requirePlace", "(I)V"⟩
abbrev cX7_giveLesson : ByteArray := prog_1_method_51_code
def yX7_giveLesson : MethodName := ⟨RX7, "giveLesson", "(LPanyard$Minds;III)V"⟩
abbrev cX7_rehearsePlaces : ByteArray := prog_1_method_52_code
def yX7_rehearsePlaces : MethodName := ⟨RX7, "rehearsePlaces", "(ILPanyard$Pan;I)V"⟩
abbrev cX7_weather : ByteArray := prog_1_method_53_code
def yX7_weather : MethodName := ⟨RX7, "weather", "(II)V"⟩
abbrev cX7_soundingCount : ByteArray := prog_1_method_54_code
def yX7_soundingCount : MethodName := ⟨RX7, "soundingCount", "()I"⟩
abbrev cX7_blowsEver : ByteArray := prog_1_method_55_code
def yX7_blowsEver : MethodName := ⟨RX7, "blowsEver", "()I"⟩
abbrev cX7_weigh : ByteArray := prog_1_method_56_code
def yX7_weigh : MethodName := ⟨RX7, "weigh", "(LPanyard$Minds;)V"⟩
abbrev cX7_levelOf : ByteArray := prog_1_method_57_code
def yX7_levelOf : MethodName := ⟨RX7, "levelOf", "(ILPanyard$Minds;)I"⟩
abbrev cX7_soundAt : ByteArray := prog_1_method_58_code
def yX7_soundAt : MethodName := ⟨RX7, "soundAt", "(LPanyard$Arrangement;I)I"⟩
abbrev cX7_meanSound : ByteArray := prog_1_method_59_code
def yX7_meanSound : MethodName := ⟨RX7, "meanSound", "(LPanyard$Arrangement;)I"⟩
abbrev cX7_leastSound : ByteArray := prog_1_method_60_code
def yX7_leastSound : MethodName := ⟨RX7, "leastSound", "(LPanyard$Arrangement;)I"⟩
abbrev cX7_tone : ByteArray := prog_1_method_61_code
def yX7_tone : MethodName := ⟨RX7, "tone", "()I"⟩
abbrev cX7_variety : ByteArray := prog_1_method_62_code
def yX7_variety : MethodName := ⟨RX7, "variety", "(LPanyard$Arrangement;)I"⟩
abbrev cX7_heard : ByteArray := prog_1_method_63_code
def yX7_heard : MethodName := ⟨RX7, "heard", "(LPanyard$Arrangement;)I"⟩
abbrev cX7_totalNow : ByteArray := prog_1_method_64_code
def yX7_totalNow : MethodName := ⟨RX7, "totalNow", "()I"⟩
abbrev cX7_heardIfTaught : ByteArray := prog_1_method_65_code
def yX7_heardIfTaught : MethodName := ⟨RX7, "heardIfTaught", "(III)I"⟩
def RX8 : String := "PanyardModel$Pan"
def TX8 : u_T := fun k => match k with
  | 0 => ("PanyardModel$Pan", "family", "I", true)
  | 1 => ("PanyardModel$Pan", "off", "[I", true)
  | 2 => ("PanyardModel$Pan", "fatigue", "I", false)
  | 3 => ("PanyardModel$Pan", "isCracked", "Z", false)
  | _ => ("PanyardModel$Pan", "blows", "I", false)
def tyX8 : Nat → FieldType := fun k => match k with
  | 0 => .int
  | 1 => .array .int
  | 2 => .int
  | 3 => .boolean
  | _ => .int
abbrev wsX80 : List Cond := u_ws RX8 TX8 5
theorem nmX8 : ∀ a, a < 5 → ∀ b, b < 5 → a ≠ b → (TX8 a).2.1 ≠ (TX8 b).2.1 := by decide +kernel
theorem tyX8_ok : ∀ k, k < 5 → parseFieldDescriptor (TX8 k).2.2.1 = some (tyX8 k) := by decide +kernel
abbrev cX8_init : ByteArray := prog_11_method_1_code
def yX8_init : MethodName := ⟨RX8, "<init>", "(II)V"⟩
abbrev cX8_init_ : ByteArray := prog_11_method_2_code
def yX8_init_ : MethodName := ⟨RX8, "<init>", "(LPanyardModel$Pan;)V"⟩
abbrev cX8_copy : ByteArray := prog_11_method_3_code
def yX8_copy : MethodName := ⟨RX8, "copy", "()LPanyardModel$Pan;"⟩
abbrev cX8_shift : ByteArray := prog_11_method_4_code
def yX8_shift : MethodName := ⟨RX8, "shift", "(II)V"⟩
abbrev cX8_tire : ByteArray := prog_11_method_5_code
def yX8_tire : MethodName := ⟨RX8, "tire", "(I)V"⟩
abbrev cX8_blow : ByteArray := prog_11_method_6_code
def yX8_blow : MethodName := ⟨RX8, "blow", "(II)V"⟩
abbrev cX8_burn : ByteArray := prog_11_method_7_code
def yX8_burn : MethodName := ⟨RX8, "burn", "()V"⟩
abbrev cX8_isInTune : ByteArray := prog_11_method_8_code
def yX8_isInTune : MethodName := ⟨RX8, "isInTune", "(I)Z"⟩
abbrev cX8_inTune : ByteArray := prog_11_method_9_code
def yX8_inTune : MethodName := ⟨RX8, "inTune", "(I)I"⟩
abbrev cX8_grade : ByteArray := prog_11_method_10_code
def yX8_grade : MethodName := ⟨RX8, "grade", "()I"⟩
abbrev cX8_tune : ByteArray := prog_11_method_11_code
def yX8_tune : MethodName := ⟨RX8, "tune", "(I)I"⟩
def RX9 : String := "PanyardModel$Phrase"
def TX9 : u_T := fun k => match k with
  | 0 => ("PanyardModel$Phrase", "section", "I", true)
  | 1 => ("PanyardModel$Phrase", "hard", "I", false)
  | 2 => ("PanyardModel$Phrase", "notes", "I", false)
  | _ => ("PanyardModel$Phrase", "changed", "I", false)
def tyX9 : Nat → FieldType := fun k => match k with
  | 0 => .int
  | 1 => .int
  | 2 => .int
  | _ => .int
abbrev wsX90 : List Cond := u_ws RX9 TX9 4
theorem nmX9 : ∀ a, a < 4 → ∀ b, b < 4 → a ≠ b → (TX9 a).2.1 ≠ (TX9 b).2.1 := by decide +kernel
theorem tyX9_ok : ∀ k, k < 4 → parseFieldDescriptor (TX9 k).2.2.1 = some (tyX9 k) := by decide +kernel
abbrev cX9_init : ByteArray := prog_12_method_1_code
def yX9_init : MethodName := ⟨RX9, "<init>", "(III)V"⟩
abbrev cX9_many : ByteArray := prog_12_method_2_code
def yX9_many : MethodName := ⟨RX9, "many", "()I"⟩
def RX10 : String := "PanyardModel$Player"
def TX10 : u_T := fun k => match k with
  | 0 => ("PanyardModel$Player", "section", "I", true)
  | 1 => ("PanyardModel$Player", "speed", "I", true)
  | 2 => ("PanyardModel$Player", "reach", "I", true)
  | 3 => ("PanyardModel$Player", "pan", "I", false)
  | 4 => ("PanyardModel$Player", "isAbsent", "Z", false)
  | 5 => ("PanyardModel$Player", "taught", "I", false)
  | 6 => ("PanyardModel$Player", "memory", "[I", true)
  | _ => ("PanyardModel$Player", "isFresh", "[Z", true)
def tyX10 : Nat → FieldType := fun k => match k with
  | 0 => .int
  | 1 => .int
  | 2 => .int
  | 3 => .int
  | 4 => .boolean
  | 5 => .int
  | 6 => .array .int
  | _ => .array .boolean
abbrev wsX100 : List Cond := u_ws RX10 TX10 8
theorem nmX10 : ∀ a, a < 8 → ∀ b, b < 8 → a ≠ b → (TX10 a).2.1 ≠ (TX10 b).2.1 := by decide +kernel
theorem tyX10_ok : ∀ k, k < 8 → parseFieldDescriptor (TX10 k).2.2.1 = some (tyX10 k) := by decide +kernel
abbrev cX10_init : ByteArray := prog_13_method_1_code
def yX10_init : MethodName := ⟨RX10, "<init>", "(III)V"⟩
abbrev cX10_most : ByteArray := prog_13_method_2_code
def yX10_most : MethodName := ⟨RX10, "most", "(LPanyardModel$Phrase;)I"⟩
def RX11 : String := "PanyardModel"
def TX11 : u_T := fun k => match k with
  | 0 => ("PanyardModel", "thrown", "I", false)
  | 1 => ("PanyardModel", "pans", "Ljava/util/ArrayList;", true)
  | 2 => ("PanyardModel", "phrases", "Ljava/util/ArrayList;", true)
  | 3 => ("PanyardModel", "places", "Ljava/util/ArrayList;", true)
  | 4 => ("PanyardModel", "players", "Ljava/util/ArrayList;", true)
  | 5 => ("PanyardModel", "rivals", "Ljava/util/ArrayList;", true)
  | 6 => ("PanyardModel", "teaches", "[I", true)
  | 7 => ("PanyardModel", "leans", "[I", true)
  | 8 => ("PanyardModel", "rounds", "[[I", true)
  | 9 => ("PanyardModel", "isCovered", "Z", false)
  | 10 => ("PanyardModel", "rehearsed", "I", false)
  | 11 => ("PanyardModel", "day", "I", false)
  | 12 => ("PanyardModel", "money", "I", false)
  | 13 => ("PanyardModel", "played", "I", false)
  | 14 => ("PanyardModel", "playedOn", "I", false)
  | _ => ("PanyardModel", "isOver", "Z", false)
def tyX11 : Nat → FieldType := fun k => match k with
  | 0 => .int
  | 1 => .object "java/util/ArrayList"
  | 2 => .object "java/util/ArrayList"
  | 3 => .object "java/util/ArrayList"
  | 4 => .object "java/util/ArrayList"
  | 5 => .object "java/util/ArrayList"
  | 6 => .array .int
  | 7 => .array .int
  | 8 => .array (.array .int)
  | 9 => .boolean
  | 10 => .int
  | 11 => .int
  | 12 => .int
  | 13 => .int
  | 14 => .int
  | _ => .boolean
abbrev wsX110 : List Cond := u_ws RX11 TX11 16
theorem nmX11 : ∀ a, a < 16 → ∀ b, b < 16 → a ≠ b → (TX11 a).2.1 ≠ (TX11 b).2.1 := by decide +kernel
theorem tyX11_ok : ∀ k, k < 16 → parseFieldDescriptor (TX11 k).2.2.1 = some (tyX11 k) := by decide +kernel
abbrev cX11_isIn : ByteArray := prog_10_method_1_code
def yX11_isIn : MethodName := ⟨RX11, "isIn", "(III)Z"⟩
abbrev cX11_held : ByteArray := prog_10_method_2_code
def yX11_held : MethodName := ⟨RX11, "held", "(III)I"⟩
abbrev cX11_has : ByteArray := prog_10_method_3_code
def yX11_has : MethodName := ⟨RX11, "has", "(II)Z"⟩
abbrev cX11_init : ByteArray := prog_10_method_4_code
def yX11_init : MethodName := ⟨RX11, "<init>", "()V"⟩
abbrev cX11_thrown : ByteArray := prog_10_method_5_code
def yX11_thrown : MethodName := ⟨RX11, "thrown", "()I"⟩
abbrev cX11_refuse : ByteArray := prog_10_method_6_code
def yX11_refuse : MethodName := ⟨RX11, "refuse", "(ZI)Z"⟩
abbrev cX11_start : ByteArray := prog_10_method_7_code
def yX11_start : MethodName := ⟨RX11, "start", "(ZI)Z"⟩
abbrev cX11_isNoFamily : ByteArray := prog_10_method_8_code
def yX11_isNoFamily : MethodName := ⟨RX11, "isNoFamily", "(I)Z"⟩
abbrev cX11_isNoPan : ByteArray := prog_10_method_9_code
def yX11_isNoPan : MethodName := ⟨RX11, "isNoPan", "(I)Z"⟩
abbrev cX11_isNoPhrase : ByteArray := prog_10_method_10_code
def yX11_isNoPhrase : MethodName := ⟨RX11, "isNoPhrase", "(I)Z"⟩
abbrev cX11_isNoPlayer : ByteArray := prog_10_method_11_code
def yX11_isNoPlayer : MethodName := ⟨RX11, "isNoPlayer", "(I)Z"⟩
abbrev cX11_pan : ByteArray := prog_10_method_12_code
def yX11_pan : MethodName := ⟨RX11, "pan", "(I)I"⟩
abbrev cX11_blow : ByteArray := prog_10_method_13_code
def yX11_blow : MethodName := ⟨RX11, "blow", "(III)I"⟩
abbrev cX11_burn : ByteArray := prog_10_method_14_code
def yX11_burn : MethodName := ⟨RX11, "burn", "(I)I"⟩
abbrev cX11_tuner : ByteArray := prog_10_method_15_code
def yX11_tuner : MethodName := ⟨RX11, "tuner", "(II)I"⟩
abbrev cX11_cover : ByteArray := prog_10_method_16_code
def yX11_cover : MethodName := ⟨RX11, "cover", "(Z)Z"⟩
abbrev cX11_isNoTold : ByteArray := prog_10_method_17_code
def yX11_isNoTold : MethodName := ⟨RX11, "isNoTold", "(II)Z"⟩
abbrev cX11_phrase : ByteArray := prog_10_method_18_code
def yX11_phrase : MethodName := ⟨RX11, "phrase", "(III)I"⟩
abbrev cX11_change : ByteArray := prog_10_method_19_code
def yX11_change : MethodName := ⟨RX11, "change", "(III)I"⟩
abbrev cX11_put : ByteArray := prog_10_method_20_code
def yX11_put : MethodName := ⟨RX11, "put", "(I)I"⟩
abbrev cX11_cut : ByteArray := prog_10_method_21_code
def yX11_cut : MethodName := ⟨RX11, "cut", "(I)I"⟩
abbrev cX11_player : ByteArray := prog_10_method_22_code
def yX11_player : MethodName := ⟨RX11, "player", "(III)I"⟩
abbrev cX11_give : ByteArray := prog_10_method_23_code
def yX11_give : MethodName := ⟨RX11, "give", "(II)I"⟩
abbrev cX11_absent : ByteArray := prog_10_method_24_code
def yX11_absent : MethodName := ⟨RX11, "absent", "(IZ)Z"⟩
abbrev cX11_taught : ByteArray := prog_10_method_25_code
def yX11_taught : MethodName := ⟨RX11, "taught", "(LPanyardModel$Player;II)I"⟩
abbrev cX11_teach : ByteArray := prog_10_method_26_code
def yX11_teach : MethodName := ⟨RX11, "teach", "(III)I"⟩
abbrev cX11_sounds : ByteArray := prog_10_method_27_code
def yX11_sounds : MethodName := ⟨RX11, "sounds", "(LPanyardModel$Player;)Z"⟩
abbrev cX11_sounding : ByteArray := prog_10_method_28_code
def yX11_sounding : MethodName := ⟨RX11, "sounding", "()I"⟩
abbrev cX11_rehearse : ByteArray := prog_10_method_29_code
def yX11_rehearse : MethodName := ⟨RX11, "rehearse", "(LPanyardModel$Player;II)V"⟩
abbrev cX11_rehearse_ : ByteArray := prog_10_method_30_code
def yX11_rehearse_ : MethodName := ⟨RX11, "rehearse", "(I)I"⟩
abbrev cX11_fades : ByteArray := prog_10_method_31_code
def yX11_fades : MethodName := ⟨RX11, "fades", "(I)I"⟩
abbrev cX11_forget : ByteArray := prog_10_method_32_code
def yX11_forget : MethodName := ⟨RX11, "forget", "()V"⟩
abbrev cX11_weather : ByteArray := prog_10_method_33_code
def yX11_weather : MethodName := ⟨RX11, "weather", "(II)V"⟩
abbrev cX11_pass : ByteArray := prog_10_method_34_code
def yX11_pass : MethodName := ⟨RX11, "pass", "(III)I"⟩
abbrev cX11_sponsor : ByteArray := prog_10_method_35_code
def yX11_sponsor : MethodName := ⟨RX11, "sponsor", "(I)I"⟩
abbrev cX11_rival : ByteArray := prog_10_method_36_code
def yX11_rival : MethodName := ⟨RX11, "rival", "(I)I"⟩
abbrev cX11_lean : ByteArray := prog_10_method_37_code
def yX11_lean : MethodName := ⟨RX11, "lean", "(II)I"⟩
abbrev cX11_sound : ByteArray := prog_10_method_38_code
def yX11_sound : MethodName := ⟨RX11, "sound", "(II)I"⟩
abbrev cX11_tone : ByteArray := prog_10_method_39_code
def yX11_tone : MethodName := ⟨RX11, "tone", "()I"⟩
abbrev cX11_arrangement : ByteArray := prog_10_method_40_code
def yX11_arrangement : MethodName := ⟨RX11, "arrangement", "([I)I"⟩
abbrev cX11_mark : ByteArray := prog_10_method_41_code
def yX11_mark : MethodName := ⟨RX11, "mark", "(I[I)I"⟩
abbrev cX11_total : ByteArray := prog_10_method_42_code
def yX11_total : MethodName := ⟨RX11, "total", "([I)I"⟩
abbrev cX11_row : ByteArray := prog_10_method_43_code
def yX11_row : MethodName := ⟨RX11, "row", "()[I"⟩
abbrev cX11_score : ByteArray := prog_10_method_44_code
def yX11_score : MethodName := ⟨RX11, "score", "()I"⟩
abbrev cX11_play : ByteArray := prog_10_method_45_code
def yX11_play : MethodName := ⟨RX11, "play", "()I"⟩
abbrev cX11_ofPanNow : ByteArray := prog_10_method_46_code
def yX11_ofPanNow : MethodName := ⟨RX11, "ofPanNow", "(II)I"⟩
abbrev cX11_ofPan : ByteArray := prog_10_method_47_code
def yX11_ofPan : MethodName := ⟨RX11, "ofPan", "(II)I"⟩
abbrev cX11_off : ByteArray := prog_10_method_48_code
def yX11_off : MethodName := ⟨RX11, "off", "(II)I"⟩
abbrev cX11_ofPhraseNow : ByteArray := prog_10_method_49_code
def yX11_ofPhraseNow : MethodName := ⟨RX11, "ofPhraseNow", "(II)I"⟩
abbrev cX11_ofPhrase : ByteArray := prog_10_method_50_code
def yX11_ofPhrase : MethodName := ⟨RX11, "ofPhrase", "(II)I"⟩
abbrev cX11_ofPlayerNow : ByteArray := prog_10_method_51_code
def yX11_ofPlayerNow : MethodName := ⟨RX11, "ofPlayerNow", "(II)I"⟩
abbrev cX11_ofPlayer : ByteArray := prog_10_method_52_code
def yX11_ofPlayer : MethodName := ⟨RX11, "ofPlayer", "(II)I"⟩
abbrev cX11_memory : ByteArray := prog_10_method_53_code
def yX11_memory : MethodName := ⟨RX11, "memory", "(II)I"⟩
abbrev cX11_ofPlace : ByteArray := prog_10_method_54_code
def yX11_ofPlace : MethodName := ⟨RX11, "ofPlace", "(II)I"⟩
abbrev cX11_mark_ : ByteArray := prog_10_method_55_code
def yX11_mark_ : MethodName := ⟨RX11, "mark", "(I)I"⟩
abbrev cX11_ofRound : ByteArray := prog_10_method_56_code
def yX11_ofRound : MethodName := ⟨RX11, "ofRound", "(II)I"⟩
abbrev cX11_allBlows : ByteArray := prog_10_method_57_code
def yX11_allBlows : MethodName := ⟨RX11, "allBlows", "()I"⟩
abbrev cX11_manyNow : ByteArray := prog_10_method_58_code
def yX11_manyNow : MethodName := ⟨RX11, "manyNow", "(I)I"⟩
abbrev cX11_many : ByteArray := prog_10_method_59_code
def yX11_many : MethodName := ⟨RX11, "many", "(I)I"⟩
abbrev cX11_meanMemory : ByteArray := prog_10_method_60_code
def yX11_meanMemory : MethodName := ⟨RX11, "meanMemory", "()D"⟩
abbrev cX11_wouldTotalNow : ByteArray := prog_10_method_61_code
def yX11_wouldTotalNow : MethodName := ⟨RX11, "wouldTotalNow", "(I)I"⟩
abbrev cX11_wouldTotal : ByteArray := prog_10_method_62_code
def yX11_wouldTotal : MethodName := ⟨RX11, "wouldTotal", "(I)I"⟩
abbrev cX11_best : ByteArray := prog_10_method_63_code
def yX11_best : MethodName := ⟨RX11, "best", "([II)I"⟩
abbrev cX11_exchange : ByteArray := prog_10_method_64_code
def yX11_exchange : MethodName := ⟨RX11, "exchange", "([III)V"⟩
abbrev cX11_bestOrder : ByteArray := prog_10_method_65_code
def yX11_bestOrder : MethodName := ⟨RX11, "bestOrder", "()I"⟩
abbrev cX11_bestTeachNow : ByteArray := prog_10_method_66_code
def yX11_bestTeachNow : MethodName := ⟨RX11, "bestTeachNow", "(II)I"⟩
abbrev cX11_bestTeach : ByteArray := prog_10_method_67_code
def yX11_bestTeach : MethodName := ⟨RX11, "bestTeach", "(II)I"⟩
abbrev cX11_blowsForNow : ByteArray := prog_10_method_68_code
def yX11_blowsForNow : MethodName := ⟨RX11, "blowsForNow", "(I)I"⟩
abbrev cX11_blowsFor : ByteArray := prog_10_method_69_code
def yX11_blowsFor : MethodName := ⟨RX11, "blowsFor", "(I)I"⟩
abbrev cX11_add : ByteArray := prog_10_method_70_code
def yX11_add : MethodName := ⟨RX11, "add", "(JJ)J"⟩
abbrev cX11_digest : ByteArray := prog_10_method_71_code
def yX11_digest : MethodName := ⟨RX11, "digest", "()J"⟩
def RJx145de : String := "java/io/Serializable"
def TJx145de : u_T := fun k => match k with
  | _ => ("", "", "", false)
def tyJx145de : Nat → FieldType := fun k => match k with
  | _ => .int
abbrev wsJx145de0 : List Cond := u_ws RJx145de TJx145de 0
theorem nmJx145de : ∀ a, a < 0 → ∀ b, b < 0 → a ≠ b → (TJx145de a).2.1 ≠ (TJx145de b).2.1 := by decide +kernel
theorem tyJx145de_ok : ∀ k, k < 0 → parseFieldDescriptor (TJx145de k).2.2.1 = some (tyJx145de k) := by decide +kernel
def RJx8e188 : String := "java/lang/Cloneable"
def TJx8e188 : u_T := fun k => match k with
  | _ => ("", "", "", false)
def tyJx8e188 : Nat → FieldType := fun k => match k with
  | _ => .int
abbrev wsJx8e1880 : List Cond := u_ws RJx8e188 TJx8e188 0
theorem nmJx8e188 : ∀ a, a < 0 → ∀ b, b < 0 → a ≠ b → (TJx8e188 a).2.1 ≠ (TJx8e188 b).2.1 := by decide +kernel
theorem tyJx8e188_ok : ∀ k, k < 0 → parseFieldDescriptor (TJx8e188 k).2.2.1 = some (tyJx8e188 k) := by decide +kernel
def RJxb160c : String := "java/lang/Comparable"
def TJxb160c : u_T := fun k => match k with
  | _ => ("", "", "", false)
def tyJxb160c : Nat → FieldType := fun k => match k with
  | _ => .int
abbrev wsJxb160c0 : List Cond := u_ws RJxb160c TJxb160c 0
theorem nmJxb160c : ∀ a, a < 0 → ∀ b, b < 0 → a ≠ b → (TJxb160c a).2.1 ≠ (TJxb160c b).2.1 := by decide +kernel
theorem tyJxb160c_ok : ∀ k, k < 0 → parseFieldDescriptor (TJxb160c k).2.2.1 = some (tyJxb160c k) := by decide +kernel
def RJxabbfe : String := "java/lang/Integer$IntegerCache"
def TJxabbfe : u_T := fun k => match k with
  | _ => ("", "", "", false)
def tyJxabbfe : Nat → FieldType := fun k => match k with
  | _ => .int
abbrev wsJxabbfe0 : List Cond := u_ws RJxabbfe TJxabbfe 0
theorem nmJxabbfe : ∀ a, a < 0 → ∀ b, b < 0 → a ≠ b → (TJxabbfe a).2.1 ≠ (TJxabbfe b).2.1 := by decide +kernel
theorem tyJxabbfe_ok : ∀ k, k < 0 → parseFieldDescriptor (TJxabbfe k).2.2.1 = some (tyJxabbfe k) := by decide +kernel
def RJ6 : String := "java/lang/Integer"
def TJ6 : u_T := fun k => match k with
  | _ => ("java/lang/Integer", "value", "I", true)
def tyJ6 : Nat → FieldType := fun k => match k with
  | _ => .int
abbrev wsJ60 : List Cond := u_ws RJ6 TJ6 1
theorem nmJ6 : ∀ a, a < 1 → ∀ b, b < 1 → a ≠ b → (TJ6 a).2.1 ≠ (TJ6 b).2.1 := by decide +kernel
theorem tyJ6_ok : ∀ k, k < 1 → parseFieldDescriptor (TJ6 k).2.2.1 = some (tyJ6 k) := by decide +kernel
abbrev cJ6_valueOf_2dffe : ByteArray := prog_21_method_22_code
def yJ6_valueOf_2dffe : MethodName := ⟨RJ6, "valueOf", "(I)Ljava/lang/Integer;"⟩
abbrev cJ6_init_d00df : ByteArray := prog_21_method_23_code
def yJ6_init_d00df : MethodName := ⟨RJ6, "<init>", "(I)V"⟩
abbrev cJ6_intValue_8abf5 : ByteArray := prog_21_method_27_code
def yJ6_intValue_8abf5 : MethodName := ⟨RJ6, "intValue", "()I"⟩
abbrev cJ6_bitCount_0f7a4 : ByteArray := prog_21_method_49_code
def yJ6_bitCount_0f7a4 : MethodName := ⟨RJ6, "bitCount", "(I)I"⟩
def RJxab1ab : String := "java/lang/Iterable"
def TJxab1ab : u_T := fun k => match k with
  | _ => ("", "", "", false)
def tyJxab1ab : Nat → FieldType := fun k => match k with
  | _ => .int
abbrev wsJxab1ab0 : List Cond := u_ws RJxab1ab TJxab1ab 0
theorem nmJxab1ab : ∀ a, a < 0 → ∀ b, b < 0 → a ≠ b → (TJxab1ab a).2.1 ≠ (TJxab1ab b).2.1 := by decide +kernel
theorem tyJxab1ab_ok : ∀ k, k < 0 → parseFieldDescriptor (TJxab1ab k).2.2.1 = some (tyJxab1ab k) := by decide +kernel
def RJ9 : String := "java/lang/Math"
def TJ9 : u_T := fun k => match k with
  | _ => ("", "", "", false)
def tyJ9 : Nat → FieldType := fun k => match k with
  | _ => .int
abbrev wsJ90 : List Cond := u_ws RJ9 TJ9 0
theorem nmJ9 : ∀ a, a < 0 → ∀ b, b < 0 → a ≠ b → (TJ9 a).2.1 ≠ (TJ9 b).2.1 := by decide +kernel
theorem tyJ9_ok : ∀ k, k < 0 → parseFieldDescriptor (TJ9 k).2.2.1 = some (tyJ9 k) := by decide +kernel
abbrev cJ9_abs_0f7a4 : ByteArray := prog_24_method_59_code
def yJ9_abs_0f7a4 : MethodName := ⟨RJ9, "abs", "(I)I"⟩
abbrev cJ9_max_7cf53 : ByteArray := prog_24_method_65_code
def yJ9_max_7cf53 : MethodName := ⟨RJ9, "max", "(II)I"⟩
abbrev cJ9_min_7cf53 : ByteArray := prog_24_method_69_code
def yJ9_min_7cf53 : MethodName := ⟨RJ9, "min", "(II)I"⟩
def RJxd2413 : String := "java/lang/Number"
def TJxd2413 : u_T := fun k => match k with
  | _ => ("", "", "", false)
def tyJxd2413 : Nat → FieldType := fun k => match k with
  | _ => .int
abbrev wsJxd24130 : List Cond := u_ws RJxd2413 TJxd2413 0
theorem nmJxd2413 : ∀ a, a < 0 → ∀ b, b < 0 → a ≠ b → (TJxd2413 a).2.1 ≠ (TJxd2413 b).2.1 := by decide +kernel
theorem tyJxd2413_ok : ∀ k, k < 0 → parseFieldDescriptor (TJxd2413 k).2.2.1 = some (tyJxd2413 k) := by decide +kernel
abbrev cJxd2413_init_da8c8 : ByteArray := prog_25_method_1_code
def yJxd2413_init_da8c8 : MethodName := ⟨RJxd2413, "<init>", "()V"⟩
def RJ0 : String := "java/lang/String"
def TJ0 : u_T := fun k => match k with
  | _ => ("", "", "", false)
def tyJ0 : Nat → FieldType := fun k => match k with
  | _ => .int
abbrev wsJ00 : List Cond := u_ws RJ0 TJ0 0
theorem nmJ0 : ∀ a, a < 0 → ∀ b, b < 0 → a ≠ b → (TJ0 a).2.1 ≠ (TJ0 b).2.1 := by decide +kernel
theorem tyJ0_ok : ∀ k, k < 0 → parseFieldDescriptor (TJ0 k).2.2.1 = some (tyJ0 k) := by decide +kernel
def RJ10 : String := "java/lang/System"
def TJ10 : u_T := fun k => match k with
  | _ => ("", "", "", false)
def tyJ10 : Nat → FieldType := fun k => match k with
  | _ => .int
abbrev wsJ100 : List Cond := u_ws RJ10 TJ10 0
theorem nmJ10 : ∀ a, a < 0 → ∀ b, b < 0 → a ≠ b → (TJ10 a).2.1 ≠ (TJ10 b).2.1 := by decide +kernel
theorem tyJ10_ok : ∀ k, k < 0 → parseFieldDescriptor (TJ10 k).2.2.1 = some (tyJ10 k) := by decide +kernel
def RJxfd54e : String := "java/lang/constant/Constable"
def TJxfd54e : u_T := fun k => match k with
  | _ => ("", "", "", false)
def tyJxfd54e : Nat → FieldType := fun k => match k with
  | _ => .int
abbrev wsJxfd54e0 : List Cond := u_ws RJxfd54e TJxfd54e 0
theorem nmJxfd54e : ∀ a, a < 0 → ∀ b, b < 0 → a ≠ b → (TJxfd54e a).2.1 ≠ (TJxfd54e b).2.1 := by decide +kernel
theorem tyJxfd54e_ok : ∀ k, k < 0 → parseFieldDescriptor (TJxfd54e k).2.2.1 = some (tyJxfd54e k) := by decide +kernel
def RJx3cf43 : String := "java/lang/constant/ConstantDesc"
def TJx3cf43 : u_T := fun k => match k with
  | _ => ("", "", "", false)
def tyJx3cf43 : Nat → FieldType := fun k => match k with
  | _ => .int
abbrev wsJx3cf430 : List Cond := u_ws RJx3cf43 TJx3cf43 0
theorem nmJx3cf43 : ∀ a, a < 0 → ∀ b, b < 0 → a ≠ b → (TJx3cf43 a).2.1 ≠ (TJx3cf43 b).2.1 := by decide +kernel
theorem tyJx3cf43_ok : ∀ k, k < 0 → parseFieldDescriptor (TJx3cf43 k).2.2.1 = some (tyJx3cf43 k) := by decide +kernel
def RJxa1e45 : String := "java/util/AbstractCollection"
def TJxa1e45 : u_T := fun k => match k with
  | _ => ("", "", "", false)
def tyJxa1e45 : Nat → FieldType := fun k => match k with
  | _ => .int
abbrev wsJxa1e450 : List Cond := u_ws RJxa1e45 TJxa1e45 0
theorem nmJxa1e45 : ∀ a, a < 0 → ∀ b, b < 0 → a ≠ b → (TJxa1e45 a).2.1 ≠ (TJxa1e45 b).2.1 := by decide +kernel
theorem tyJxa1e45_ok : ∀ k, k < 0 → parseFieldDescriptor (TJxa1e45 k).2.2.1 = some (tyJxa1e45 k) := by decide +kernel
abbrev cJxa1e45_init_da8c8 : ByteArray := prog_32_method_1_code
def yJxa1e45_init_da8c8 : MethodName := ⟨RJxa1e45, "<init>", "()V"⟩
def RJxc12de : String := "java/util/AbstractList"
def TJxc12de : u_T := fun k => match k with
  | _ => ("", "", "", false)
def tyJxc12de : Nat → FieldType := fun k => match k with
  | _ => .int
abbrev wsJxc12de0 : List Cond := u_ws RJxc12de TJxc12de 0
theorem nmJxc12de : ∀ a, a < 0 → ∀ b, b < 0 → a ≠ b → (TJxc12de a).2.1 ≠ (TJxc12de b).2.1 := by decide +kernel
theorem tyJxc12de_ok : ∀ k, k < 0 → parseFieldDescriptor (TJxc12de k).2.2.1 = some (tyJxc12de k) := by decide +kernel
abbrev cJxc12de_init_da8c8 : ByteArray := prog_33_method_1_code
def yJxc12de_init_da8c8 : MethodName := ⟨RJxc12de, "<init>", "()V"⟩
def RJx35411 : String := "java/util/ArrayList$Itr"
def TJx35411 : u_T := fun k => match k with
  | 0 => ("java/util/ArrayList$Itr", "cursor", "I", false)
  | 1 => ("java/util/ArrayList$Itr", "lastRet", "I", false)
  | 2 => ("java/util/ArrayList$Itr", "expectedModCount", "I", false)
  | _ => ("java/util/ArrayList$Itr", "this$0", "Ljava/util/ArrayList;", true)
def tyJx35411 : Nat → FieldType := fun k => match k with
  | 0 => .int
  | 1 => .int
  | 2 => .int
  | _ => .object "java/util/ArrayList"
abbrev wsJx354110 : List Cond := u_ws RJx35411 TJx35411 4
theorem nmJx35411 : ∀ a, a < 4 → ∀ b, b < 4 → a ≠ b → (TJx35411 a).2.1 ≠ (TJx35411 b).2.1 := by decide +kernel
theorem tyJx35411_ok : ∀ k, k < 4 → parseFieldDescriptor (TJx35411 k).2.2.1 = some (tyJx35411 k) := by decide +kernel
abbrev cJx35411_init_45d68 : ByteArray := prog_35_method_1_code
def yJx35411_init_45d68 : MethodName := ⟨RJx35411, "<init>", "(Ljava/util/ArrayList;)V"⟩
abbrev cJx35411_hasNext_aae02 : ByteArray := prog_35_method_2_code
def yJx35411_hasNext_aae02 : MethodName := ⟨RJx35411, "hasNext", "()Z"⟩
abbrev cJx35411_next_0502b : ByteArray := prog_35_method_3_code
def yJx35411_next_0502b : MethodName := ⟨RJx35411, "next", "()Ljava/lang/Object;"⟩
abbrev cJx35411_checkForComodification_da8c8 : ByteArray := prog_35_method_6_code
def yJx35411_checkForComodification_da8c8 : MethodName := ⟨RJx35411, "checkForComodification", "()V"⟩
def RJx4a65c : String := "java/util/ArrayList"
def TJx4a65c : u_T := fun k => match k with
  | 0 => ("java/util/AbstractList", "modCount", "I", false)
  | 1 => ("java/util/ArrayList", "elementData", "[Ljava/lang/Object;", false)
  | _ => ("java/util/ArrayList", "size", "I", false)
def tyJx4a65c : Nat → FieldType := fun k => match k with
  | 0 => .int
  | 1 => .array (.object "java/lang/Object")
  | _ => .int
abbrev wsJx4a65c0 : List Cond := u_ws RJx4a65c TJx4a65c 3
theorem nmJx4a65c : ∀ a, a < 3 → ∀ b, b < 3 → a ≠ b → (TJx4a65c a).2.1 ≠ (TJx4a65c b).2.1 := by decide +kernel
theorem tyJx4a65c_ok : ∀ k, k < 3 → parseFieldDescriptor (TJx4a65c k).2.2.1 = some (tyJx4a65c k) := by decide +kernel
abbrev cJx4a65c_init_da8c8 : ByteArray := prog_34_method_2_code
def yJx4a65c_init_da8c8 : MethodName := ⟨RJx4a65c, "<init>", "()V"⟩
abbrev cJx4a65c_grow_92f84 : ByteArray := prog_34_method_6_code
def yJx4a65c_grow_92f84 : MethodName := ⟨RJx4a65c, "grow", "(I)[Ljava/lang/Object;"⟩
abbrev cJx4a65c_grow_d5877 : ByteArray := prog_34_method_7_code
def yJx4a65c_grow_d5877 : MethodName := ⟨RJx4a65c, "grow", "()[Ljava/lang/Object;"⟩
abbrev cJx4a65c_size_8abf5 : ByteArray := prog_34_method_8_code
def yJx4a65c_size_8abf5 : MethodName := ⟨RJx4a65c, "size", "()I"⟩
abbrev cJx4a65c_isEmpty_aae02 : ByteArray := prog_34_method_9_code
def yJx4a65c_isEmpty_aae02 : MethodName := ⟨RJx4a65c, "isEmpty", "()Z"⟩
abbrev cJx4a65c_elementData_915e3 : ByteArray := prog_34_method_18_code
def yJx4a65c_elementData_915e3 : MethodName := ⟨RJx4a65c, "elementData", "(I)Ljava/lang/Object;"⟩
abbrev cJx4a65c_get_915e3 : ByteArray := prog_34_method_20_code
def yJx4a65c_get_915e3 : MethodName := ⟨RJx4a65c, "get", "(I)Ljava/lang/Object;"⟩
abbrev cJx4a65c_add_72be8 : ByteArray := prog_34_method_24_code
def yJx4a65c_add_72be8 : MethodName := ⟨RJx4a65c, "add", "(Ljava/lang/Object;[Ljava/lang/Object;I)V"⟩
abbrev cJx4a65c_add_9ea2d : ByteArray := prog_34_method_25_code
def yJx4a65c_add_9ea2d : MethodName := ⟨RJx4a65c, "add", "(Ljava/lang/Object;)Z"⟩
abbrev cJx4a65c_remove_915e3 : ByteArray := prog_34_method_29_code
def yJx4a65c_remove_915e3 : MethodName := ⟨RJx4a65c, "remove", "(I)Ljava/lang/Object;"⟩
abbrev cJx4a65c_fastRemove_b59b0 : ByteArray := prog_34_method_39_code
def yJx4a65c_fastRemove_b59b0 : MethodName := ⟨RJx4a65c, "fastRemove", "([Ljava/lang/Object;I)V"⟩
abbrev cJx4a65c_iterator_32c93 : ByteArray := prog_34_method_55_code
def yJx4a65c_iterator_32c93 : MethodName := ⟨RJx4a65c, "iterator", "()Ljava/util/Iterator;"⟩
def RJ7 : String := "java/util/Arrays"
def TJ7 : u_T := fun k => match k with
  | _ => ("", "", "", false)
def tyJ7 : Nat → FieldType := fun k => match k with
  | _ => .int
abbrev wsJ70 : List Cond := u_ws RJ7 TJ7 0
theorem nmJ7 : ∀ a, a < 0 → ∀ b, b < 0 → a ≠ b → (TJ7 a).2.1 ≠ (TJ7 b).2.1 := by decide +kernel
theorem tyJ7_ok : ∀ k, k < 0 → parseFieldDescriptor (TJ7 k).2.2.1 = some (tyJ7 k) := by decide +kernel
abbrev cJ7_copyOf_1904c : ByteArray := prog_36_method_119_code
def yJ7_copyOf_1904c : MethodName := ⟨RJ7, "copyOf", "([Ljava/lang/Object;I)[Ljava/lang/Object;"⟩
abbrev cJ7_copyOf_6403c : ByteArray := prog_36_method_120_code
def yJ7_copyOf_6403c : MethodName := ⟨RJ7, "copyOf", "([Ljava/lang/Object;ILjava/lang/Class;)[Ljava/lang/Object;"⟩
def RJx5ef63 : String := "java/util/Collection"
def TJx5ef63 : u_T := fun k => match k with
  | _ => ("", "", "", false)
def tyJx5ef63 : Nat → FieldType := fun k => match k with
  | _ => .int
abbrev wsJx5ef630 : List Cond := u_ws RJx5ef63 TJx5ef63 0
theorem nmJx5ef63 : ∀ a, a < 0 → ∀ b, b < 0 → a ≠ b → (TJx5ef63 a).2.1 ≠ (TJx5ef63 b).2.1 := by decide +kernel
theorem tyJx5ef63_ok : ∀ k, k < 0 → parseFieldDescriptor (TJx5ef63 k).2.2.1 = some (tyJx5ef63 k) := by decide +kernel
def RJx4d0d8 : String := "java/util/Iterator"
def TJx4d0d8 : u_T := fun k => match k with
  | _ => ("", "", "", false)
def tyJx4d0d8 : Nat → FieldType := fun k => match k with
  | _ => .int
abbrev wsJx4d0d80 : List Cond := u_ws RJx4d0d8 TJx4d0d8 0
theorem nmJx4d0d8 : ∀ a, a < 0 → ∀ b, b < 0 → a ≠ b → (TJx4d0d8 a).2.1 ≠ (TJx4d0d8 b).2.1 := by decide +kernel
theorem tyJx4d0d8_ok : ∀ k, k < 0 → parseFieldDescriptor (TJx4d0d8 k).2.2.1 = some (tyJx4d0d8 k) := by decide +kernel
def RJxbd725 : String := "java/util/List"
def TJxbd725 : u_T := fun k => match k with
  | _ => ("", "", "", false)
def tyJxbd725 : Nat → FieldType := fun k => match k with
  | _ => .int
abbrev wsJxbd7250 : List Cond := u_ws RJxbd725 TJxbd725 0
theorem nmJxbd725 : ∀ a, a < 0 → ∀ b, b < 0 → a ≠ b → (TJxbd725 a).2.1 ≠ (TJxbd725 b).2.1 := by decide +kernel
theorem tyJxbd725_ok : ∀ k, k < 0 → parseFieldDescriptor (TJxbd725 k).2.2.1 = some (tyJxbd725 k) := by decide +kernel
def RJ15 : String := "java/util/Objects"
def TJ15 : u_T := fun k => match k with
  | _ => ("", "", "", false)
def tyJ15 : Nat → FieldType := fun k => match k with
  | _ => .int
abbrev wsJ150 : List Cond := u_ws RJ15 TJ15 0
theorem nmJ15 : ∀ a, a < 0 → ∀ b, b < 0 → a ≠ b → (TJ15 a).2.1 ≠ (TJ15 b).2.1 := by decide +kernel
theorem tyJ15_ok : ∀ k, k < 0 → parseFieldDescriptor (TJ15 k).2.2.1 = some (tyJ15 k) := by decide +kernel
abbrev cJ15_checkIndex_7cf53 : ByteArray := prog_40_method_17_code
def yJ15_checkIndex_7cf53 : MethodName := ⟨RJ15, "checkIndex", "(II)I"⟩
def RJxf0a74 : String := "java/util/RandomAccess"
def TJxf0a74 : u_T := fun k => match k with
  | _ => ("", "", "", false)
def tyJxf0a74 : Nat → FieldType := fun k => match k with
  | _ => .int
abbrev wsJxf0a740 : List Cond := u_ws RJxf0a74 TJxf0a74 0
theorem nmJxf0a74 : ∀ a, a < 0 → ∀ b, b < 0 → a ≠ b → (TJxf0a74 a).2.1 ≠ (TJxf0a74 b).2.1 := by decide +kernel
theorem tyJxf0a74_ok : ∀ k, k < 0 → parseFieldDescriptor (TJxf0a74 k).2.2.1 = some (tyJxf0a74 k) := by decide +kernel
def RJxa66e6 : String := "java/util/SequencedCollection"
def TJxa66e6 : u_T := fun k => match k with
  | _ => ("", "", "", false)
def tyJxa66e6 : Nat → FieldType := fun k => match k with
  | _ => .int
abbrev wsJxa66e60 : List Cond := u_ws RJxa66e6 TJxa66e6 0
theorem nmJxa66e6 : ∀ a, a < 0 → ∀ b, b < 0 → a ≠ b → (TJxa66e6 a).2.1 ≠ (TJxa66e6 b).2.1 := by decide +kernel
theorem tyJxa66e6_ok : ∀ k, k < 0 → parseFieldDescriptor (TJxa66e6 k).2.2.1 = some (tyJxa66e6 k) := by decide +kernel
def RJ8 : String := "jdk/internal/util/ArraysSupport"
def TJ8 : u_T := fun k => match k with
  | _ => ("", "", "", false)
def tyJ8 : Nat → FieldType := fun k => match k with
  | _ => .int
abbrev wsJ80 : List Cond := u_ws RJ8 TJ8 0
theorem nmJ8 : ∀ a, a < 0 → ∀ b, b < 0 → a ≠ b → (TJ8 a).2.1 ≠ (TJ8 b).2.1 := by decide +kernel
theorem tyJ8_ok : ∀ k, k < 0 → parseFieldDescriptor (TJ8 k).2.2.1 = some (tyJ8 k) := by decide +kernel
abbrev cJ8_newLength_cabcc : ByteArray := prog_43_method_27_code
def yJ8_newLength_cabcc : MethodName := ⟨RJ8, "newLength", "(III)I"⟩
abbrev cJ8_hugeLength_7cf53 : ByteArray := prog_43_method_28_code
def yJ8_hugeLength_7cf53 : MethodName := ⟨RJ8, "hugeLength", "(II)I"⟩
def RJ3 : String := "jdk/internal/util/Preconditions"
def TJ3 : u_T := fun k => match k with
  | _ => ("", "", "", false)
def tyJ3 : Nat → FieldType := fun k => match k with
  | _ => .int
abbrev wsJ30 : List Cond := u_ws RJ3 TJ3 0
theorem nmJ3 : ∀ a, a < 0 → ∀ b, b < 0 → a ≠ b → (TJ3 a).2.1 ≠ (TJ3 b).2.1 := by decide +kernel
theorem tyJ3_ok : ∀ k, k < 0 → parseFieldDescriptor (TJ3 k).2.2.1 = some (tyJ3 k) := by decide +kernel
abbrev cJ3_checkIndex_8e157 : ByteArray := prog_44_method_11_code
def yJ3_checkIndex_8e157 : MethodName := ⟨RJ3, "checkIndex", "(IILjava/util/function/BiFunction;)I"⟩
def RL : String := "PanyardLaw"
abbrev cL_pan : ByteArray := method_3_code
def yL_pan : MethodName := ⟨RL, "pan", "(LPanyard;I[J)I"⟩
abbrev cL_blow : ByteArray := method_4_code
def yL_blow : MethodName := ⟨RL, "blow", "(LPanyard;III[J)I"⟩
abbrev cL_burn : ByteArray := method_5_code
def yL_burn : MethodName := ⟨RL, "burn", "(LPanyard;I[J)I"⟩
abbrev cL_tuner : ByteArray := method_6_code
def yL_tuner : MethodName := ⟨RL, "tuner", "(LPanyard;II[J)I"⟩
abbrev cL_phrase : ByteArray := method_7_code
def yL_phrase : MethodName := ⟨RL, "phrase", "(LPanyard;III[J)I"⟩
abbrev cL_change : ByteArray := method_8_code
def yL_change : MethodName := ⟨RL, "change", "(LPanyard;III[J)I"⟩
abbrev cL_put : ByteArray := method_9_code
def yL_put : MethodName := ⟨RL, "put", "(LPanyard;I[J)I"⟩
abbrev cL_cut : ByteArray := method_10_code
def yL_cut : MethodName := ⟨RL, "cut", "(LPanyard;I[J)I"⟩
abbrev cL_player : ByteArray := method_11_code
def yL_player : MethodName := ⟨RL, "player", "(LPanyard;III[J)I"⟩
abbrev cL_give : ByteArray := method_12_code
def yL_give : MethodName := ⟨RL, "give", "(LPanyard;II[J)I"⟩
abbrev cL_absent : ByteArray := method_13_code
def yL_absent : MethodName := ⟨RL, "absent", "(LPanyard;IZ[J)I"⟩
abbrev cL_teach : ByteArray := method_14_code
def yL_teach : MethodName := ⟨RL, "teach", "(LPanyard;III[J)I"⟩
abbrev cL_rehearse : ByteArray := method_15_code
def yL_rehearse : MethodName := ⟨RL, "rehearse", "(LPanyard;I[J)I"⟩
abbrev cL_pass : ByteArray := method_16_code
def yL_pass : MethodName := ⟨RL, "pass", "(LPanyard;III[J)I"⟩
abbrev cL_sponsor : ByteArray := method_17_code
def yL_sponsor : MethodName := ⟨RL, "sponsor", "(LPanyard;I[J)I"⟩
abbrev cL_rival : ByteArray := method_18_code
def yL_rival : MethodName := ⟨RL, "rival", "(LPanyard;I[J)I"⟩
abbrev cL_lean : ByteArray := method_19_code
def yL_lean : MethodName := ⟨RL, "lean", "(LPanyard;II[J)I"⟩
abbrev cL_play : ByteArray := method_20_code
def yL_play : MethodName := ⟨RL, "play", "(LPanyard;[J)I"⟩
abbrev cL_ofPan : ByteArray := method_21_code
def yL_ofPan : MethodName := ⟨RL, "ofPan", "(LPanyard;II[J)I"⟩
abbrev cL_off : ByteArray := method_22_code
def yL_off : MethodName := ⟨RL, "off", "(LPanyard;II[J)I"⟩
abbrev cL_ofPhrase : ByteArray := method_23_code
def yL_ofPhrase : MethodName := ⟨RL, "ofPhrase", "(LPanyard;II[J)I"⟩
abbrev cL_ofPlayer : ByteArray := method_24_code
def yL_ofPlayer : MethodName := ⟨RL, "ofPlayer", "(LPanyard;II[J)I"⟩
abbrev cL_memory : ByteArray := method_25_code
def yL_memory : MethodName := ⟨RL, "memory", "(LPanyard;II[J)I"⟩
abbrev cL_ofPlace : ByteArray := method_26_code
def yL_ofPlace : MethodName := ⟨RL, "ofPlace", "(LPanyard;II[J)I"⟩
abbrev cL_mark : ByteArray := method_27_code
def yL_mark : MethodName := ⟨RL, "mark", "(LPanyard;I[J)I"⟩
abbrev cL_ofRound : ByteArray := method_28_code
def yL_ofRound : MethodName := ⟨RL, "ofRound", "(LPanyard;II[J)I"⟩
abbrev cL_many : ByteArray := method_29_code
def yL_many : MethodName := ⟨RL, "many", "(LPanyard;I[J)I"⟩
abbrev cL_wouldTotal : ByteArray := method_30_code
def yL_wouldTotal : MethodName := ⟨RL, "wouldTotal", "(LPanyard;I[J)I"⟩
abbrev cL_bestOrder : ByteArray := method_31_code
def yL_bestOrder : MethodName := ⟨RL, "bestOrder", "(LPanyard;[J)I"⟩
abbrev cL_bestTeach : ByteArray := method_32_code
def yL_bestTeach : MethodName := ⟨RL, "bestTeach", "(LPanyard;II[J)I"⟩
abbrev cL_blowsFor : ByteArray := method_33_code
def yL_blowsFor : MethodName := ⟨RL, "blowsFor", "(LPanyard;I[J)I"⟩
abbrev cL_law : ByteArray := code
def yL_law : MethodName := ⟨RL, "law", "([I)Z"⟩
