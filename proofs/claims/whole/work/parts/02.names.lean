def RX0 : String := "EarFerry$Scene"
def TX0 : u_T := fun k => match k with
  | 0 => ("EarFerry$Scene", "ferry", "I", false)
  | 1 => ("EarFerry$Scene", "time", "I", false)
  | 2 => ("EarFerry$Scene", "hushed", "I", false)
  | 3 => ("EarFerry$Scene", "firstHammer", "I", false)
  | 4 => ("EarFerry$Scene", "secondHammer", "I", false)
  | 5 => ("EarFerry$Scene", "rain", "I", false)
  | _ => ("EarFerry$Scene", "wind", "I", false)
def tyX0 : Nat → FieldType := fun k => match k with
  | 0 => .int
  | 1 => .int
  | 2 => .int
  | 3 => .int
  | 4 => .int
  | 5 => .int
  | _ => .int
abbrev wsX00 : List Cond := u_ws RX0 TX0 7
theorem nmX0 : ∀ a, a < 7 → ∀ b, b < 7 → a ≠ b → (TX0 a).2.1 ≠ (TX0 b).2.1 := by decide +kernel
theorem tyX0_ok : ∀ k, k < 7 → parseFieldDescriptor (TX0 k).2.2.1 = some (tyX0 k) := by decide +kernel
abbrev cX0_init : ByteArray := prog_2_method_1_code
def yX0_init : MethodName := ⟨RX0, "<init>", "()V"⟩
abbrev cX0_begin : ByteArray := prog_2_method_2_code
def yX0_begin : MethodName := ⟨RX0, "begin", "(III)V"⟩
abbrev cX0_hammerCount : ByteArray := prog_2_method_3_code
def yX0_hammerCount : MethodName := ⟨RX0, "hammerCount", "()I"⟩
abbrev cX0_putHammer : ByteArray := prog_2_method_4_code
def yX0_putHammer : MethodName := ⟨RX0, "putHammer", "(I)V"⟩
abbrev cX0_takeHammer : ByteArray := prog_2_method_5_code
def yX0_takeHammer : MethodName := ⟨RX0, "takeHammer", "(I)V"⟩
abbrev cX0_packed : ByteArray := prog_2_method_6_code
def yX0_packed : MethodName := ⟨RX0, "packed", "()I"⟩
abbrev cX0_unpack : ByteArray := prog_2_method_7_code
def yX0_unpack : MethodName := ⟨RX0, "unpack", "(I)V"⟩
def RX1 : String := "EarFerry$Sightings"
def TX1 : u_T := fun k => match k with
  | 0 => ("EarFerry$Sightings", "sound", "[I", true)
  | 1 => ("EarFerry$Sightings", "cell", "[I", true)
  | 2 => ("EarFerry$Sightings", "time", "[I", true)
  | 3 => ("EarFerry$Sightings", "heardThere", "[Z", true)
  | _ => ("EarFerry$Sightings", "count", "I", false)
def tyX1 : Nat → FieldType := fun k => match k with
  | 0 => .array .int
  | 1 => .array .int
  | 2 => .array .int
  | 3 => .array .boolean
  | _ => .int
abbrev wsX10 : List Cond := u_ws RX1 TX1 5
theorem nmX1 : ∀ a, a < 5 → ∀ b, b < 5 → a ≠ b → (TX1 a).2.1 ≠ (TX1 b).2.1 := by decide +kernel
theorem tyX1_ok : ∀ k, k < 5 → parseFieldDescriptor (TX1 k).2.2.1 = some (tyX1 k) := by decide +kernel
abbrev cX1_init : ByteArray := prog_3_method_1_code
def yX1_init : MethodName := ⟨RX1, "<init>", "()V"⟩
abbrev cX1_add : ByteArray := prog_3_method_2_code
def yX1_add : MethodName := ⟨RX1, "add", "(IIIZ)V"⟩
def RX2 : String := "EarFerry$Sounds"
def TX2 : u_T := fun k => match k with
  | 0 => ("EarFerry$Sounds", "cell", "[I", true)
  | 1 => ("EarFerry$Sounds", "loud", "[I", true)
  | 2 => ("EarFerry$Sounds", "from", "[I", true)
  | 3 => ("EarFerry$Sounds", "until", "[I", true)
  | 4 => ("EarFerry$Sounds", "kind", "[I", true)
  | _ => ("EarFerry$Sounds", "count", "I", false)
def tyX2 : Nat → FieldType := fun k => match k with
  | 0 => .array .int
  | 1 => .array .int
  | 2 => .array .int
  | 3 => .array .int
  | 4 => .array .int
  | _ => .int
abbrev wsX20 : List Cond := u_ws RX2 TX2 6
theorem nmX2 : ∀ a, a < 6 → ∀ b, b < 6 → a ≠ b → (TX2 a).2.1 ≠ (TX2 b).2.1 := by decide +kernel
theorem tyX2_ok : ∀ k, k < 6 → parseFieldDescriptor (TX2 k).2.2.1 = some (tyX2 k) := by decide +kernel
abbrev cX2_init : ByteArray := prog_4_method_1_code
def yX2_init : MethodName := ⟨RX2, "<init>", "()V"⟩
abbrev cX2_has : ByteArray := prog_4_method_2_code
def yX2_has : MethodName := ⟨RX2, "has", "(I)Z"⟩
abbrev cX2_take : ByteArray := prog_4_method_3_code
def yX2_take : MethodName := ⟨RX2, "take", "(LEarFerry$Text;)V"⟩
abbrev cX2_carries : ByteArray := prog_4_method_4_code
def yX2_carries : MethodName := ⟨RX2, "carries", "(IIIII)Z"⟩
def RX3 : String := "EarFerry$Text"
def TX3 : u_T := fun k => match k with
  | 0 => ("EarFerry$Text", "bytes", "[I", true)
  | _ => ("EarFerry$Text", "length", "I", false)
def tyX3 : Nat → FieldType := fun k => match k with
  | 0 => .array .int
  | _ => .int
abbrev wsX30 : List Cond := u_ws RX3 TX3 2
theorem nmX3 : ∀ a, a < 2 → ∀ b, b < 2 → a ≠ b → (TX3 a).2.1 ≠ (TX3 b).2.1 := by decide +kernel
theorem tyX3_ok : ∀ k, k < 2 → parseFieldDescriptor (TX3 k).2.2.1 = some (tyX3 k) := by decide +kernel
abbrev cX3_init : ByteArray := prog_5_method_1_code
def yX3_init : MethodName := ⟨RX3, "<init>", "()V"⟩
abbrev cX3_add : ByteArray := prog_5_method_2_code
def yX3_add : MethodName := ⟨RX3, "add", "(I)V"⟩
abbrev cX3_digit : ByteArray := prog_5_method_3_code
def yX3_digit : MethodName := ⟨RX3, "digit", "(I)I"⟩
abbrev cX3_firstFault : ByteArray := prog_5_method_4_code
def yX3_firstFault : MethodName := ⟨RX3, "firstFault", "()I"⟩
abbrev cX3_fits : ByteArray := prog_5_method_5_code
def yX3_fits : MethodName := ⟨RX3, "fits", "(I)Z"⟩
abbrev cX3_fitsHead : ByteArray := prog_5_method_6_code
def yX3_fitsHead : MethodName := ⟨RX3, "fitsHead", "(I)Z"⟩
abbrev cX3_fitsPart : ByteArray := prog_5_method_7_code
def yX3_fitsPart : MethodName := ⟨RX3, "fitsPart", "(I)Z"⟩
abbrev cX3_isDigit : ByteArray := prog_5_method_8_code
def yX3_isDigit : MethodName := ⟨RX3, "isDigit", "(III)Z"⟩
def RX4 : String := "EarFerry"
def TX4 : u_T := fun k => match k with
  | 0 => ("EarFerry", "text", "LEarFerry$Text;", true)
  | 1 => ("EarFerry", "sounds", "LEarFerry$Sounds;", true)
  | 2 => ("EarFerry", "now", "LEarFerry$Scene;", true)
  | 3 => ("EarFerry", "seen", "LEarFerry$Sightings;", true)
  | 4 => ("EarFerry", "acts", "[I", true)
  | 5 => ("EarFerry", "actCount", "I", false)
  | 6 => ("EarFerry", "slots", "[I", true)
  | 7 => ("EarFerry", "seedNow", "J", false)
  | 8 => ("EarFerry", "soundSets", "[I", true)
  | 9 => ("EarFerry", "sets", "[I", true)
  | 10 => ("EarFerry", "sureByHour", "[I", true)
  | _ => ("EarFerry", "sureByChoice", "[I", true)
def tyX4 : Nat → FieldType := fun k => match k with
  | 0 => .object "EarFerry$Text"
  | 1 => .object "EarFerry$Sounds"
  | 2 => .object "EarFerry$Scene"
  | 3 => .object "EarFerry$Sightings"
  | 4 => .array .int
  | 5 => .int
  | 6 => .array .int
  | 7 => .long
  | 8 => .array .int
  | 9 => .array .int
  | 10 => .array .int
  | _ => .array .int
abbrev wsX40 : List Cond := u_ws RX4 TX4 12
theorem nmX4 : ∀ a, a < 12 → ∀ b, b < 12 → a ≠ b → (TX4 a).2.1 ≠ (TX4 b).2.1 := by decide +kernel
theorem tyX4_ok : ∀ k, k < 12 → parseFieldDescriptor (TX4 k).2.2.1 = some (tyX4 k) := by decide +kernel
abbrev cX4_init : ByteArray := prog_1_method_1_code
def yX4_init : MethodName := ⟨RX4, "<init>", "()V"⟩
abbrev cX4_write : ByteArray := prog_1_method_2_code
def yX4_write : MethodName := ⟨RX4, "write", "(I)I"⟩
abbrev cX4_wipe : ByteArray := prog_1_method_3_code
def yX4_wipe : MethodName := ⟨RX4, "wipe", "()I"⟩
abbrev cX4_fault : ByteArray := prog_1_method_4_code
def yX4_fault : MethodName := ⟨RX4, "fault", "()I"⟩
abbrev cX4_river : ByteArray := prog_1_method_5_code
def yX4_river : MethodName := ⟨RX4, "river", "()I"⟩
abbrev cX4_about : ByteArray := prog_1_method_6_code
def yX4_about : MethodName := ⟨RX4, "about", "(I)I"⟩
abbrev cX4_sound : ByteArray := prog_1_method_7_code
def yX4_sound : MethodName := ⟨RX4, "sound", "(II)I"⟩
abbrev cX4_row : ByteArray := prog_1_method_8_code
def yX4_row : MethodName := ⟨RX4, "row", "(I)I"⟩
abbrev cX4_hush : ByteArray := prog_1_method_9_code
def yX4_hush : MethodName := ⟨RX4, "hush", "(I)I"⟩
abbrev cX4_hammer : ByteArray := prog_1_method_10_code
def yX4_hammer : MethodName := ⟨RX4, "hammer", "(I)I"⟩
abbrev cX4_change : ByteArray := prog_1_method_11_code
def yX4_change : MethodName := ⟨RX4, "change", "(II)I"⟩
abbrev cX4_hour : ByteArray := prog_1_method_12_code
def yX4_hour : MethodName := ⟨RX4, "hour", "()I"⟩
abbrev cX4_undo : ByteArray := prog_1_method_13_code
def yX4_undo : MethodName := ⟨RX4, "undo", "()I"⟩
abbrev cX4_heard : ByteArray := prog_1_method_14_code
def yX4_heard : MethodName := ⟨RX4, "heard", "(II)I"⟩
abbrev cX4_sure : ByteArray := prog_1_method_15_code
def yX4_sure : MethodName := ⟨RX4, "sure", "(I)I"⟩
abbrev cX4_where : ByteArray := prog_1_method_16_code
def yX4_where : MethodName := ⟨RX4, "where", "(II)I"⟩
abbrev cX4_when : ByteArray := prog_1_method_17_code
def yX4_when : MethodName := ⟨RX4, "when", "(II)I"⟩
abbrev cX4_spared : ByteArray := prog_1_method_18_code
def yX4_spared : MethodName := ⟨RX4, "spared", "(I)I"⟩
abbrev cX4_worth : ByteArray := prog_1_method_19_code
def yX4_worth : MethodName := ⟨RX4, "worth", "(IIZ)I"⟩
abbrev cX4_hammers : ByteArray := prog_1_method_20_code
def yX4_hammers : MethodName := ⟨RX4, "hammers", "(III)I"⟩
abbrev cX4_bestHours : ByteArray := prog_1_method_21_code
def yX4_bestHours : MethodName := ⟨RX4, "bestHours", "(II)I"⟩
abbrev cX4_grounded : ByteArray := prog_1_method_22_code
def yX4_grounded : MethodName := ⟨RX4, "grounded", "(IIIII)I"⟩
abbrev cX4_see : ByteArray := prog_1_method_23_code
def yX4_see : MethodName := ⟨RX4, "see", "(IIIZ)I"⟩
abbrev cX4_unsee : ByteArray := prog_1_method_24_code
def yX4_unsee : MethodName := ⟨RX4, "unsee", "()I"⟩
abbrev cX4_weather : ByteArray := prog_1_method_25_code
def yX4_weather : MethodName := ⟨RX4, "weather", "(I)I"⟩
abbrev cX4_rivals : ByteArray := prog_1_method_26_code
def yX4_rivals : MethodName := ⟨RX4, "rivals", "(II)I"⟩
abbrev cX4_chance : ByteArray := prog_1_method_27_code
def yX4_chance : MethodName := ⟨RX4, "chance", "(IIIZ)I"⟩
abbrev cX4_seed : ByteArray := prog_1_method_28_code
def yX4_seed : MethodName := ⟨RX4, "seed", "(J)J"⟩
abbrev cX4_days : ByteArray := prog_1_method_29_code
def yX4_days : MethodName := ⟨RX4, "days", "(I)I"⟩
abbrev cX4_keep : ByteArray := prog_1_method_30_code
def yX4_keep : MethodName := ⟨RX4, "keep", "(I)I"⟩
abbrev cX4_again : ByteArray := prog_1_method_31_code
def yX4_again : MethodName := ⟨RX4, "again", "(I)I"⟩
abbrev cX4_isCell : ByteArray := prog_1_method_32_code
def yX4_isCell : MethodName := ⟨RX4, "isCell", "(I)Z"⟩
abbrev cX4_isHour : ByteArray := prog_1_method_33_code
def yX4_isHour : MethodName := ⟨RX4, "isHour", "(I)Z"⟩
abbrev cX4_isSet : ByteArray := prog_1_method_34_code
def yX4_isSet : MethodName := ⟨RX4, "isSet", "(I)Z"⟩
abbrev cX4_isFirstOrSecond : ByteArray := prog_1_method_35_code
def yX4_isFirstOrSecond : MethodName := ⟨RX4, "isFirstOrSecond", "(I)Z"⟩
abbrev cX4_hourBehind : ByteArray := prog_1_method_36_code
def yX4_hourBehind : MethodName := ⟨RX4, "hourBehind", "(I)I"⟩
abbrev cX4_toldCell : ByteArray := prog_1_method_37_code
def yX4_toldCell : MethodName := ⟨RX4, "toldCell", "(I)I"⟩
abbrev cX4_rememberAct : ByteArray := prog_1_method_38_code
def yX4_rememberAct : MethodName := ⟨RX4, "rememberAct", "()V"⟩
abbrev cX4_reaches : ByteArray := prog_1_method_39_code
def yX4_reaches : MethodName := ⟨RX4, "reaches", "(IIIIII)Z"⟩
abbrev cX4_liveSounds : ByteArray := prog_1_method_40_code
def yX4_liveSounds : MethodName := ⟨RX4, "liveSounds", "()I"⟩
abbrev cX4_isHeard : ByteArray := prog_1_method_41_code
def yX4_isHeard : MethodName := ⟨RX4, "isHeard", "(IIIII)Z"⟩
abbrev cX4_cellsThatHear : ByteArray := prog_1_method_42_code
def yX4_cellsThatHear : MethodName := ⟨RX4, "cellsThatHear", "(I)I"⟩
abbrev cX4_soundSet : ByteArray := prog_1_method_43_code
def yX4_soundSet : MethodName := ⟨RX4, "soundSet", "(II)I"⟩
abbrev cX4_hammerSet : ByteArray := prog_1_method_44_code
def yX4_hammerSet : MethodName := ⟨RX4, "hammerSet", "(III)I"⟩
abbrev cX4_setNow : ByteArray := prog_1_method_45_code
def yX4_setNow : MethodName := ⟨RX4, "setNow", "(II)I"⟩
abbrev cX4_fillSoundSets : ByteArray := prog_1_method_46_code
def yX4_fillSoundSets : MethodName := ⟨RX4, "fillSoundSets", "(I)V"⟩
abbrev cX4_fillSets : ByteArray := prog_1_method_47_code
def yX4_fillSets : MethodName := ⟨RX4, "fillSets", "(II)V"⟩
abbrev cX4_fillSetsNow : ByteArray := prog_1_method_48_code
def yX4_fillSetsNow : MethodName := ⟨RX4, "fillSetsNow", "(I)V"⟩
abbrev cX4_sureCells : ByteArray := prog_1_method_49_code
def yX4_sureCells : MethodName := ⟨RX4, "sureCells", "(I)I"⟩
abbrev cX4_sureCount : ByteArray := prog_1_method_50_code
def yX4_sureCount : MethodName := ⟨RX4, "sureCount", "(I)I"⟩
abbrev cX4_isSure : ByteArray := prog_1_method_51_code
def yX4_isSure : MethodName := ⟨RX4, "isSure", "(II)Z"⟩
abbrev cX4_sureCountWith : ByteArray := prog_1_method_52_code
def yX4_sureCountWith : MethodName := ⟨RX4, "sureCountWith", "(II)I"⟩
abbrev cX4_fewestHammers : ByteArray := prog_1_method_53_code
def yX4_fewestHammers : MethodName := ⟨RX4, "fewestHammers", "(I)I"⟩
abbrev cX4_agreesWithSeen : ByteArray := prog_1_method_54_code
def yX4_agreesWithSeen : MethodName := ⟨RX4, "agreesWithSeen", "(II)Z"⟩
abbrev cX4_canBoth : ByteArray := prog_1_method_55_code
def yX4_canBoth : MethodName := ⟨RX4, "canBoth", "(II)Z"⟩
abbrev cX4_fillSureByChoice : ByteArray := prog_1_method_56_code
def yX4_fillSureByChoice : MethodName := ⟨RX4, "fillSureByChoice", "()V"⟩
abbrev cX4_isAtRest : ByteArray := prog_1_method_57_code
def yX4_isAtRest : MethodName := ⟨RX4, "isAtRest", "(II)Z"⟩
abbrev cX4_power : ByteArray := prog_1_method_58_code
def yX4_power : MethodName := ⟨RX4, "power", "(II)I"⟩
abbrev cX4_factorial : ByteArray := prog_1_method_59_code
def yX4_factorial : MethodName := ⟨RX4, "factorial", "(I)I"⟩
abbrev cX4_toldPart : ByteArray := prog_1_method_60_code
def yX4_toldPart : MethodName := ⟨RX4, "toldPart", "(IIZ)I"⟩
abbrev cX4_greatestDivisor : ByteArray := prog_1_method_61_code
def yX4_greatestDivisor : MethodName := ⟨RX4, "greatestDivisor", "(II)I"⟩
def RX5 : String := "EarFerryModel"
def TX5 : u_T := fun k => match k with
  | 0 => ("EarFerryModel", "thrown", "I", false)
  | 1 => ("EarFerryModel", "text", "[I", true)
  | 2 => ("EarFerryModel", "textSize", "I", false)
  | 3 => ("EarFerryModel", "place", "I", false)
  | 4 => ("EarFerryModel", "sounds", "I", false)
  | 5 => ("EarFerryModel", "sound", "[I", true)
  | 6 => ("EarFerryModel", "readSounds", "I", false)
  | 7 => ("EarFerryModel", "readStart", "I", false)
  | 8 => ("EarFerryModel", "readRain", "I", false)
  | 9 => ("EarFerryModel", "readWind", "I", false)
  | 10 => ("EarFerryModel", "readSound", "[I", true)
  | 11 => ("EarFerryModel", "page", "[I", true)
  | 12 => ("EarFerryModel", "trial", "[I", true)
  | 13 => ("EarFerryModel", "book", "[I", true)
  | 14 => ("EarFerryModel", "acts", "I", false)
  | 15 => ("EarFerryModel", "kept", "[I", true)
  | 16 => ("EarFerryModel", "isKept", "[Z", true)
  | 17 => ("EarFerryModel", "seen", "I", false)
  | 18 => ("EarFerryModel", "seenSound", "[I", true)
  | 19 => ("EarFerryModel", "seenCell", "[I", true)
  | 20 => ("EarFerryModel", "seenHour", "[I", true)
  | 21 => ("EarFerryModel", "seenHeard", "[Z", true)
  | 22 => ("EarFerryModel", "seed", "J", false)
  | 23 => ("EarFerryModel", "set", "[I", true)
  | 24 => ("EarFerryModel", "value", "[I", true)
  | 25 => ("EarFerryModel", "many", "[I", true)
  | 26 => ("EarFerryModel", "hammerMany", "I", false)
  | 27 => ("EarFerryModel", "hammerFirst", "I", false)
  | 28 => ("EarFerryModel", "bestFrom", "I", false)
  | 29 => ("EarFerryModel", "bestMany", "I", false)
  | 30 => ("EarFerryModel", "weatherMany", "I", false)
  | _ => ("EarFerryModel", "weatherFirst", "I", false)
def tyX5 : Nat → FieldType := fun k => match k with
  | 0 => .int
  | 1 => .array .int
  | 2 => .int
  | 3 => .int
  | 4 => .int
  | 5 => .array .int
  | 6 => .int
  | 7 => .int
  | 8 => .int
  | 9 => .int
  | 10 => .array .int
  | 11 => .array .int
  | 12 => .array .int
  | 13 => .array .int
  | 14 => .int
  | 15 => .array .int
  | 16 => .array .boolean
  | 17 => .int
  | 18 => .array .int
  | 19 => .array .int
  | 20 => .array .int
  | 21 => .array .boolean
  | 22 => .long
  | 23 => .array .int
  | 24 => .array .int
  | 25 => .array .int
  | 26 => .int
  | 27 => .int
  | 28 => .int
  | 29 => .int
  | 30 => .int
  | _ => .int
abbrev wsX50 : List Cond := u_ws RX5 TX5 32
theorem nmX5 : ∀ a, a < 32 → ∀ b, b < 32 → a ≠ b → (TX5 a).2.1 ≠ (TX5 b).2.1 := by decide +kernel
theorem tyX5_ok : ∀ k, k < 32 → parseFieldDescriptor (TX5 k).2.2.1 = some (tyX5 k) := by decide +kernel
abbrev cX5_init : ByteArray := prog_7_method_1_code
def yX5_init : MethodName := ⟨RX5, "<init>", "()V"⟩
abbrev cX5_in : ByteArray := prog_7_method_3_code
def yX5_in : MethodName := ⟨RX5, "in", "(JJJ)Z"⟩
abbrev cX5_has : ByteArray := prog_7_method_4_code
def yX5_has : MethodName := ⟨RX5, "has", "(II)Z"⟩
abbrev cX5_bits : ByteArray := prog_7_method_5_code
def yX5_bits : MethodName := ⟨RX5, "bits", "(I)I"⟩
abbrev cX5_far : ByteArray := prog_7_method_6_code
def yX5_far : MethodName := ⟨RX5, "far", "(II)I"⟩
abbrev cX5_noSound : ByteArray := prog_7_method_7_code
def yX5_noSound : MethodName := ⟨RX5, "noSound", "(I)Z"⟩
abbrev cX5_noCell : ByteArray := prog_7_method_8_code
def yX5_noCell : MethodName := ⟨RX5, "noCell", "(I)Z"⟩
abbrev cX5_noHour : ByteArray := prog_7_method_9_code
def yX5_noHour : MethodName := ⟨RX5, "noHour", "(I)Z"⟩
abbrev cX5_write : ByteArray := prog_7_method_10_code
def yX5_write : MethodName := ⟨RX5, "write", "(I)I"⟩
abbrev cX5_wipe : ByteArray := prog_7_method_11_code
def yX5_wipe : MethodName := ⟨RX5, "wipe", "()I"⟩
abbrev cX5_figure : ByteArray := prog_7_method_12_code
def yX5_figure : MethodName := ⟨RX5, "figure", "(II)I"⟩
abbrev cX5_readHead : ByteArray := prog_7_method_13_code
def yX5_readHead : MethodName := ⟨RX5, "readHead", "()Z"⟩
abbrev cX5_readPart : ByteArray := prog_7_method_14_code
def yX5_readPart : MethodName := ⟨RX5, "readPart", "()Z"⟩
abbrev cX5_readRiver : ByteArray := prog_7_method_15_code
def yX5_readRiver : MethodName := ⟨RX5, "readRiver", "()I"⟩
abbrev cX5_fault : ByteArray := prog_7_method_16_code
def yX5_fault : MethodName := ⟨RX5, "fault", "()I"⟩
abbrev cX5_river : ByteArray := prog_7_method_17_code
def yX5_river : MethodName := ⟨RX5, "river", "()I"⟩
abbrev cX5_carries : ByteArray := prog_7_method_18_code
def yX5_carries : MethodName := ⟨RX5, "carries", "([IIIII)Z"⟩
abbrev cX5_hears : ByteArray := prog_7_method_19_code
def yX5_hears : MethodName := ⟨RX5, "hears", "([IIII)Z"⟩
abbrev cX5_heardAt : ByteArray := prog_7_method_20_code
def yX5_heardAt : MethodName := ⟨RX5, "heardAt", "([III)I"⟩
abbrev cX5_sureAt : ByteArray := prog_7_method_21_code
def yX5_sureAt : MethodName := ⟨RX5, "sureAt", "([II)I"⟩
abbrev cX5_begin : ByteArray := prog_7_method_22_code
def yX5_begin : MethodName := ⟨RX5, "begin", "()V"⟩
abbrev cX5_about : ByteArray := prog_7_method_23_code
def yX5_about : MethodName := ⟨RX5, "about", "(I)I"⟩
abbrev cX5_sound : ByteArray := prog_7_method_24_code
def yX5_sound : MethodName := ⟨RX5, "sound", "(II)I"⟩
abbrev cX5_note : ByteArray := prog_7_method_25_code
def yX5_note : MethodName := ⟨RX5, "note", "()V"⟩
abbrev cX5_row : ByteArray := prog_7_method_26_code
def yX5_row : MethodName := ⟨RX5, "row", "(I)I"⟩
abbrev cX5_hush : ByteArray := prog_7_method_27_code
def yX5_hush : MethodName := ⟨RX5, "hush", "(I)I"⟩
abbrev cX5_hammer : ByteArray := prog_7_method_28_code
def yX5_hammer : MethodName := ⟨RX5, "hammer", "(I)I"⟩
abbrev cX5_change : ByteArray := prog_7_method_29_code
def yX5_change : MethodName := ⟨RX5, "change", "(II)I"⟩
abbrev cX5_hour : ByteArray := prog_7_method_30_code
def yX5_hour : MethodName := ⟨RX5, "hour", "()I"⟩
abbrev cX5_undo : ByteArray := prog_7_method_31_code
def yX5_undo : MethodName := ⟨RX5, "undo", "()I"⟩
abbrev cX5_heard : ByteArray := prog_7_method_32_code
def yX5_heard : MethodName := ⟨RX5, "heard", "(II)I"⟩
abbrev cX5_sure : ByteArray := prog_7_method_33_code
def yX5_sure : MethodName := ⟨RX5, "sure", "(I)I"⟩
abbrev cX5_where : ByteArray := prog_7_method_34_code
def yX5_where : MethodName := ⟨RX5, "where", "(II)I"⟩
abbrev cX5_when : ByteArray := prog_7_method_35_code
def yX5_when : MethodName := ⟨RX5, "when", "(II)I"⟩
abbrev cX5_spared : ByteArray := prog_7_method_36_code
def yX5_spared : MethodName := ⟨RX5, "spared", "(I)I"⟩
abbrev cX5_orders : ByteArray := prog_7_method_37_code
def yX5_orders : MethodName := ⟨RX5, "orders", "(I)I"⟩
abbrev cX5_divisor : ByteArray := prog_7_method_38_code
def yX5_divisor : MethodName := ⟨RX5, "divisor", "(II)I"⟩
abbrev cX5_fraction : ByteArray := prog_7_method_39_code
def yX5_fraction : MethodName := ⟨RX5, "fraction", "(IIZ)I"⟩
abbrev cX5_worth : ByteArray := prog_7_method_40_code
def yX5_worth : MethodName := ⟨RX5, "worth", "(IIZ)I"⟩
abbrev cX5_sureWith : ByteArray := prog_7_method_41_code
def yX5_sureWith : MethodName := ⟨RX5, "sureWith", "(III)I"⟩
abbrev cX5_findHammers : ByteArray := prog_7_method_42_code
def yX5_findHammers : MethodName := ⟨RX5, "findHammers", "(II)V"⟩
abbrev cX5_hammers : ByteArray := prog_7_method_43_code
def yX5_hammers : MethodName := ⟨RX5, "hammers", "(III)I"⟩
abbrev cX5_bestHours : ByteArray := prog_7_method_44_code
def yX5_bestHours : MethodName := ⟨RX5, "bestHours", "(II)I"⟩
abbrev cX5_grounded : ByteArray := prog_7_method_45_code
def yX5_grounded : MethodName := ⟨RX5, "grounded", "(IIIII)I"⟩
abbrev cX5_see : ByteArray := prog_7_method_46_code
def yX5_see : MethodName := ⟨RX5, "see", "(IIIZ)I"⟩
abbrev cX5_unsee : ByteArray := prog_7_method_47_code
def yX5_unsee : MethodName := ⟨RX5, "unsee", "()I"⟩
abbrev cX5_weather : ByteArray := prog_7_method_48_code
def yX5_weather : MethodName := ⟨RX5, "weather", "(I)I"⟩
abbrev cX5_canBoth : ByteArray := prog_7_method_49_code
def yX5_canBoth : MethodName := ⟨RX5, "canBoth", "(II)Z"⟩
abbrev cX5_doRest : ByteArray := prog_7_method_50_code
def yX5_doRest : MethodName := ⟨RX5, "doRest", "(II)Z"⟩
abbrev cX5_rivals : ByteArray := prog_7_method_51_code
def yX5_rivals : MethodName := ⟨RX5, "rivals", "(II)I"⟩
abbrev cX5_chance : ByteArray := prog_7_method_52_code
def yX5_chance : MethodName := ⟨RX5, "chance", "(IIIZ)I"⟩
abbrev cX5_seed : ByteArray := prog_7_method_53_code
def yX5_seed : MethodName := ⟨RX5, "seed", "(J)J"⟩
abbrev cX5_days : ByteArray := prog_7_method_54_code
def yX5_days : MethodName := ⟨RX5, "days", "(I)I"⟩
abbrev cX5_keep : ByteArray := prog_7_method_55_code
def yX5_keep : MethodName := ⟨RX5, "keep", "(I)I"⟩
abbrev cX5_again : ByteArray := prog_7_method_56_code
def yX5_again : MethodName := ⟨RX5, "again", "(I)I"⟩
def RJ6 : String := "java/lang/Integer"
abbrev cJ6_bitCount_0f7a4 : ByteArray := prog_8_method_49_code
def yJ6_bitCount_0f7a4 : MethodName := ⟨RJ6, "bitCount", "(I)I"⟩
def RJ9 : String := "java/lang/Math"
abbrev cJ9_abs_0f7a4 : ByteArray := prog_9_method_59_code
def yJ9_abs_0f7a4 : MethodName := ⟨RJ9, "abs", "(I)I"⟩
abbrev cJ9_max_7cf53 : ByteArray := prog_9_method_65_code
def yJ9_max_7cf53 : MethodName := ⟨RJ9, "max", "(II)I"⟩
abbrev cJ9_min_7cf53 : ByteArray := prog_9_method_69_code
def yJ9_min_7cf53 : MethodName := ⟨RJ9, "min", "(II)I"⟩
def RL : String := "EarFerryLaw"
abbrev cL_law : ByteArray := code
def yL_law : MethodName := ⟨RL, "law", "([I)Z"⟩
abbrev vwCl : List vw_C := [(RX0, TX0, 7), (RX1, TX1, 5), (RX2, TX2, 6), (RX3, TX3, 2), (RX4, TX4, 12), (RX5, TX5, 32)]
/-! the words: one list for every method: the tables' words that last (WB) -/
def WB : List Cond := lw_tbl.filter goodWord
theorem WB_good : ∀ w ∈ WB, (w.onTables && w.keeps) = true ∨ ∃ ty, w = .arrayClass ty := fun w h => good_of_word (List.mem_filter.mp h).2
theorem WB_tbl : ∀ w ∈ WB, w ∈ lw_tbl := fun w h => (List.mem_filter.mp h).1
theorem wb_of_tables {w : Cond} (h : w ∈ tables_1) (g : goodWord w = true) : w ∈ WB := List.mem_filter.mpr ⟨List.mem_append_right _ h, g⟩
theorem wb_p {w : Cond} (h : w ∈ k2_sels lw_privs) (g : goodWord w = true) : w ∈ WB := List.mem_filter.mpr ⟨List.mem_append_left _ h, g⟩
theorem wb_1 {w : Cond} (h : w ∈ tables_1_1) (g : goodWord w = true) : w ∈ WB := wb_of_tables (List.mem_append_left _ h) g
theorem wb_2 {w : Cond} (h : w ∈ tables_1_2) (g : goodWord w = true) : w ∈ WB := wb_of_tables (List.mem_append_right _ (List.mem_append_left _ h)) g
theorem wb_3 {w : Cond} (h : w ∈ tables_1_3) (g : goodWord w = true) : w ∈ WB := wb_of_tables (List.mem_append_right _ (List.mem_append_right _ (List.mem_append_left _ h))) g
theorem wb_4 {w : Cond} (h : w ∈ tables_1_4) (g : goodWord w = true) : w ∈ WB := wb_of_tables (List.mem_append_right _ (List.mem_append_right _ (List.mem_append_right _ h))) g
theorem k_1_0 : (Jvm.Cond.initialized "EarFerryLaw") ∈ WB := wb_1 (List.mem_of_getElem? (i := 0) rfl) rfl
theorem k_1_1 : (Jvm.Cond.initialized "EarFerry") ∈ WB := wb_1 (List.mem_of_getElem? (i := 1) rfl) rfl
theorem k_1_2 : (Jvm.Cond.initialized "EarFerry$Text") ∈ WB := wb_1 (List.mem_of_getElem? (i := 2) rfl) rfl
theorem k_1_3 : (Jvm.Cond.initialized "EarFerry$Sounds") ∈ WB := wb_1 (List.mem_of_getElem? (i := 3) rfl) rfl
theorem k_1_4 : (Jvm.Cond.initialized "EarFerry$Scene") ∈ WB := wb_1 (List.mem_of_getElem? (i := 4) rfl) rfl
theorem k_1_5 : (Jvm.Cond.initialized "EarFerry$Sightings") ∈ WB := wb_1 (List.mem_of_getElem? (i := 5) rfl) rfl
theorem k_1_6 : (Jvm.Cond.initialized "EarFerryModel") ∈ WB := wb_1 (List.mem_of_getElem? (i := 6) rfl) rfl
theorem k_1_7 : (Jvm.Cond.initialized "java/lang/Math") ∈ WB := wb_1 (List.mem_of_getElem? (i := 7) rfl) rfl
theorem k_1_8 : (Jvm.Cond.initialized "java/lang/Integer") ∈ WB := wb_1 (List.mem_of_getElem? (i := 8) rfl) rfl
theorem k_1_9 : (Jvm.Cond.classLink "EarFerryLaw" (7 : Nat) "EarFerry") ∈ WB := wb_1 (List.mem_of_getElem? (i := 9) rfl) rfl
theorem k_1_10 : (Jvm.Cond.instantiable "EarFerry" (12 : Nat)) ∈ WB := wb_1 (List.mem_of_getElem? (i := 10) rfl) rfl
theorem k_1_11 : (Jvm.Cond.methodLink "EarFerryLaw" (9 : Nat) ({ cls := "EarFerry", name := "<init>", desc := "()V" } : Jvm.MethodName)) ∈ WB := wb_1 (List.mem_of_getElem? (i := 11) rfl) rfl
theorem k_1_12 : (Jvm.Cond.instanceMethod ({ cls := "EarFerry", name := "<init>", desc := "()V" } : Jvm.MethodName)) ∈ WB := wb_1 (List.mem_of_getElem? (i := 12) rfl) rfl
theorem k_1_13 : (Jvm.Cond.code ({ cls := "EarFerry", name := "<init>", desc := "()V" } : Jvm.MethodName) prog_1_method_1_code (1 : Nat) (Option.none : Option Jvm.ClassFile.FieldType)) ∈ WB := wb_1 (List.mem_of_getElem? (i := 13) rfl) rfl
theorem k_1_14 : (Jvm.Cond.methodLink "EarFerry" (1 : Nat) ({ cls := "java/lang/Object", name := "<init>", desc := "()V" } : Jvm.MethodName)) ∈ WB := wb_1 (List.mem_of_getElem? (i := 14) rfl) rfl
theorem k_1_15 : (Jvm.Cond.instanceMethod ({ cls := "java/lang/Object", name := "<init>", desc := "()V" } : Jvm.MethodName)) ∈ WB := wb_1 (List.mem_of_getElem? (i := 15) rfl) rfl
theorem k_1_16 : (Jvm.Cond.code ({ cls := "java/lang/Object", name := "<init>", desc := "()V" } : Jvm.MethodName) object_method_1_code (1 : Nat) (Option.none : Option Jvm.ClassFile.FieldType)) ∈ WB := wb_1 (List.mem_of_getElem? (i := 16) rfl) rfl
theorem k_1_17 : (Jvm.Cond.classLink "EarFerry" (7 : Nat) "EarFerry$Text") ∈ WB := wb_1 (List.mem_of_getElem? (i := 17) rfl) rfl
theorem k_1_18 : (Jvm.Cond.instantiable "EarFerry$Text" (2 : Nat)) ∈ WB := wb_1 (List.mem_of_getElem? (i := 18) rfl) rfl
theorem k_1_20 : (Jvm.Cond.instanceMethod ({ cls := "EarFerry$Text", name := "<init>", desc := "()V" } : Jvm.MethodName)) ∈ WB := wb_1 (List.mem_of_getElem? (i := 20) rfl) rfl
theorem k_1_21 : (Jvm.Cond.code ({ cls := "EarFerry$Text", name := "<init>", desc := "()V" } : Jvm.MethodName) prog_5_method_1_code (1 : Nat) (Option.none : Option Jvm.ClassFile.FieldType)) ∈ WB := wb_1 (List.mem_of_getElem? (i := 21) rfl) rfl
theorem k_1_22 : (Jvm.Cond.methodLink "EarFerry$Text" (3 : Nat) ({ cls := "java/lang/Object", name := "<init>", desc := "()V" } : Jvm.MethodName)) ∈ WB := wb_1 (List.mem_of_getElem? (i := 22) rfl) rfl
theorem k_1_23 : (Jvm.Cond.fieldLink "EarFerry$Text" (9 : Nat) "EarFerry$Text" "bytes" "[I") ∈ WB := wb_1 (List.mem_of_getElem? (i := 23) rfl) rfl
theorem k_1_24 : (Jvm.Cond.fieldLink "EarFerry$Text" (15 : Nat) "EarFerry$Text" "length" "I") ∈ WB := wb_1 (List.mem_of_getElem? (i := 24) rfl) rfl
theorem k_1_25 : (Jvm.Cond.fieldLink "EarFerry" (64 : Nat) "EarFerry$Text" "length" "I") ∈ WB := wb_1 (List.mem_of_getElem? (i := 25) rfl) rfl
theorem k_1_26 : (Jvm.Cond.fieldLink "EarFerry$Sounds" (31 : Nat) "EarFerry$Text" "length" "I") ∈ WB := wb_1 (List.mem_of_getElem? (i := 26) rfl) rfl
theorem k_1_27 : (Jvm.Cond.laysFinal "EarFerry$Text" "EarFerry$Text" "bytes" "[I") ∈ WB := wb_1 (List.mem_of_getElem? (i := 27) rfl) rfl
theorem k_1_29 : (Jvm.Cond.lays "EarFerry$Text" "EarFerry$Text" "length" "I") ∈ WB := wb_1 (List.mem_of_getElem? (i := 29) rfl) rfl
theorem k_1_32 : (Jvm.Cond.arrayClass Jvm.ClassFile.FieldType.int) ∈ WB := wb_1 (List.mem_of_getElem? (i := 32) rfl) rfl
theorem k_1_33 : (Jvm.Cond.classLink "EarFerry" (16 : Nat) "EarFerry$Sounds") ∈ WB := wb_1 (List.mem_of_getElem? (i := 33) rfl) rfl
theorem k_1_34 : (Jvm.Cond.instantiable "EarFerry$Sounds" (6 : Nat)) ∈ WB := wb_1 (List.mem_of_getElem? (i := 34) rfl) rfl
theorem k_1_36 : (Jvm.Cond.instanceMethod ({ cls := "EarFerry$Sounds", name := "<init>", desc := "()V" } : Jvm.MethodName)) ∈ WB := wb_1 (List.mem_of_getElem? (i := 36) rfl) rfl
theorem k_1_37 : (Jvm.Cond.code ({ cls := "EarFerry$Sounds", name := "<init>", desc := "()V" } : Jvm.MethodName) prog_4_method_1_code (1 : Nat) (Option.none : Option Jvm.ClassFile.FieldType)) ∈ WB := wb_1 (List.mem_of_getElem? (i := 37) rfl) rfl
theorem k_1_38 : (Jvm.Cond.methodLink "EarFerry$Sounds" (3 : Nat) ({ cls := "java/lang/Object", name := "<init>", desc := "()V" } : Jvm.MethodName)) ∈ WB := wb_1 (List.mem_of_getElem? (i := 38) rfl) rfl
theorem k_1_39 : (Jvm.Cond.fieldLink "EarFerry$Sounds" (9 : Nat) "EarFerry$Sounds" "cell" "[I") ∈ WB := wb_1 (List.mem_of_getElem? (i := 39) rfl) rfl
theorem k_1_40 : (Jvm.Cond.fieldLink "EarFerry" (122 : Nat) "EarFerry$Sounds" "cell" "[I") ∈ WB := wb_1 (List.mem_of_getElem? (i := 40) rfl) rfl
theorem k_1_41 : (Jvm.Cond.fieldLink "EarFerry$Sounds" (15 : Nat) "EarFerry$Sounds" "loud" "[I") ∈ WB := wb_1 (List.mem_of_getElem? (i := 41) rfl) rfl
theorem k_1_42 : (Jvm.Cond.fieldLink "EarFerry" (125 : Nat) "EarFerry$Sounds" "loud" "[I") ∈ WB := wb_1 (List.mem_of_getElem? (i := 42) rfl) rfl
theorem k_1_43 : (Jvm.Cond.fieldLink "EarFerry$Sounds" (18 : Nat) "EarFerry$Sounds" "from" "[I") ∈ WB := wb_1 (List.mem_of_getElem? (i := 43) rfl) rfl
theorem k_1_44 : (Jvm.Cond.fieldLink "EarFerry" (128 : Nat) "EarFerry$Sounds" "from" "[I") ∈ WB := wb_1 (List.mem_of_getElem? (i := 44) rfl) rfl
theorem k_1_45 : (Jvm.Cond.fieldLink "EarFerry$Sounds" (21 : Nat) "EarFerry$Sounds" "until" "[I") ∈ WB := wb_1 (List.mem_of_getElem? (i := 45) rfl) rfl
theorem k_1_46 : (Jvm.Cond.fieldLink "EarFerry" (131 : Nat) "EarFerry$Sounds" "until" "[I") ∈ WB := wb_1 (List.mem_of_getElem? (i := 46) rfl) rfl
theorem k_1_47 : (Jvm.Cond.fieldLink "EarFerry$Sounds" (24 : Nat) "EarFerry$Sounds" "kind" "[I") ∈ WB := wb_1 (List.mem_of_getElem? (i := 47) rfl) rfl
theorem k_1_48 : (Jvm.Cond.fieldLink "EarFerry" (134 : Nat) "EarFerry$Sounds" "kind" "[I") ∈ WB := wb_1 (List.mem_of_getElem? (i := 48) rfl) rfl
theorem k_1_49 : (Jvm.Cond.fieldLink "EarFerry$Sounds" (27 : Nat) "EarFerry$Sounds" "count" "I") ∈ WB := wb_1 (List.mem_of_getElem? (i := 49) rfl) rfl
theorem k_1_50 : (Jvm.Cond.fieldLink "EarFerry" (87 : Nat) "EarFerry$Sounds" "count" "I") ∈ WB := wb_1 (List.mem_of_getElem? (i := 50) rfl) rfl
theorem k_1_51 : (Jvm.Cond.laysFinal "EarFerry$Sounds" "EarFerry$Sounds" "cell" "[I") ∈ WB := wb_1 (List.mem_of_getElem? (i := 51) rfl) rfl
theorem k_1_53 : (Jvm.Cond.laysFinal "EarFerry$Sounds" "EarFerry$Sounds" "loud" "[I") ∈ WB := wb_1 (List.mem_of_getElem? (i := 53) rfl) rfl
theorem k_1_55 : (Jvm.Cond.laysFinal "EarFerry$Sounds" "EarFerry$Sounds" "from" "[I") ∈ WB := wb_1 (List.mem_of_getElem? (i := 55) rfl) rfl
theorem k_1_57 : (Jvm.Cond.laysFinal "EarFerry$Sounds" "EarFerry$Sounds" "until" "[I") ∈ WB := wb_1 (List.mem_of_getElem? (i := 57) rfl) rfl
theorem k_1_59 : (Jvm.Cond.laysFinal "EarFerry$Sounds" "EarFerry$Sounds" "kind" "[I") ∈ WB := wb_1 (List.mem_of_getElem? (i := 59) rfl) rfl
theorem k_1_61 : (Jvm.Cond.lays "EarFerry$Sounds" "EarFerry$Sounds" "count" "I") ∈ WB := wb_1 (List.mem_of_getElem? (i := 61) rfl) rfl
theorem k_1_64 : (Jvm.Cond.classLink "EarFerry" (23 : Nat) "EarFerry$Scene") ∈ WB := wb_1 (List.mem_of_getElem? (i := 64) rfl) rfl
theorem k_1_65 : (Jvm.Cond.instantiable "EarFerry$Scene" (7 : Nat)) ∈ WB := wb_1 (List.mem_of_getElem? (i := 65) rfl) rfl
theorem k_1_67 : (Jvm.Cond.instanceMethod ({ cls := "EarFerry$Scene", name := "<init>", desc := "()V" } : Jvm.MethodName)) ∈ WB := wb_1 (List.mem_of_getElem? (i := 67) rfl) rfl
theorem k_1_68 : (Jvm.Cond.code ({ cls := "EarFerry$Scene", name := "<init>", desc := "()V" } : Jvm.MethodName) prog_2_method_1_code (1 : Nat) (Option.none : Option Jvm.ClassFile.FieldType)) ∈ WB := wb_1 (List.mem_of_getElem? (i := 68) rfl) rfl
theorem k_1_69 : (Jvm.Cond.methodLink "EarFerry$Scene" (3 : Nat) ({ cls := "java/lang/Object", name := "<init>", desc := "()V" } : Jvm.MethodName)) ∈ WB := wb_1 (List.mem_of_getElem? (i := 69) rfl) rfl
theorem k_1_70 : (Jvm.Cond.fieldLink "EarFerry$Scene" (9 : Nat) "EarFerry$Scene" "ferry" "I") ∈ WB := wb_1 (List.mem_of_getElem? (i := 70) rfl) rfl
theorem k_1_71 : (Jvm.Cond.fieldLink "EarFerry" (90 : Nat) "EarFerry$Scene" "ferry" "I") ∈ WB := wb_1 (List.mem_of_getElem? (i := 71) rfl) rfl
theorem k_1_72 : (Jvm.Cond.fieldLink "EarFerry$Scene" (15 : Nat) "EarFerry$Scene" "time" "I") ∈ WB := wb_1 (List.mem_of_getElem? (i := 72) rfl) rfl
theorem k_1_73 : (Jvm.Cond.fieldLink "EarFerry" (93 : Nat) "EarFerry$Scene" "time" "I") ∈ WB := wb_1 (List.mem_of_getElem? (i := 73) rfl) rfl
theorem k_1_74 : (Jvm.Cond.fieldLink "EarFerry$Scene" (18 : Nat) "EarFerry$Scene" "hushed" "I") ∈ WB := wb_1 (List.mem_of_getElem? (i := 74) rfl) rfl
theorem k_1_75 : (Jvm.Cond.fieldLink "EarFerry" (102 : Nat) "EarFerry$Scene" "hushed" "I") ∈ WB := wb_1 (List.mem_of_getElem? (i := 75) rfl) rfl
theorem k_1_76 : (Jvm.Cond.fieldLink "EarFerry$Scene" (21 : Nat) "EarFerry$Scene" "firstHammer" "I") ∈ WB := wb_1 (List.mem_of_getElem? (i := 76) rfl) rfl
theorem k_1_77 : (Jvm.Cond.fieldLink "EarFerry" (108 : Nat) "EarFerry$Scene" "firstHammer" "I") ∈ WB := wb_1 (List.mem_of_getElem? (i := 77) rfl) rfl
theorem k_1_78 : (Jvm.Cond.fieldLink "EarFerry$Scene" (24 : Nat) "EarFerry$Scene" "secondHammer" "I") ∈ WB := wb_1 (List.mem_of_getElem? (i := 78) rfl) rfl
theorem k_1_79 : (Jvm.Cond.fieldLink "EarFerry" (114 : Nat) "EarFerry$Scene" "secondHammer" "I") ∈ WB := wb_1 (List.mem_of_getElem? (i := 79) rfl) rfl
theorem k_1_80 : (Jvm.Cond.fieldLink "EarFerry$Scene" (27 : Nat) "EarFerry$Scene" "rain" "I") ∈ WB := wb_1 (List.mem_of_getElem? (i := 80) rfl) rfl
theorem k_1_81 : (Jvm.Cond.fieldLink "EarFerry" (96 : Nat) "EarFerry$Scene" "rain" "I") ∈ WB := wb_1 (List.mem_of_getElem? (i := 81) rfl) rfl
theorem k_1_82 : (Jvm.Cond.fieldLink "EarFerry$Scene" (30 : Nat) "EarFerry$Scene" "wind" "I") ∈ WB := wb_1 (List.mem_of_getElem? (i := 82) rfl) rfl
theorem k_1_83 : (Jvm.Cond.fieldLink "EarFerry" (99 : Nat) "EarFerry$Scene" "wind" "I") ∈ WB := wb_1 (List.mem_of_getElem? (i := 83) rfl) rfl
theorem k_1_84 : (Jvm.Cond.lays "EarFerry$Scene" "EarFerry$Scene" "ferry" "I") ∈ WB := wb_1 (List.mem_of_getElem? (i := 84) rfl) rfl
theorem k_1_86 : (Jvm.Cond.lays "EarFerry$Scene" "EarFerry$Scene" "time" "I") ∈ WB := wb_1 (List.mem_of_getElem? (i := 86) rfl) rfl
theorem k_1_88 : (Jvm.Cond.lays "EarFerry$Scene" "EarFerry$Scene" "hushed" "I") ∈ WB := wb_1 (List.mem_of_getElem? (i := 88) rfl) rfl
theorem k_1_90 : (Jvm.Cond.lays "EarFerry$Scene" "EarFerry$Scene" "firstHammer" "I") ∈ WB := wb_1 (List.mem_of_getElem? (i := 90) rfl) rfl
theorem k_1_92 : (Jvm.Cond.lays "EarFerry$Scene" "EarFerry$Scene" "secondHammer" "I") ∈ WB := wb_1 (List.mem_of_getElem? (i := 92) rfl) rfl
theorem k_1_94 : (Jvm.Cond.lays "EarFerry$Scene" "EarFerry$Scene" "rain" "I") ∈ WB := wb_1 (List.mem_of_getElem? (i := 94) rfl) rfl
theorem k_1_96 : (Jvm.Cond.lays "EarFerry$Scene" "EarFerry$Scene" "wind" "I") ∈ WB := wb_1 (List.mem_of_getElem? (i := 96) rfl) rfl
theorem k_1_99 : (Jvm.Cond.classLink "EarFerry" (30 : Nat) "EarFerry$Sightings") ∈ WB := wb_1 (List.mem_of_getElem? (i := 99) rfl) rfl
theorem k_1_100 : (Jvm.Cond.instantiable "EarFerry$Sightings" (5 : Nat)) ∈ WB := wb_1 (List.mem_of_getElem? (i := 100) rfl) rfl
theorem k_1_102 : (Jvm.Cond.instanceMethod ({ cls := "EarFerry$Sightings", name := "<init>", desc := "()V" } : Jvm.MethodName)) ∈ WB := wb_1 (List.mem_of_getElem? (i := 102) rfl) rfl
theorem k_1_103 : (Jvm.Cond.code ({ cls := "EarFerry$Sightings", name := "<init>", desc := "()V" } : Jvm.MethodName) prog_3_method_1_code (1 : Nat) (Option.none : Option Jvm.ClassFile.FieldType)) ∈ WB := wb_1 (List.mem_of_getElem? (i := 103) rfl) rfl
theorem k_1_104 : (Jvm.Cond.methodLink "EarFerry$Sightings" (3 : Nat) ({ cls := "java/lang/Object", name := "<init>", desc := "()V" } : Jvm.MethodName)) ∈ WB := wb_1 (List.mem_of_getElem? (i := 104) rfl) rfl
theorem k_1_105 : (Jvm.Cond.fieldLink "EarFerry$Sightings" (9 : Nat) "EarFerry$Sightings" "sound" "[I") ∈ WB := wb_1 (List.mem_of_getElem? (i := 105) rfl) rfl
theorem k_1_106 : (Jvm.Cond.fieldLink "EarFerry" (259 : Nat) "EarFerry$Sightings" "sound" "[I") ∈ WB := wb_1 (List.mem_of_getElem? (i := 106) rfl) rfl
theorem k_1_107 : (Jvm.Cond.fieldLink "EarFerry$Sightings" (15 : Nat) "EarFerry$Sightings" "cell" "[I") ∈ WB := wb_1 (List.mem_of_getElem? (i := 107) rfl) rfl
theorem k_1_108 : (Jvm.Cond.fieldLink "EarFerry" (262 : Nat) "EarFerry$Sightings" "cell" "[I") ∈ WB := wb_1 (List.mem_of_getElem? (i := 108) rfl) rfl
theorem k_1_109 : (Jvm.Cond.fieldLink "EarFerry$Sightings" (18 : Nat) "EarFerry$Sightings" "time" "[I") ∈ WB := wb_1 (List.mem_of_getElem? (i := 109) rfl) rfl
theorem k_1_110 : (Jvm.Cond.fieldLink "EarFerry" (263 : Nat) "EarFerry$Sightings" "time" "[I") ∈ WB := wb_1 (List.mem_of_getElem? (i := 110) rfl) rfl
theorem k_1_111 : (Jvm.Cond.fieldLink "EarFerry$Sightings" (21 : Nat) "EarFerry$Sightings" "heardThere" "[Z") ∈ WB := wb_1 (List.mem_of_getElem? (i := 111) rfl) rfl
theorem k_1_112 : (Jvm.Cond.fieldLink "EarFerry" (265 : Nat) "EarFerry$Sightings" "heardThere" "[Z") ∈ WB := wb_1 (List.mem_of_getElem? (i := 112) rfl) rfl
theorem k_1_113 : (Jvm.Cond.fieldLink "EarFerry$Sightings" (25 : Nat) "EarFerry$Sightings" "count" "I") ∈ WB := wb_1 (List.mem_of_getElem? (i := 113) rfl) rfl
theorem k_1_114 : (Jvm.Cond.fieldLink "EarFerry" (117 : Nat) "EarFerry$Sightings" "count" "I") ∈ WB := wb_1 (List.mem_of_getElem? (i := 114) rfl) rfl
theorem k_1_115 : (Jvm.Cond.laysFinal "EarFerry$Sightings" "EarFerry$Sightings" "sound" "[I") ∈ WB := wb_1 (List.mem_of_getElem? (i := 115) rfl) rfl
theorem k_1_117 : (Jvm.Cond.laysFinal "EarFerry$Sightings" "EarFerry$Sightings" "cell" "[I") ∈ WB := wb_1 (List.mem_of_getElem? (i := 117) rfl) rfl
theorem k_1_119 : (Jvm.Cond.laysFinal "EarFerry$Sightings" "EarFerry$Sightings" "time" "[I") ∈ WB := wb_1 (List.mem_of_getElem? (i := 119) rfl) rfl
theorem k_1_121 : (Jvm.Cond.laysFinal "EarFerry$Sightings" "EarFerry$Sightings" "heardThere" "[Z") ∈ WB := wb_1 (List.mem_of_getElem? (i := 121) rfl) rfl
theorem k_1_123 : (Jvm.Cond.lays "EarFerry$Sightings" "EarFerry$Sightings" "count" "I") ∈ WB := wb_1 (List.mem_of_getElem? (i := 123) rfl) rfl
theorem k_1_126 : (Jvm.Cond.arrayClass Jvm.ClassFile.FieldType.boolean) ∈ WB := wb_1 (List.mem_of_getElem? (i := 126) rfl) rfl
theorem k_1_127 : (Jvm.Cond.fieldLink "EarFerry" (10 : Nat) "EarFerry" "text" "LEarFerry$Text;") ∈ WB := wb_1 (List.mem_of_getElem? (i := 127) rfl) rfl
theorem k_1_128 : (Jvm.Cond.fieldLink "EarFerry" (19 : Nat) "EarFerry" "sounds" "LEarFerry$Sounds;") ∈ WB := wb_1 (List.mem_of_getElem? (i := 128) rfl) rfl
theorem k_1_129 : (Jvm.Cond.fieldLink "EarFerry" (26 : Nat) "EarFerry" "now" "LEarFerry$Scene;") ∈ WB := wb_1 (List.mem_of_getElem? (i := 129) rfl) rfl
theorem k_1_130 : (Jvm.Cond.fieldLink "EarFerry" (33 : Nat) "EarFerry" "seen" "LEarFerry$Sightings;") ∈ WB := wb_1 (List.mem_of_getElem? (i := 130) rfl) rfl
theorem k_1_131 : (Jvm.Cond.fieldLink "EarFerry" (37 : Nat) "EarFerry" "acts" "[I") ∈ WB := wb_1 (List.mem_of_getElem? (i := 131) rfl) rfl
theorem k_1_132 : (Jvm.Cond.fieldLink "EarFerry" (41 : Nat) "EarFerry" "actCount" "I") ∈ WB := wb_1 (List.mem_of_getElem? (i := 132) rfl) rfl
theorem k_1_133 : (Jvm.Cond.fieldLink "EarFerry" (45 : Nat) "EarFerry" "slots" "[I") ∈ WB := wb_1 (List.mem_of_getElem? (i := 133) rfl) rfl
theorem k_1_134 : (Jvm.Cond.fieldLink "EarFerry" (48 : Nat) "EarFerry" "seedNow" "J") ∈ WB := wb_1 (List.mem_of_getElem? (i := 134) rfl) rfl
theorem k_1_135 : (Jvm.Cond.fieldLink "EarFerry" (52 : Nat) "EarFerry" "soundSets" "[I") ∈ WB := wb_1 (List.mem_of_getElem? (i := 135) rfl) rfl
theorem k_1_136 : (Jvm.Cond.fieldLink "EarFerry" (55 : Nat) "EarFerry" "sets" "[I") ∈ WB := wb_1 (List.mem_of_getElem? (i := 136) rfl) rfl
theorem k_1_137 : (Jvm.Cond.fieldLink "EarFerry" (58 : Nat) "EarFerry" "sureByHour" "[I") ∈ WB := wb_1 (List.mem_of_getElem? (i := 137) rfl) rfl
theorem k_1_138 : (Jvm.Cond.fieldLink "EarFerry" (61 : Nat) "EarFerry" "sureByChoice" "[I") ∈ WB := wb_1 (List.mem_of_getElem? (i := 138) rfl) rfl
theorem k_1_139 : (Jvm.Cond.laysFinal "EarFerry" "EarFerry" "text" "LEarFerry$Text;") ∈ WB := wb_1 (List.mem_of_getElem? (i := 139) rfl) rfl
theorem k_1_141 : (Jvm.Cond.laysFinal "EarFerry" "EarFerry" "sounds" "LEarFerry$Sounds;") ∈ WB := wb_1 (List.mem_of_getElem? (i := 141) rfl) rfl
theorem k_1_143 : (Jvm.Cond.laysFinal "EarFerry" "EarFerry" "now" "LEarFerry$Scene;") ∈ WB := wb_1 (List.mem_of_getElem? (i := 143) rfl) rfl
theorem k_1_145 : (Jvm.Cond.laysFinal "EarFerry" "EarFerry" "seen" "LEarFerry$Sightings;") ∈ WB := wb_1 (List.mem_of_getElem? (i := 145) rfl) rfl
theorem k_1_147 : (Jvm.Cond.laysFinal "EarFerry" "EarFerry" "acts" "[I") ∈ WB := wb_1 (List.mem_of_getElem? (i := 147) rfl) rfl
theorem k_1_149 : (Jvm.Cond.lays "EarFerry" "EarFerry" "actCount" "I") ∈ WB := wb_1 (List.mem_of_getElem? (i := 149) rfl) rfl
theorem k_1_151 : (Jvm.Cond.laysFinal "EarFerry" "EarFerry" "slots" "[I") ∈ WB := wb_1 (List.mem_of_getElem? (i := 151) rfl) rfl
theorem k_1_153 : (Jvm.Cond.lays "EarFerry" "EarFerry" "seedNow" "J") ∈ WB := wb_1 (List.mem_of_getElem? (i := 153) rfl) rfl
theorem k_1_155 : (Jvm.Cond.laysFinal "EarFerry" "EarFerry" "soundSets" "[I") ∈ WB := wb_1 (List.mem_of_getElem? (i := 155) rfl) rfl
theorem k_1_157 : (Jvm.Cond.laysFinal "EarFerry" "EarFerry" "sets" "[I") ∈ WB := wb_1 (List.mem_of_getElem? (i := 157) rfl) rfl
theorem k_1_159 : (Jvm.Cond.laysFinal "EarFerry" "EarFerry" "sureByHour" "[I") ∈ WB := wb_1 (List.mem_of_getElem? (i := 159) rfl) rfl
theorem k_1_161 : (Jvm.Cond.laysFinal "EarFerry" "EarFerry" "sureByChoice" "[I") ∈ WB := wb_1 (List.mem_of_getElem? (i := 161) rfl) rfl
theorem k_1_164 : (Jvm.Cond.methodLink "EarFerryLaw" (13 : Nat) ({ cls := "EarFerry", name := "write", desc := "(I)I" } : Jvm.MethodName)) ∈ WB := wb_1 (List.mem_of_getElem? (i := 164) rfl) rfl
theorem k_1_165 : (Jvm.Cond.instanceMethod ({ cls := "EarFerry", name := "write", desc := "(I)I" } : Jvm.MethodName)) ∈ WB := wb_1 (List.mem_of_getElem? (i := 165) rfl) rfl
theorem k_1_166 : (Jvm.Cond.selects "EarFerry" ({ cls := "EarFerry", name := "write", desc := "(I)I" } : Jvm.MethodName) ({ cls := "EarFerry", name := "write", desc := "(I)I" } : Jvm.MethodName)) ∈ WB := wb_1 (List.mem_of_getElem? (i := 166) rfl) rfl
theorem k_1_167 : (Jvm.Cond.code ({ cls := "EarFerry", name := "write", desc := "(I)I" } : Jvm.MethodName) prog_1_method_2_code (2 : Nat) (Option.some Jvm.ClassFile.FieldType.int)) ∈ WB := wb_1 (List.mem_of_getElem? (i := 167) rfl) rfl
theorem k_1_168 : (Jvm.Cond.methodLink "EarFerry" (67 : Nat) ({ cls := "EarFerry$Text", name := "add", desc := "(I)V" } : Jvm.MethodName)) ∈ WB := wb_1 (List.mem_of_getElem? (i := 168) rfl) rfl
theorem k_1_169 : (Jvm.Cond.instanceMethod ({ cls := "EarFerry$Text", name := "add", desc := "(I)V" } : Jvm.MethodName)) ∈ WB := wb_1 (List.mem_of_getElem? (i := 169) rfl) rfl
theorem k_1_170 : (Jvm.Cond.selects "EarFerry$Text" ({ cls := "EarFerry$Text", name := "add", desc := "(I)V" } : Jvm.MethodName) ({ cls := "EarFerry$Text", name := "add", desc := "(I)V" } : Jvm.MethodName)) ∈ WB := wb_1 (List.mem_of_getElem? (i := 170) rfl) rfl
theorem k_1_171 : (Jvm.Cond.code ({ cls := "EarFerry$Text", name := "add", desc := "(I)V" } : Jvm.MethodName) prog_5_method_2_code (2 : Nat) (Option.none : Option Jvm.ClassFile.FieldType)) ∈ WB := wb_1 (List.mem_of_getElem? (i := 171) rfl) rfl
theorem k_1_172 : (Jvm.Cond.methodLink "EarFerryLaw" (18 : Nat) ({ cls := "EarFerry", name := "wipe", desc := "()I" } : Jvm.MethodName)) ∈ WB := wb_1 (List.mem_of_getElem? (i := 172) rfl) rfl
theorem k_1_173 : (Jvm.Cond.instanceMethod ({ cls := "EarFerry", name := "wipe", desc := "()I" } : Jvm.MethodName)) ∈ WB := wb_1 (List.mem_of_getElem? (i := 173) rfl) rfl
theorem k_1_174 : (Jvm.Cond.selects "EarFerry" ({ cls := "EarFerry", name := "wipe", desc := "()I" } : Jvm.MethodName) ({ cls := "EarFerry", name := "wipe", desc := "()I" } : Jvm.MethodName)) ∈ WB := wb_1 (List.mem_of_getElem? (i := 174) rfl) rfl
theorem k_1_175 : (Jvm.Cond.code ({ cls := "EarFerry", name := "wipe", desc := "()I" } : Jvm.MethodName) prog_1_method_3_code (2 : Nat) (Option.some Jvm.ClassFile.FieldType.int)) ∈ WB := wb_1 (List.mem_of_getElem? (i := 175) rfl) rfl
theorem k_1_176 : (Jvm.Cond.methodLink "EarFerryLaw" (23 : Nat) ({ cls := "EarFerry", name := "fault", desc := "()I" } : Jvm.MethodName)) ∈ WB := wb_1 (List.mem_of_getElem? (i := 176) rfl) rfl
theorem k_1_177 : (Jvm.Cond.instanceMethod ({ cls := "EarFerry", name := "fault", desc := "()I" } : Jvm.MethodName)) ∈ WB := wb_1 (List.mem_of_getElem? (i := 177) rfl) rfl
theorem k_1_178 : (Jvm.Cond.selects "EarFerry" ({ cls := "EarFerry", name := "fault", desc := "()I" } : Jvm.MethodName) ({ cls := "EarFerry", name := "fault", desc := "()I" } : Jvm.MethodName)) ∈ WB := wb_1 (List.mem_of_getElem? (i := 178) rfl) rfl
theorem k_1_179 : (Jvm.Cond.code ({ cls := "EarFerry", name := "fault", desc := "()I" } : Jvm.MethodName) prog_1_method_4_code (1 : Nat) (Option.some Jvm.ClassFile.FieldType.int)) ∈ WB := wb_1 (List.mem_of_getElem? (i := 179) rfl) rfl
theorem k_1_180 : (Jvm.Cond.methodLink "EarFerry" (71 : Nat) ({ cls := "EarFerry$Text", name := "firstFault", desc := "()I" } : Jvm.MethodName)) ∈ WB := wb_1 (List.mem_of_getElem? (i := 180) rfl) rfl
theorem k_1_181 : (Jvm.Cond.instanceMethod ({ cls := "EarFerry$Text", name := "firstFault", desc := "()I" } : Jvm.MethodName)) ∈ WB := wb_1 (List.mem_of_getElem? (i := 181) rfl) rfl
theorem k_1_182 : (Jvm.Cond.selects "EarFerry$Text" ({ cls := "EarFerry$Text", name := "firstFault", desc := "()I" } : Jvm.MethodName) ({ cls := "EarFerry$Text", name := "firstFault", desc := "()I" } : Jvm.MethodName)) ∈ WB := wb_1 (List.mem_of_getElem? (i := 182) rfl) rfl
theorem k_1_183 : (Jvm.Cond.code ({ cls := "EarFerry$Text", name := "firstFault", desc := "()I" } : Jvm.MethodName) prog_5_method_4_code (2 : Nat) (Option.some Jvm.ClassFile.FieldType.int)) ∈ WB := wb_1 (List.mem_of_getElem? (i := 183) rfl) rfl
theorem k_1_184 : (Jvm.Cond.methodLink "EarFerry$Text" (19 : Nat) ({ cls := "EarFerry$Text", name := "fits", desc := "(I)Z" } : Jvm.MethodName)) ∈ WB := wb_1 (List.mem_of_getElem? (i := 184) rfl) rfl
theorem k_1_186 : (Jvm.Cond.instanceMethod ({ cls := "EarFerry$Text", name := "fits", desc := "(I)Z" } : Jvm.MethodName)) ∈ WB := wb_1 (List.mem_of_getElem? (i := 186) rfl) rfl
theorem k_1_187 : (Jvm.Cond.code ({ cls := "EarFerry$Text", name := "fits", desc := "(I)Z" } : Jvm.MethodName) prog_5_method_5_code (2 : Nat) (Option.some Jvm.ClassFile.FieldType.boolean)) ∈ WB := wb_1 (List.mem_of_getElem? (i := 187) rfl) rfl
theorem k_1_188 : (Jvm.Cond.methodLink "EarFerry$Text" (23 : Nat) ({ cls := "EarFerry$Text", name := "fitsHead", desc := "(I)Z" } : Jvm.MethodName)) ∈ WB := wb_1 (List.mem_of_getElem? (i := 188) rfl) rfl
theorem k_1_190 : (Jvm.Cond.instanceMethod ({ cls := "EarFerry$Text", name := "fitsHead", desc := "(I)Z" } : Jvm.MethodName)) ∈ WB := wb_1 (List.mem_of_getElem? (i := 190) rfl) rfl
theorem k_1_191 : (Jvm.Cond.code ({ cls := "EarFerry$Text", name := "fitsHead", desc := "(I)Z" } : Jvm.MethodName) prog_5_method_6_code (2 : Nat) (Option.some Jvm.ClassFile.FieldType.boolean)) ∈ WB := wb_1 (List.mem_of_getElem? (i := 191) rfl) rfl
theorem k_1_192 : (Jvm.Cond.methodLink "EarFerry$Text" (29 : Nat) ({ cls := "EarFerry$Text", name := "isDigit", desc := "(III)Z" } : Jvm.MethodName)) ∈ WB := wb_1 (List.mem_of_getElem? (i := 192) rfl) rfl
theorem k_1_194 : (Jvm.Cond.instanceMethod ({ cls := "EarFerry$Text", name := "isDigit", desc := "(III)Z" } : Jvm.MethodName)) ∈ WB := wb_1 (List.mem_of_getElem? (i := 194) rfl) rfl
theorem k_1_195 : (Jvm.Cond.code ({ cls := "EarFerry$Text", name := "isDigit", desc := "(III)Z" } : Jvm.MethodName) prog_5_method_8_code (5 : Nat) (Option.some Jvm.ClassFile.FieldType.boolean)) ∈ WB := wb_1 (List.mem_of_getElem? (i := 195) rfl) rfl
theorem k_1_196 : (Jvm.Cond.methodLink "EarFerry$Text" (33 : Nat) ({ cls := "EarFerry$Text", name := "digit", desc := "(I)I" } : Jvm.MethodName)) ∈ WB := wb_1 (List.mem_of_getElem? (i := 196) rfl) rfl
theorem k_1_197 : (Jvm.Cond.instanceMethod ({ cls := "EarFerry$Text", name := "digit", desc := "(I)I" } : Jvm.MethodName)) ∈ WB := wb_1 (List.mem_of_getElem? (i := 197) rfl) rfl
theorem k_1_198 : (Jvm.Cond.selects "EarFerry$Text" ({ cls := "EarFerry$Text", name := "digit", desc := "(I)I" } : Jvm.MethodName) ({ cls := "EarFerry$Text", name := "digit", desc := "(I)I" } : Jvm.MethodName)) ∈ WB := wb_1 (List.mem_of_getElem? (i := 198) rfl) rfl
theorem k_1_199 : (Jvm.Cond.code ({ cls := "EarFerry$Text", name := "digit", desc := "(I)I" } : Jvm.MethodName) prog_5_method_3_code (2 : Nat) (Option.some Jvm.ClassFile.FieldType.int)) ∈ WB := wb_1 (List.mem_of_getElem? (i := 199) rfl) rfl
theorem k_1_200 : (Jvm.Cond.methodLink "EarFerry$Text" (26 : Nat) ({ cls := "EarFerry$Text", name := "fitsPart", desc := "(I)Z" } : Jvm.MethodName)) ∈ WB := wb_1 (List.mem_of_getElem? (i := 200) rfl) rfl
theorem k_1_202 : (Jvm.Cond.instanceMethod ({ cls := "EarFerry$Text", name := "fitsPart", desc := "(I)Z" } : Jvm.MethodName)) ∈ WB := wb_1 (List.mem_of_getElem? (i := 202) rfl) rfl
theorem k_1_203 : (Jvm.Cond.code ({ cls := "EarFerry$Text", name := "fitsPart", desc := "(I)Z" } : Jvm.MethodName) prog_5_method_7_code (2 : Nat) (Option.some Jvm.ClassFile.FieldType.boolean)) ∈ WB := wb_1 (List.mem_of_getElem? (i := 203) rfl) rfl
theorem k_1_204 : (Jvm.Cond.methodLink "EarFerryLaw" (27 : Nat) ({ cls := "EarFerry", name := "river", desc := "()I" } : Jvm.MethodName)) ∈ WB := wb_1 (List.mem_of_getElem? (i := 204) rfl) rfl
theorem k_1_205 : (Jvm.Cond.instanceMethod ({ cls := "EarFerry", name := "river", desc := "()I" } : Jvm.MethodName)) ∈ WB := wb_1 (List.mem_of_getElem? (i := 205) rfl) rfl
theorem k_1_206 : (Jvm.Cond.selects "EarFerry" ({ cls := "EarFerry", name := "river", desc := "()I" } : Jvm.MethodName) ({ cls := "EarFerry", name := "river", desc := "()I" } : Jvm.MethodName)) ∈ WB := wb_1 (List.mem_of_getElem? (i := 206) rfl) rfl
theorem k_1_207 : (Jvm.Cond.code ({ cls := "EarFerry", name := "river", desc := "()I" } : Jvm.MethodName) prog_1_method_5_code (1 : Nat) (Option.some Jvm.ClassFile.FieldType.int)) ∈ WB := wb_1 (List.mem_of_getElem? (i := 207) rfl) rfl
theorem k_1_208 : (Jvm.Cond.methodLink "EarFerry" (75 : Nat) ({ cls := "EarFerry$Sounds", name := "take", desc := "(LEarFerry$Text;)V" } : Jvm.MethodName)) ∈ WB := wb_1 (List.mem_of_getElem? (i := 208) rfl) rfl
theorem k_1_209 : (Jvm.Cond.instanceMethod ({ cls := "EarFerry$Sounds", name := "take", desc := "(LEarFerry$Text;)V" } : Jvm.MethodName)) ∈ WB := wb_1 (List.mem_of_getElem? (i := 209) rfl) rfl
theorem k_1_210 : (Jvm.Cond.selects "EarFerry$Sounds" ({ cls := "EarFerry$Sounds", name := "take", desc := "(LEarFerry$Text;)V" } : Jvm.MethodName) ({ cls := "EarFerry$Sounds", name := "take", desc := "(LEarFerry$Text;)V" } : Jvm.MethodName)) ∈ WB := wb_1 (List.mem_of_getElem? (i := 210) rfl) rfl
theorem k_1_211 : (Jvm.Cond.code ({ cls := "EarFerry$Sounds", name := "take", desc := "(LEarFerry$Text;)V" } : Jvm.MethodName) prog_4_method_3_code (4 : Nat) (Option.none : Option Jvm.ClassFile.FieldType)) ∈ WB := wb_1 (List.mem_of_getElem? (i := 211) rfl) rfl
theorem k_1_212 : (Jvm.Cond.methodLink "EarFerry$Sounds" (36 : Nat) ({ cls := "java/lang/Math", name := "max", desc := "(II)I" } : Jvm.MethodName)) ∈ WB := wb_1 (List.mem_of_getElem? (i := 212) rfl) rfl
theorem k_1_213 : (Jvm.Cond.static ({ cls := "java/lang/Math", name := "max", desc := "(II)I" } : Jvm.MethodName)) ∈ WB := wb_1 (List.mem_of_getElem? (i := 213) rfl) rfl
theorem k_1_214 : (Jvm.Cond.code ({ cls := "java/lang/Math", name := "max", desc := "(II)I" } : Jvm.MethodName) prog_9_method_65_code (2 : Nat) (Option.some Jvm.ClassFile.FieldType.int)) ∈ WB := wb_1 (List.mem_of_getElem? (i := 214) rfl) rfl
theorem k_1_215 : (Jvm.Cond.methodLink "EarFerry$Sounds" (42 : Nat) ({ cls := "java/lang/Math", name := "min", desc := "(II)I" } : Jvm.MethodName)) ∈ WB := wb_1 (List.mem_of_getElem? (i := 215) rfl) rfl
theorem k_1_216 : (Jvm.Cond.static ({ cls := "java/lang/Math", name := "min", desc := "(II)I" } : Jvm.MethodName)) ∈ WB := wb_1 (List.mem_of_getElem? (i := 216) rfl) rfl
theorem k_1_217 : (Jvm.Cond.code ({ cls := "java/lang/Math", name := "min", desc := "(II)I" } : Jvm.MethodName) prog_9_method_69_code (2 : Nat) (Option.some Jvm.ClassFile.FieldType.int)) ∈ WB := wb_1 (List.mem_of_getElem? (i := 217) rfl) rfl
theorem k_1_218 : (Jvm.Cond.methodLink "EarFerry$Sounds" (45 : Nat) ({ cls := "EarFerry$Text", name := "digit", desc := "(I)I" } : Jvm.MethodName)) ∈ WB := wb_1 (List.mem_of_getElem? (i := 218) rfl) rfl
theorem k_1_219 : (Jvm.Cond.methodLink "EarFerry" (79 : Nat) ({ cls := "EarFerry$Text", name := "digit", desc := "(I)I" } : Jvm.MethodName)) ∈ WB := wb_1 (List.mem_of_getElem? (i := 219) rfl) rfl
theorem k_1_220 : (Jvm.Cond.methodLink "EarFerry" (83 : Nat) ({ cls := "EarFerry$Scene", name := "begin", desc := "(III)V" } : Jvm.MethodName)) ∈ WB := wb_1 (List.mem_of_getElem? (i := 220) rfl) rfl
theorem k_1_221 : (Jvm.Cond.instanceMethod ({ cls := "EarFerry$Scene", name := "begin", desc := "(III)V" } : Jvm.MethodName)) ∈ WB := wb_1 (List.mem_of_getElem? (i := 221) rfl) rfl
theorem k_1_222 : (Jvm.Cond.selects "EarFerry$Scene" ({ cls := "EarFerry$Scene", name := "begin", desc := "(III)V" } : Jvm.MethodName) ({ cls := "EarFerry$Scene", name := "begin", desc := "(III)V" } : Jvm.MethodName)) ∈ WB := wb_1 (List.mem_of_getElem? (i := 222) rfl) rfl
theorem k_1_223 : (Jvm.Cond.code ({ cls := "EarFerry$Scene", name := "begin", desc := "(III)V" } : Jvm.MethodName) prog_2_method_2_code (4 : Nat) (Option.none : Option Jvm.ClassFile.FieldType)) ∈ WB := wb_1 (List.mem_of_getElem? (i := 223) rfl) rfl
theorem k_1_224 : (Jvm.Cond.methodLink "EarFerryLaw" (31 : Nat) ({ cls := "EarFerry", name := "about", desc := "(I)I" } : Jvm.MethodName)) ∈ WB := wb_1 (List.mem_of_getElem? (i := 224) rfl) rfl
theorem k_1_225 : (Jvm.Cond.instanceMethod ({ cls := "EarFerry", name := "about", desc := "(I)I" } : Jvm.MethodName)) ∈ WB := wb_1 (List.mem_of_getElem? (i := 225) rfl) rfl
theorem k_1_226 : (Jvm.Cond.selects "EarFerry" ({ cls := "EarFerry", name := "about", desc := "(I)I" } : Jvm.MethodName) ({ cls := "EarFerry", name := "about", desc := "(I)I" } : Jvm.MethodName)) ∈ WB := wb_1 (List.mem_of_getElem? (i := 226) rfl) rfl
theorem k_1_227 : (Jvm.Cond.code ({ cls := "EarFerry", name := "about", desc := "(I)I" } : Jvm.MethodName) prog_1_method_6_code (2 : Nat) (Option.some Jvm.ClassFile.FieldType.int)) ∈ WB := wb_1 (List.mem_of_getElem? (i := 227) rfl) rfl
theorem k_1_228 : (Jvm.Cond.methodLink "EarFerry" (105 : Nat) ({ cls := "EarFerry$Scene", name := "hammerCount", desc := "()I" } : Jvm.MethodName)) ∈ WB := wb_1 (List.mem_of_getElem? (i := 228) rfl) rfl
theorem k_1_229 : (Jvm.Cond.instanceMethod ({ cls := "EarFerry$Scene", name := "hammerCount", desc := "()I" } : Jvm.MethodName)) ∈ WB := wb_1 (List.mem_of_getElem? (i := 229) rfl) rfl
theorem k_1_230 : (Jvm.Cond.selects "EarFerry$Scene" ({ cls := "EarFerry$Scene", name := "hammerCount", desc := "()I" } : Jvm.MethodName) ({ cls := "EarFerry$Scene", name := "hammerCount", desc := "()I" } : Jvm.MethodName)) ∈ WB := wb_1 (List.mem_of_getElem? (i := 230) rfl) rfl
theorem k_1_231 : (Jvm.Cond.code ({ cls := "EarFerry$Scene", name := "hammerCount", desc := "()I" } : Jvm.MethodName) prog_2_method_3_code (1 : Nat) (Option.some Jvm.ClassFile.FieldType.int)) ∈ WB := wb_1 (List.mem_of_getElem? (i := 231) rfl) rfl
theorem k_1_232 : (Jvm.Cond.methodLink "EarFerry" (111 : Nat) ({ cls := "EarFerry", name := "toldCell", desc := "(I)I" } : Jvm.MethodName)) ∈ WB := wb_1 (List.mem_of_getElem? (i := 232) rfl) rfl
theorem k_1_233 : (Jvm.Cond.static ({ cls := "EarFerry", name := "toldCell", desc := "(I)I" } : Jvm.MethodName)) ∈ WB := wb_1 (List.mem_of_getElem? (i := 233) rfl) rfl
theorem k_1_234 : (Jvm.Cond.code ({ cls := "EarFerry", name := "toldCell", desc := "(I)I" } : Jvm.MethodName) prog_1_method_37_code (1 : Nat) (Option.some Jvm.ClassFile.FieldType.int)) ∈ WB := wb_1 (List.mem_of_getElem? (i := 234) rfl) rfl
theorem k_1_235 : (Jvm.Cond.methodLink "EarFerryLaw" (35 : Nat) ({ cls := "EarFerry", name := "sound", desc := "(II)I" } : Jvm.MethodName)) ∈ WB := wb_1 (List.mem_of_getElem? (i := 235) rfl) rfl
theorem k_1_236 : (Jvm.Cond.instanceMethod ({ cls := "EarFerry", name := "sound", desc := "(II)I" } : Jvm.MethodName)) ∈ WB := wb_1 (List.mem_of_getElem? (i := 236) rfl) rfl
theorem k_1_237 : (Jvm.Cond.selects "EarFerry" ({ cls := "EarFerry", name := "sound", desc := "(II)I" } : Jvm.MethodName) ({ cls := "EarFerry", name := "sound", desc := "(II)I" } : Jvm.MethodName)) ∈ WB := wb_1 (List.mem_of_getElem? (i := 237) rfl) rfl
theorem k_1_238 : (Jvm.Cond.code ({ cls := "EarFerry", name := "sound", desc := "(II)I" } : Jvm.MethodName) prog_1_method_7_code (3 : Nat) (Option.some Jvm.ClassFile.FieldType.int)) ∈ WB := wb_1 (List.mem_of_getElem? (i := 238) rfl) rfl
theorem k_1_239 : (Jvm.Cond.methodLink "EarFerry" (118 : Nat) ({ cls := "EarFerry$Sounds", name := "has", desc := "(I)Z" } : Jvm.MethodName)) ∈ WB := wb_1 (List.mem_of_getElem? (i := 239) rfl) rfl
theorem k_2_0 : (Jvm.Cond.instanceMethod ({ cls := "EarFerry$Sounds", name := "has", desc := "(I)Z" } : Jvm.MethodName)) ∈ WB := wb_2 (List.mem_of_getElem? (i := 0) rfl) rfl
theorem k_2_1 : (Jvm.Cond.selects "EarFerry$Sounds" ({ cls := "EarFerry$Sounds", name := "has", desc := "(I)Z" } : Jvm.MethodName) ({ cls := "EarFerry$Sounds", name := "has", desc := "(I)Z" } : Jvm.MethodName)) ∈ WB := wb_2 (List.mem_of_getElem? (i := 1) rfl) rfl
theorem k_2_2 : (Jvm.Cond.code ({ cls := "EarFerry$Sounds", name := "has", desc := "(I)Z" } : Jvm.MethodName) prog_4_method_2_code (2 : Nat) (Option.some Jvm.ClassFile.FieldType.boolean)) ∈ WB := wb_2 (List.mem_of_getElem? (i := 2) rfl) rfl
theorem k_2_3 : (Jvm.Cond.methodLink "EarFerry" (137 : Nat) ({ cls := "EarFerry", name := "cellsThatHear", desc := "(I)I" } : Jvm.MethodName)) ∈ WB := wb_2 (List.mem_of_getElem? (i := 3) rfl) rfl
theorem k_2_5 : (Jvm.Cond.instanceMethod ({ cls := "EarFerry", name := "cellsThatHear", desc := "(I)I" } : Jvm.MethodName)) ∈ WB := wb_2 (List.mem_of_getElem? (i := 5) rfl) rfl
theorem k_2_6 : (Jvm.Cond.code ({ cls := "EarFerry", name := "cellsThatHear", desc := "(I)I" } : Jvm.MethodName) prog_1_method_42_code (4 : Nat) (Option.some Jvm.ClassFile.FieldType.int)) ∈ WB := wb_2 (List.mem_of_getElem? (i := 6) rfl) rfl
theorem k_2_7 : (Jvm.Cond.methodLink "EarFerry" (242 : Nat) ({ cls := "EarFerry", name := "isHeard", desc := "(IIIII)Z" } : Jvm.MethodName)) ∈ WB := wb_2 (List.mem_of_getElem? (i := 7) rfl) rfl
theorem k_2_9 : (Jvm.Cond.instanceMethod ({ cls := "EarFerry", name := "isHeard", desc := "(IIIII)Z" } : Jvm.MethodName)) ∈ WB := wb_2 (List.mem_of_getElem? (i := 9) rfl) rfl
theorem k_2_10 : (Jvm.Cond.code ({ cls := "EarFerry", name := "isHeard", desc := "(IIIII)Z" } : Jvm.MethodName) prog_1_method_41_code (6 : Nat) (Option.some Jvm.ClassFile.FieldType.boolean)) ∈ WB := wb_2 (List.mem_of_getElem? (i := 10) rfl) rfl
theorem k_2_11 : (Jvm.Cond.methodLink "EarFerry" (238 : Nat) ({ cls := "EarFerry$Sounds", name := "carries", desc := "(IIIII)Z" } : Jvm.MethodName)) ∈ WB := wb_2 (List.mem_of_getElem? (i := 11) rfl) rfl
theorem k_2_12 : (Jvm.Cond.instanceMethod ({ cls := "EarFerry$Sounds", name := "carries", desc := "(IIIII)Z" } : Jvm.MethodName)) ∈ WB := wb_2 (List.mem_of_getElem? (i := 12) rfl) rfl
theorem k_2_13 : (Jvm.Cond.selects "EarFerry$Sounds" ({ cls := "EarFerry$Sounds", name := "carries", desc := "(IIIII)Z" } : Jvm.MethodName) ({ cls := "EarFerry$Sounds", name := "carries", desc := "(IIIII)Z" } : Jvm.MethodName)) ∈ WB := wb_2 (List.mem_of_getElem? (i := 13) rfl) rfl
theorem k_2_14 : (Jvm.Cond.code ({ cls := "EarFerry$Sounds", name := "carries", desc := "(IIIII)Z" } : Jvm.MethodName) prog_4_method_4_code (6 : Nat) (Option.some Jvm.ClassFile.FieldType.boolean)) ∈ WB := wb_2 (List.mem_of_getElem? (i := 14) rfl) rfl
theorem k_2_15 : (Jvm.Cond.methodLink "EarFerry$Sounds" (49 : Nat) ({ cls := "EarFerry$Sounds", name := "has", desc := "(I)Z" } : Jvm.MethodName)) ∈ WB := wb_2 (List.mem_of_getElem? (i := 15) rfl) rfl
theorem k_2_17 : (Jvm.Cond.static ({ cls := "EarFerry", name := "reaches", desc := "(IIIIII)Z" } : Jvm.MethodName)) ∈ WB := wb_2 (List.mem_of_getElem? (i := 17) rfl) rfl
theorem k_2_18 : (Jvm.Cond.code ({ cls := "EarFerry", name := "reaches", desc := "(IIIIII)Z" } : Jvm.MethodName) prog_1_method_39_code (8 : Nat) (Option.some Jvm.ClassFile.FieldType.boolean)) ∈ WB := wb_2 (List.mem_of_getElem? (i := 18) rfl) rfl
theorem k_2_19 : (Jvm.Cond.methodLink "EarFerry" (233 : Nat) ({ cls := "java/lang/Math", name := "abs", desc := "(I)I" } : Jvm.MethodName)) ∈ WB := wb_2 (List.mem_of_getElem? (i := 19) rfl) rfl
theorem k_2_20 : (Jvm.Cond.static ({ cls := "java/lang/Math", name := "abs", desc := "(I)I" } : Jvm.MethodName)) ∈ WB := wb_2 (List.mem_of_getElem? (i := 20) rfl) rfl
theorem k_2_21 : (Jvm.Cond.code ({ cls := "java/lang/Math", name := "abs", desc := "(I)I" } : Jvm.MethodName) prog_9_method_59_code (1 : Nat) (Option.some Jvm.ClassFile.FieldType.int)) ∈ WB := wb_2 (List.mem_of_getElem? (i := 21) rfl) rfl
theorem k_2_22 : (Jvm.Cond.methodLink "EarFerryLaw" (40 : Nat) ({ cls := "EarFerry", name := "row", desc := "(I)I" } : Jvm.MethodName)) ∈ WB := wb_2 (List.mem_of_getElem? (i := 22) rfl) rfl
theorem k_2_23 : (Jvm.Cond.instanceMethod ({ cls := "EarFerry", name := "row", desc := "(I)I" } : Jvm.MethodName)) ∈ WB := wb_2 (List.mem_of_getElem? (i := 23) rfl) rfl
theorem k_2_24 : (Jvm.Cond.selects "EarFerry" ({ cls := "EarFerry", name := "row", desc := "(I)I" } : Jvm.MethodName) ({ cls := "EarFerry", name := "row", desc := "(I)I" } : Jvm.MethodName)) ∈ WB := wb_2 (List.mem_of_getElem? (i := 24) rfl) rfl
theorem k_2_25 : (Jvm.Cond.code ({ cls := "EarFerry", name := "row", desc := "(I)I" } : Jvm.MethodName) prog_1_method_8_code (3 : Nat) (Option.some Jvm.ClassFile.FieldType.int)) ∈ WB := wb_2 (List.mem_of_getElem? (i := 25) rfl) rfl
theorem k_2_26 : (Jvm.Cond.methodLink "EarFerry" (140 : Nat) ({ cls := "EarFerry", name := "isCell", desc := "(I)Z" } : Jvm.MethodName)) ∈ WB := wb_2 (List.mem_of_getElem? (i := 26) rfl) rfl
theorem k_2_27 : (Jvm.Cond.static ({ cls := "EarFerry", name := "isCell", desc := "(I)Z" } : Jvm.MethodName)) ∈ WB := wb_2 (List.mem_of_getElem? (i := 27) rfl) rfl
theorem k_2_28 : (Jvm.Cond.code ({ cls := "EarFerry", name := "isCell", desc := "(I)Z" } : Jvm.MethodName) prog_1_method_32_code (1 : Nat) (Option.some Jvm.ClassFile.FieldType.boolean)) ∈ WB := wb_2 (List.mem_of_getElem? (i := 28) rfl) rfl
theorem k_2_29 : (Jvm.Cond.methodLink "EarFerry" (143 : Nat) ({ cls := "EarFerry", name := "rememberAct", desc := "()V" } : Jvm.MethodName)) ∈ WB := wb_2 (List.mem_of_getElem? (i := 29) rfl) rfl
theorem k_2_31 : (Jvm.Cond.instanceMethod ({ cls := "EarFerry", name := "rememberAct", desc := "()V" } : Jvm.MethodName)) ∈ WB := wb_2 (List.mem_of_getElem? (i := 31) rfl) rfl
theorem k_2_32 : (Jvm.Cond.code ({ cls := "EarFerry", name := "rememberAct", desc := "()V" } : Jvm.MethodName) prog_1_method_38_code (2 : Nat) (Option.none : Option Jvm.ClassFile.FieldType)) ∈ WB := wb_2 (List.mem_of_getElem? (i := 32) rfl) rfl
theorem k_2_33 : (Jvm.Cond.methodLink "EarFerry" (230 : Nat) ({ cls := "EarFerry$Scene", name := "packed", desc := "()I" } : Jvm.MethodName)) ∈ WB := wb_2 (List.mem_of_getElem? (i := 33) rfl) rfl
theorem k_2_34 : (Jvm.Cond.instanceMethod ({ cls := "EarFerry$Scene", name := "packed", desc := "()I" } : Jvm.MethodName)) ∈ WB := wb_2 (List.mem_of_getElem? (i := 34) rfl) rfl
theorem k_2_35 : (Jvm.Cond.selects "EarFerry$Scene" ({ cls := "EarFerry$Scene", name := "packed", desc := "()I" } : Jvm.MethodName) ({ cls := "EarFerry$Scene", name := "packed", desc := "()I" } : Jvm.MethodName)) ∈ WB := wb_2 (List.mem_of_getElem? (i := 35) rfl) rfl
theorem k_2_36 : (Jvm.Cond.code ({ cls := "EarFerry$Scene", name := "packed", desc := "()I" } : Jvm.MethodName) prog_2_method_6_code (1 : Nat) (Option.some Jvm.ClassFile.FieldType.int)) ∈ WB := wb_2 (List.mem_of_getElem? (i := 36) rfl) rfl
theorem k_2_37 : (Jvm.Cond.methodLink "EarFerry" (146 : Nat) ({ cls := "EarFerry", name := "setNow", desc := "(II)I" } : Jvm.MethodName)) ∈ WB := wb_2 (List.mem_of_getElem? (i := 37) rfl) rfl
theorem k_2_39 : (Jvm.Cond.instanceMethod ({ cls := "EarFerry", name := "setNow", desc := "(II)I" } : Jvm.MethodName)) ∈ WB := wb_2 (List.mem_of_getElem? (i := 39) rfl) rfl
theorem k_2_40 : (Jvm.Cond.code ({ cls := "EarFerry", name := "setNow", desc := "(II)I" } : Jvm.MethodName) prog_1_method_45_code (3 : Nat) (Option.some Jvm.ClassFile.FieldType.int)) ∈ WB := wb_2 (List.mem_of_getElem? (i := 40) rfl) rfl
theorem k_2_41 : (Jvm.Cond.methodLink "EarFerry" (245 : Nat) ({ cls := "EarFerry", name := "soundSet", desc := "(II)I" } : Jvm.MethodName)) ∈ WB := wb_2 (List.mem_of_getElem? (i := 41) rfl) rfl
theorem k_2_43 : (Jvm.Cond.instanceMethod ({ cls := "EarFerry", name := "soundSet", desc := "(II)I" } : Jvm.MethodName)) ∈ WB := wb_2 (List.mem_of_getElem? (i := 43) rfl) rfl
theorem k_2_44 : (Jvm.Cond.code ({ cls := "EarFerry", name := "soundSet", desc := "(II)I" } : Jvm.MethodName) prog_1_method_43_code (7 : Nat) (Option.some Jvm.ClassFile.FieldType.int)) ∈ WB := wb_2 (List.mem_of_getElem? (i := 44) rfl) rfl
theorem k_2_45 : (Jvm.Cond.methodLink "EarFerry" (174 : Nat) ({ cls := "EarFerry", name := "liveSounds", desc := "()I" } : Jvm.MethodName)) ∈ WB := wb_2 (List.mem_of_getElem? (i := 45) rfl) rfl
theorem k_2_47 : (Jvm.Cond.instanceMethod ({ cls := "EarFerry", name := "liveSounds", desc := "()I" } : Jvm.MethodName)) ∈ WB := wb_2 (List.mem_of_getElem? (i := 47) rfl) rfl
theorem k_2_48 : (Jvm.Cond.code ({ cls := "EarFerry", name := "liveSounds", desc := "()I" } : Jvm.MethodName) prog_1_method_40_code (1 : Nat) (Option.some Jvm.ClassFile.FieldType.int)) ∈ WB := wb_2 (List.mem_of_getElem? (i := 48) rfl) rfl
theorem k_2_49 : (Jvm.Cond.methodLink "EarFerry" (248 : Nat) ({ cls := "EarFerry", name := "hammerSet", desc := "(III)I" } : Jvm.MethodName)) ∈ WB := wb_2 (List.mem_of_getElem? (i := 49) rfl) rfl
theorem k_2_51 : (Jvm.Cond.instanceMethod ({ cls := "EarFerry", name := "hammerSet", desc := "(III)I" } : Jvm.MethodName)) ∈ WB := wb_2 (List.mem_of_getElem? (i := 51) rfl) rfl
theorem k_2_52 : (Jvm.Cond.code ({ cls := "EarFerry", name := "hammerSet", desc := "(III)I" } : Jvm.MethodName) prog_1_method_44_code (5 : Nat) (Option.some Jvm.ClassFile.FieldType.int)) ∈ WB := wb_2 (List.mem_of_getElem? (i := 52) rfl) rfl
theorem k_2_53 : (Jvm.Cond.methodLink "EarFerry" (201 : Nat) ({ cls := "EarFerry", name := "reaches", desc := "(IIIIII)Z" } : Jvm.MethodName)) ∈ WB := wb_2 (List.mem_of_getElem? (i := 53) rfl) rfl
theorem k_2_54 : (Jvm.Cond.methodLink "EarFerryLaw" (44 : Nat) ({ cls := "EarFerry", name := "hush", desc := "(I)I" } : Jvm.MethodName)) ∈ WB := wb_2 (List.mem_of_getElem? (i := 54) rfl) rfl
theorem k_2_55 : (Jvm.Cond.instanceMethod ({ cls := "EarFerry", name := "hush", desc := "(I)I" } : Jvm.MethodName)) ∈ WB := wb_2 (List.mem_of_getElem? (i := 55) rfl) rfl
theorem k_2_56 : (Jvm.Cond.selects "EarFerry" ({ cls := "EarFerry", name := "hush", desc := "(I)I" } : Jvm.MethodName) ({ cls := "EarFerry", name := "hush", desc := "(I)I" } : Jvm.MethodName)) ∈ WB := wb_2 (List.mem_of_getElem? (i := 56) rfl) rfl
theorem k_2_57 : (Jvm.Cond.code ({ cls := "EarFerry", name := "hush", desc := "(I)I" } : Jvm.MethodName) prog_1_method_9_code (2 : Nat) (Option.some Jvm.ClassFile.FieldType.int)) ∈ WB := wb_2 (List.mem_of_getElem? (i := 57) rfl) rfl
theorem k_2_58 : (Jvm.Cond.methodLink "EarFerryLaw" (48 : Nat) ({ cls := "EarFerry", name := "hammer", desc := "(I)I" } : Jvm.MethodName)) ∈ WB := wb_2 (List.mem_of_getElem? (i := 58) rfl) rfl
theorem k_2_59 : (Jvm.Cond.instanceMethod ({ cls := "EarFerry", name := "hammer", desc := "(I)I" } : Jvm.MethodName)) ∈ WB := wb_2 (List.mem_of_getElem? (i := 59) rfl) rfl
theorem k_2_60 : (Jvm.Cond.selects "EarFerry" ({ cls := "EarFerry", name := "hammer", desc := "(I)I" } : Jvm.MethodName) ({ cls := "EarFerry", name := "hammer", desc := "(I)I" } : Jvm.MethodName)) ∈ WB := wb_2 (List.mem_of_getElem? (i := 60) rfl) rfl
theorem k_2_61 : (Jvm.Cond.code ({ cls := "EarFerry", name := "hammer", desc := "(I)I" } : Jvm.MethodName) prog_1_method_10_code (3 : Nat) (Option.some Jvm.ClassFile.FieldType.int)) ∈ WB := wb_2 (List.mem_of_getElem? (i := 61) rfl) rfl
theorem k_2_62 : (Jvm.Cond.methodLink "EarFerry" (150 : Nat) ({ cls := "EarFerry$Scene", name := "takeHammer", desc := "(I)V" } : Jvm.MethodName)) ∈ WB := wb_2 (List.mem_of_getElem? (i := 62) rfl) rfl
theorem k_2_63 : (Jvm.Cond.instanceMethod ({ cls := "EarFerry$Scene", name := "takeHammer", desc := "(I)V" } : Jvm.MethodName)) ∈ WB := wb_2 (List.mem_of_getElem? (i := 63) rfl) rfl
theorem k_2_64 : (Jvm.Cond.selects "EarFerry$Scene" ({ cls := "EarFerry$Scene", name := "takeHammer", desc := "(I)V" } : Jvm.MethodName) ({ cls := "EarFerry$Scene", name := "takeHammer", desc := "(I)V" } : Jvm.MethodName)) ∈ WB := wb_2 (List.mem_of_getElem? (i := 64) rfl) rfl
theorem k_2_65 : (Jvm.Cond.code ({ cls := "EarFerry$Scene", name := "takeHammer", desc := "(I)V" } : Jvm.MethodName) prog_2_method_5_code (2 : Nat) (Option.none : Option Jvm.ClassFile.FieldType)) ∈ WB := wb_2 (List.mem_of_getElem? (i := 65) rfl) rfl
theorem k_2_66 : (Jvm.Cond.methodLink "EarFerry" (153 : Nat) ({ cls := "EarFerry$Scene", name := "putHammer", desc := "(I)V" } : Jvm.MethodName)) ∈ WB := wb_2 (List.mem_of_getElem? (i := 66) rfl) rfl
theorem k_2_67 : (Jvm.Cond.instanceMethod ({ cls := "EarFerry$Scene", name := "putHammer", desc := "(I)V" } : Jvm.MethodName)) ∈ WB := wb_2 (List.mem_of_getElem? (i := 67) rfl) rfl
theorem k_2_68 : (Jvm.Cond.selects "EarFerry$Scene" ({ cls := "EarFerry$Scene", name := "putHammer", desc := "(I)V" } : Jvm.MethodName) ({ cls := "EarFerry$Scene", name := "putHammer", desc := "(I)V" } : Jvm.MethodName)) ∈ WB := wb_2 (List.mem_of_getElem? (i := 68) rfl) rfl
theorem k_2_69 : (Jvm.Cond.code ({ cls := "EarFerry$Scene", name := "putHammer", desc := "(I)V" } : Jvm.MethodName) prog_2_method_4_code (2 : Nat) (Option.none : Option Jvm.ClassFile.FieldType)) ∈ WB := wb_2 (List.mem_of_getElem? (i := 69) rfl) rfl
theorem k_2_70 : (Jvm.Cond.methodLink "EarFerryLaw" (52 : Nat) ({ cls := "EarFerry", name := "change", desc := "(II)I" } : Jvm.MethodName)) ∈ WB := wb_2 (List.mem_of_getElem? (i := 70) rfl) rfl
theorem k_2_71 : (Jvm.Cond.instanceMethod ({ cls := "EarFerry", name := "change", desc := "(II)I" } : Jvm.MethodName)) ∈ WB := wb_2 (List.mem_of_getElem? (i := 71) rfl) rfl
theorem k_2_72 : (Jvm.Cond.selects "EarFerry" ({ cls := "EarFerry", name := "change", desc := "(II)I" } : Jvm.MethodName) ({ cls := "EarFerry", name := "change", desc := "(II)I" } : Jvm.MethodName)) ∈ WB := wb_2 (List.mem_of_getElem? (i := 72) rfl) rfl
theorem k_2_73 : (Jvm.Cond.code ({ cls := "EarFerry", name := "change", desc := "(II)I" } : Jvm.MethodName) prog_1_method_11_code (4 : Nat) (Option.some Jvm.ClassFile.FieldType.int)) ∈ WB := wb_2 (List.mem_of_getElem? (i := 73) rfl) rfl
theorem k_2_74 : (Jvm.Cond.methodLink "EarFerryLaw" (56 : Nat) ({ cls := "EarFerry", name := "hour", desc := "()I" } : Jvm.MethodName)) ∈ WB := wb_2 (List.mem_of_getElem? (i := 74) rfl) rfl
theorem k_2_75 : (Jvm.Cond.instanceMethod ({ cls := "EarFerry", name := "hour", desc := "()I" } : Jvm.MethodName)) ∈ WB := wb_2 (List.mem_of_getElem? (i := 75) rfl) rfl
theorem k_2_76 : (Jvm.Cond.selects "EarFerry" ({ cls := "EarFerry", name := "hour", desc := "()I" } : Jvm.MethodName) ({ cls := "EarFerry", name := "hour", desc := "()I" } : Jvm.MethodName)) ∈ WB := wb_2 (List.mem_of_getElem? (i := 76) rfl) rfl
theorem k_2_77 : (Jvm.Cond.code ({ cls := "EarFerry", name := "hour", desc := "()I" } : Jvm.MethodName) prog_1_method_12_code (1 : Nat) (Option.some Jvm.ClassFile.FieldType.int)) ∈ WB := wb_2 (List.mem_of_getElem? (i := 77) rfl) rfl
theorem k_2_78 : (Jvm.Cond.methodLink "EarFerry" (156 : Nat) ({ cls := "EarFerry", name := "hourBehind", desc := "(I)I" } : Jvm.MethodName)) ∈ WB := wb_2 (List.mem_of_getElem? (i := 78) rfl) rfl
theorem k_2_79 : (Jvm.Cond.static ({ cls := "EarFerry", name := "hourBehind", desc := "(I)I" } : Jvm.MethodName)) ∈ WB := wb_2 (List.mem_of_getElem? (i := 79) rfl) rfl
theorem k_2_80 : (Jvm.Cond.code ({ cls := "EarFerry", name := "hourBehind", desc := "(I)I" } : Jvm.MethodName) prog_1_method_36_code (1 : Nat) (Option.some Jvm.ClassFile.FieldType.int)) ∈ WB := wb_2 (List.mem_of_getElem? (i := 80) rfl) rfl
theorem k_2_81 : (Jvm.Cond.methodLink "EarFerryLaw" (60 : Nat) ({ cls := "EarFerry", name := "undo", desc := "()I" } : Jvm.MethodName)) ∈ WB := wb_2 (List.mem_of_getElem? (i := 81) rfl) rfl
theorem k_2_82 : (Jvm.Cond.instanceMethod ({ cls := "EarFerry", name := "undo", desc := "()I" } : Jvm.MethodName)) ∈ WB := wb_2 (List.mem_of_getElem? (i := 82) rfl) rfl
theorem k_2_83 : (Jvm.Cond.selects "EarFerry" ({ cls := "EarFerry", name := "undo", desc := "()I" } : Jvm.MethodName) ({ cls := "EarFerry", name := "undo", desc := "()I" } : Jvm.MethodName)) ∈ WB := wb_2 (List.mem_of_getElem? (i := 83) rfl) rfl
theorem k_2_84 : (Jvm.Cond.code ({ cls := "EarFerry", name := "undo", desc := "()I" } : Jvm.MethodName) prog_1_method_13_code (1 : Nat) (Option.some Jvm.ClassFile.FieldType.int)) ∈ WB := wb_2 (List.mem_of_getElem? (i := 84) rfl) rfl
theorem k_2_85 : (Jvm.Cond.methodLink "EarFerry" (159 : Nat) ({ cls := "EarFerry$Scene", name := "unpack", desc := "(I)V" } : Jvm.MethodName)) ∈ WB := wb_2 (List.mem_of_getElem? (i := 85) rfl) rfl
theorem k_2_86 : (Jvm.Cond.instanceMethod ({ cls := "EarFerry$Scene", name := "unpack", desc := "(I)V" } : Jvm.MethodName)) ∈ WB := wb_2 (List.mem_of_getElem? (i := 86) rfl) rfl
theorem k_2_87 : (Jvm.Cond.selects "EarFerry$Scene" ({ cls := "EarFerry$Scene", name := "unpack", desc := "(I)V" } : Jvm.MethodName) ({ cls := "EarFerry$Scene", name := "unpack", desc := "(I)V" } : Jvm.MethodName)) ∈ WB := wb_2 (List.mem_of_getElem? (i := 87) rfl) rfl
theorem k_2_88 : (Jvm.Cond.code ({ cls := "EarFerry$Scene", name := "unpack", desc := "(I)V" } : Jvm.MethodName) prog_2_method_7_code (2 : Nat) (Option.none : Option Jvm.ClassFile.FieldType)) ∈ WB := wb_2 (List.mem_of_getElem? (i := 88) rfl) rfl
theorem k_2_89 : (Jvm.Cond.methodLink "EarFerryLaw" (64 : Nat) ({ cls := "EarFerry", name := "heard", desc := "(II)I" } : Jvm.MethodName)) ∈ WB := wb_2 (List.mem_of_getElem? (i := 89) rfl) rfl
theorem k_2_90 : (Jvm.Cond.instanceMethod ({ cls := "EarFerry", name := "heard", desc := "(II)I" } : Jvm.MethodName)) ∈ WB := wb_2 (List.mem_of_getElem? (i := 90) rfl) rfl
theorem k_2_91 : (Jvm.Cond.selects "EarFerry" ({ cls := "EarFerry", name := "heard", desc := "(II)I" } : Jvm.MethodName) ({ cls := "EarFerry", name := "heard", desc := "(II)I" } : Jvm.MethodName)) ∈ WB := wb_2 (List.mem_of_getElem? (i := 91) rfl) rfl
theorem k_2_92 : (Jvm.Cond.code ({ cls := "EarFerry", name := "heard", desc := "(II)I" } : Jvm.MethodName) prog_1_method_14_code (3 : Nat) (Option.some Jvm.ClassFile.FieldType.int)) ∈ WB := wb_2 (List.mem_of_getElem? (i := 92) rfl) rfl
theorem k_2_93 : (Jvm.Cond.methodLink "EarFerry" (162 : Nat) ({ cls := "EarFerry", name := "isHour", desc := "(I)Z" } : Jvm.MethodName)) ∈ WB := wb_2 (List.mem_of_getElem? (i := 93) rfl) rfl
theorem k_2_94 : (Jvm.Cond.static ({ cls := "EarFerry", name := "isHour", desc := "(I)Z" } : Jvm.MethodName)) ∈ WB := wb_2 (List.mem_of_getElem? (i := 94) rfl) rfl
theorem k_2_95 : (Jvm.Cond.code ({ cls := "EarFerry", name := "isHour", desc := "(I)Z" } : Jvm.MethodName) prog_1_method_33_code (1 : Nat) (Option.some Jvm.ClassFile.FieldType.boolean)) ∈ WB := wb_2 (List.mem_of_getElem? (i := 95) rfl) rfl
theorem k_2_96 : (Jvm.Cond.methodLink "EarFerryLaw" (68 : Nat) ({ cls := "EarFerry", name := "sure", desc := "(I)I" } : Jvm.MethodName)) ∈ WB := wb_2 (List.mem_of_getElem? (i := 96) rfl) rfl
theorem k_2_97 : (Jvm.Cond.instanceMethod ({ cls := "EarFerry", name := "sure", desc := "(I)I" } : Jvm.MethodName)) ∈ WB := wb_2 (List.mem_of_getElem? (i := 97) rfl) rfl
theorem k_2_98 : (Jvm.Cond.selects "EarFerry" ({ cls := "EarFerry", name := "sure", desc := "(I)I" } : Jvm.MethodName) ({ cls := "EarFerry", name := "sure", desc := "(I)I" } : Jvm.MethodName)) ∈ WB := wb_2 (List.mem_of_getElem? (i := 98) rfl) rfl
theorem k_2_99 : (Jvm.Cond.code ({ cls := "EarFerry", name := "sure", desc := "(I)I" } : Jvm.MethodName) prog_1_method_15_code (2 : Nat) (Option.some Jvm.ClassFile.FieldType.int)) ∈ WB := wb_2 (List.mem_of_getElem? (i := 99) rfl) rfl
theorem k_2_100 : (Jvm.Cond.methodLink "EarFerry" (165 : Nat) ({ cls := "EarFerry", name := "fillSetsNow", desc := "(I)V" } : Jvm.MethodName)) ∈ WB := wb_2 (List.mem_of_getElem? (i := 100) rfl) rfl
theorem k_2_102 : (Jvm.Cond.instanceMethod ({ cls := "EarFerry", name := "fillSetsNow", desc := "(I)V" } : Jvm.MethodName)) ∈ WB := wb_2 (List.mem_of_getElem? (i := 102) rfl) rfl
theorem k_2_103 : (Jvm.Cond.code ({ cls := "EarFerry", name := "fillSetsNow", desc := "(I)V" } : Jvm.MethodName) prog_1_method_48_code (2 : Nat) (Option.none : Option Jvm.ClassFile.FieldType)) ∈ WB := wb_2 (List.mem_of_getElem? (i := 103) rfl) rfl
theorem k_2_104 : (Jvm.Cond.methodLink "EarFerry" (195 : Nat) ({ cls := "EarFerry", name := "fillSoundSets", desc := "(I)V" } : Jvm.MethodName)) ∈ WB := wb_2 (List.mem_of_getElem? (i := 104) rfl) rfl
theorem k_2_106 : (Jvm.Cond.instanceMethod ({ cls := "EarFerry", name := "fillSoundSets", desc := "(I)V" } : Jvm.MethodName)) ∈ WB := wb_2 (List.mem_of_getElem? (i := 106) rfl) rfl
theorem k_2_107 : (Jvm.Cond.code ({ cls := "EarFerry", name := "fillSoundSets", desc := "(I)V" } : Jvm.MethodName) prog_1_method_46_code (3 : Nat) (Option.none : Option Jvm.ClassFile.FieldType)) ∈ WB := wb_2 (List.mem_of_getElem? (i := 107) rfl) rfl
theorem k_2_108 : (Jvm.Cond.methodLink "EarFerry" (252 : Nat) ({ cls := "EarFerry", name := "fillSets", desc := "(II)V" } : Jvm.MethodName)) ∈ WB := wb_2 (List.mem_of_getElem? (i := 108) rfl) rfl
theorem k_2_110 : (Jvm.Cond.instanceMethod ({ cls := "EarFerry", name := "fillSets", desc := "(II)V" } : Jvm.MethodName)) ∈ WB := wb_2 (List.mem_of_getElem? (i := 110) rfl) rfl
theorem k_2_111 : (Jvm.Cond.code ({ cls := "EarFerry", name := "fillSets", desc := "(II)V" } : Jvm.MethodName) prog_1_method_47_code (4 : Nat) (Option.none : Option Jvm.ClassFile.FieldType)) ∈ WB := wb_2 (List.mem_of_getElem? (i := 111) rfl) rfl
theorem k_2_112 : (Jvm.Cond.methodLink "EarFerry" (168 : Nat) ({ cls := "EarFerry", name := "sureCells", desc := "(I)I" } : Jvm.MethodName)) ∈ WB := wb_2 (List.mem_of_getElem? (i := 112) rfl) rfl
theorem k_2_114 : (Jvm.Cond.instanceMethod ({ cls := "EarFerry", name := "sureCells", desc := "(I)I" } : Jvm.MethodName)) ∈ WB := wb_2 (List.mem_of_getElem? (i := 114) rfl) rfl
theorem k_2_115 : (Jvm.Cond.code ({ cls := "EarFerry", name := "sureCells", desc := "(I)I" } : Jvm.MethodName) prog_1_method_49_code (5 : Nat) (Option.some Jvm.ClassFile.FieldType.int)) ∈ WB := wb_2 (List.mem_of_getElem? (i := 115) rfl) rfl
theorem k_2_116 : (Jvm.Cond.methodLink "EarFerryLaw" (72 : Nat) ({ cls := "EarFerry", name := "where", desc := "(II)I" } : Jvm.MethodName)) ∈ WB := wb_2 (List.mem_of_getElem? (i := 116) rfl) rfl
theorem k_2_117 : (Jvm.Cond.instanceMethod ({ cls := "EarFerry", name := "where", desc := "(II)I" } : Jvm.MethodName)) ∈ WB := wb_2 (List.mem_of_getElem? (i := 117) rfl) rfl
theorem k_2_118 : (Jvm.Cond.selects "EarFerry" ({ cls := "EarFerry", name := "where", desc := "(II)I" } : Jvm.MethodName) ({ cls := "EarFerry", name := "where", desc := "(II)I" } : Jvm.MethodName)) ∈ WB := wb_2 (List.mem_of_getElem? (i := 118) rfl) rfl
theorem k_2_119 : (Jvm.Cond.code ({ cls := "EarFerry", name := "where", desc := "(II)I" } : Jvm.MethodName) prog_1_method_16_code (5 : Nat) (Option.some Jvm.ClassFile.FieldType.int)) ∈ WB := wb_2 (List.mem_of_getElem? (i := 119) rfl) rfl
theorem k_2_120 : (Jvm.Cond.methodLink "EarFerry" (171 : Nat) ({ cls := "EarFerry", name := "isSet", desc := "(I)Z" } : Jvm.MethodName)) ∈ WB := wb_2 (List.mem_of_getElem? (i := 120) rfl) rfl
theorem k_2_121 : (Jvm.Cond.static ({ cls := "EarFerry", name := "isSet", desc := "(I)Z" } : Jvm.MethodName)) ∈ WB := wb_2 (List.mem_of_getElem? (i := 121) rfl) rfl
theorem k_2_122 : (Jvm.Cond.code ({ cls := "EarFerry", name := "isSet", desc := "(I)Z" } : Jvm.MethodName) prog_1_method_34_code (1 : Nat) (Option.some Jvm.ClassFile.FieldType.boolean)) ∈ WB := wb_2 (List.mem_of_getElem? (i := 122) rfl) rfl
theorem k_2_123 : (Jvm.Cond.methodLink "EarFerryLaw" (76 : Nat) ({ cls := "EarFerry", name := "when", desc := "(II)I" } : Jvm.MethodName)) ∈ WB := wb_2 (List.mem_of_getElem? (i := 123) rfl) rfl
theorem k_2_124 : (Jvm.Cond.instanceMethod ({ cls := "EarFerry", name := "when", desc := "(II)I" } : Jvm.MethodName)) ∈ WB := wb_2 (List.mem_of_getElem? (i := 124) rfl) rfl
theorem k_2_125 : (Jvm.Cond.selects "EarFerry" ({ cls := "EarFerry", name := "when", desc := "(II)I" } : Jvm.MethodName) ({ cls := "EarFerry", name := "when", desc := "(II)I" } : Jvm.MethodName)) ∈ WB := wb_2 (List.mem_of_getElem? (i := 125) rfl) rfl
theorem k_2_126 : (Jvm.Cond.code ({ cls := "EarFerry", name := "when", desc := "(II)I" } : Jvm.MethodName) prog_1_method_17_code (5 : Nat) (Option.some Jvm.ClassFile.FieldType.int)) ∈ WB := wb_2 (List.mem_of_getElem? (i := 126) rfl) rfl
theorem k_2_127 : (Jvm.Cond.methodLink "EarFerryLaw" (80 : Nat) ({ cls := "EarFerry", name := "spared", desc := "(I)I" } : Jvm.MethodName)) ∈ WB := wb_2 (List.mem_of_getElem? (i := 127) rfl) rfl
theorem k_2_128 : (Jvm.Cond.instanceMethod ({ cls := "EarFerry", name := "spared", desc := "(I)I" } : Jvm.MethodName)) ∈ WB := wb_2 (List.mem_of_getElem? (i := 128) rfl) rfl
theorem k_2_129 : (Jvm.Cond.selects "EarFerry" ({ cls := "EarFerry", name := "spared", desc := "(I)I" } : Jvm.MethodName) ({ cls := "EarFerry", name := "spared", desc := "(I)I" } : Jvm.MethodName)) ∈ WB := wb_2 (List.mem_of_getElem? (i := 129) rfl) rfl
theorem k_2_130 : (Jvm.Cond.code ({ cls := "EarFerry", name := "spared", desc := "(I)I" } : Jvm.MethodName) prog_1_method_18_code (8 : Nat) (Option.some Jvm.ClassFile.FieldType.int)) ∈ WB := wb_2 (List.mem_of_getElem? (i := 130) rfl) rfl
theorem k_2_131 : (Jvm.Cond.methodLink "EarFerry" (177 : Nat) ({ cls := "EarFerry", name := "sureCount", desc := "(I)I" } : Jvm.MethodName)) ∈ WB := wb_2 (List.mem_of_getElem? (i := 131) rfl) rfl
theorem k_2_133 : (Jvm.Cond.instanceMethod ({ cls := "EarFerry", name := "sureCount", desc := "(I)I" } : Jvm.MethodName)) ∈ WB := wb_2 (List.mem_of_getElem? (i := 133) rfl) rfl
theorem k_2_134 : (Jvm.Cond.code ({ cls := "EarFerry", name := "sureCount", desc := "(I)I" } : Jvm.MethodName) prog_1_method_50_code (2 : Nat) (Option.some Jvm.ClassFile.FieldType.int)) ∈ WB := wb_2 (List.mem_of_getElem? (i := 134) rfl) rfl
theorem k_2_135 : (Jvm.Cond.methodLink "EarFerry" (184 : Nat) ({ cls := "java/lang/Integer", name := "bitCount", desc := "(I)I" } : Jvm.MethodName)) ∈ WB := wb_2 (List.mem_of_getElem? (i := 135) rfl) rfl
theorem k_2_136 : (Jvm.Cond.static ({ cls := "java/lang/Integer", name := "bitCount", desc := "(I)I" } : Jvm.MethodName)) ∈ WB := wb_2 (List.mem_of_getElem? (i := 136) rfl) rfl
theorem k_2_137 : (Jvm.Cond.code ({ cls := "java/lang/Integer", name := "bitCount", desc := "(I)I" } : Jvm.MethodName) prog_8_method_49_code (1 : Nat) (Option.some Jvm.ClassFile.FieldType.int)) ∈ WB := wb_2 (List.mem_of_getElem? (i := 137) rfl) rfl
theorem k_2_138 : (Jvm.Cond.constant "java/lang/Integer" (265 : Nat) (1431655765 : Int32)) ∈ WB := wb_2 (List.mem_of_getElem? (i := 138) rfl) rfl
theorem k_2_139 : (Jvm.Cond.constant "java/lang/Integer" (266 : Nat) (858993459 : Int32)) ∈ WB := wb_2 (List.mem_of_getElem? (i := 139) rfl) rfl
theorem k_2_140 : (Jvm.Cond.constant "java/lang/Integer" (267 : Nat) (252645135 : Int32)) ∈ WB := wb_2 (List.mem_of_getElem? (i := 140) rfl) rfl
theorem k_2_141 : (Jvm.Cond.methodLink "EarFerryLaw" (84 : Nat) ({ cls := "EarFerry", name := "worth", desc := "(IIZ)I" } : Jvm.MethodName)) ∈ WB := wb_2 (List.mem_of_getElem? (i := 141) rfl) rfl
theorem k_2_142 : (Jvm.Cond.instanceMethod ({ cls := "EarFerry", name := "worth", desc := "(IIZ)I" } : Jvm.MethodName)) ∈ WB := wb_2 (List.mem_of_getElem? (i := 142) rfl) rfl
theorem k_2_143 : (Jvm.Cond.selects "EarFerry" ({ cls := "EarFerry", name := "worth", desc := "(IIZ)I" } : Jvm.MethodName) ({ cls := "EarFerry", name := "worth", desc := "(IIZ)I" } : Jvm.MethodName)) ∈ WB := wb_2 (List.mem_of_getElem? (i := 143) rfl) rfl
theorem k_2_144 : (Jvm.Cond.code ({ cls := "EarFerry", name := "worth", desc := "(IIZ)I" } : Jvm.MethodName) prog_1_method_19_code (11 : Nat) (Option.some Jvm.ClassFile.FieldType.int)) ∈ WB := wb_2 (List.mem_of_getElem? (i := 144) rfl) rfl
theorem k_2_145 : (Jvm.Cond.methodLink "EarFerry" (180 : Nat) ({ cls := "EarFerry", name := "toldPart", desc := "(IIZ)I" } : Jvm.MethodName)) ∈ WB := wb_2 (List.mem_of_getElem? (i := 145) rfl) rfl
theorem k_2_146 : (Jvm.Cond.static ({ cls := "EarFerry", name := "toldPart", desc := "(IIZ)I" } : Jvm.MethodName)) ∈ WB := wb_2 (List.mem_of_getElem? (i := 146) rfl) rfl
theorem k_2_147 : (Jvm.Cond.code ({ cls := "EarFerry", name := "toldPart", desc := "(IIZ)I" } : Jvm.MethodName) prog_1_method_60_code (4 : Nat) (Option.some Jvm.ClassFile.FieldType.int)) ∈ WB := wb_2 (List.mem_of_getElem? (i := 147) rfl) rfl
theorem k_2_148 : (Jvm.Cond.methodLink "EarFerry" (272 : Nat) ({ cls := "EarFerry", name := "greatestDivisor", desc := "(II)I" } : Jvm.MethodName)) ∈ WB := wb_2 (List.mem_of_getElem? (i := 148) rfl) rfl
theorem k_2_149 : (Jvm.Cond.static ({ cls := "EarFerry", name := "greatestDivisor", desc := "(II)I" } : Jvm.MethodName)) ∈ WB := wb_2 (List.mem_of_getElem? (i := 149) rfl) rfl
theorem k_2_150 : (Jvm.Cond.code ({ cls := "EarFerry", name := "greatestDivisor", desc := "(II)I" } : Jvm.MethodName) prog_1_method_61_code (6 : Nat) (Option.some Jvm.ClassFile.FieldType.int)) ∈ WB := wb_2 (List.mem_of_getElem? (i := 150) rfl) rfl
theorem k_2_151 : (Jvm.Cond.methodLink "EarFerry" (275 : Nat) ({ cls := "java/lang/Math", name := "max", desc := "(II)I" } : Jvm.MethodName)) ∈ WB := wb_2 (List.mem_of_getElem? (i := 151) rfl) rfl
theorem k_2_152 : (Jvm.Cond.methodLink "EarFerry" (189 : Nat) ({ cls := "EarFerry", name := "factorial", desc := "(I)I" } : Jvm.MethodName)) ∈ WB := wb_2 (List.mem_of_getElem? (i := 152) rfl) rfl
theorem k_2_153 : (Jvm.Cond.static ({ cls := "EarFerry", name := "factorial", desc := "(I)I" } : Jvm.MethodName)) ∈ WB := wb_2 (List.mem_of_getElem? (i := 153) rfl) rfl
theorem k_2_154 : (Jvm.Cond.code ({ cls := "EarFerry", name := "factorial", desc := "(I)I" } : Jvm.MethodName) prog_1_method_59_code (3 : Nat) (Option.some Jvm.ClassFile.FieldType.int)) ∈ WB := wb_2 (List.mem_of_getElem? (i := 154) rfl) rfl
theorem k_2_155 : (Jvm.Cond.methodLink "EarFerryLaw" (89 : Nat) ({ cls := "EarFerry", name := "hammers", desc := "(III)I" } : Jvm.MethodName)) ∈ WB := wb_2 (List.mem_of_getElem? (i := 155) rfl) rfl
theorem k_2_156 : (Jvm.Cond.instanceMethod ({ cls := "EarFerry", name := "hammers", desc := "(III)I" } : Jvm.MethodName)) ∈ WB := wb_2 (List.mem_of_getElem? (i := 156) rfl) rfl
theorem k_2_157 : (Jvm.Cond.selects "EarFerry" ({ cls := "EarFerry", name := "hammers", desc := "(III)I" } : Jvm.MethodName) ({ cls := "EarFerry", name := "hammers", desc := "(III)I" } : Jvm.MethodName)) ∈ WB := wb_2 (List.mem_of_getElem? (i := 157) rfl) rfl
theorem k_2_158 : (Jvm.Cond.code ({ cls := "EarFerry", name := "hammers", desc := "(III)I" } : Jvm.MethodName) prog_1_method_20_code (5 : Nat) (Option.some Jvm.ClassFile.FieldType.int)) ∈ WB := wb_2 (List.mem_of_getElem? (i := 158) rfl) rfl
theorem k_2_159 : (Jvm.Cond.methodLink "EarFerry" (192 : Nat) ({ cls := "EarFerry", name := "isFirstOrSecond", desc := "(I)Z" } : Jvm.MethodName)) ∈ WB := wb_2 (List.mem_of_getElem? (i := 159) rfl) rfl
theorem k_2_160 : (Jvm.Cond.static ({ cls := "EarFerry", name := "isFirstOrSecond", desc := "(I)Z" } : Jvm.MethodName)) ∈ WB := wb_2 (List.mem_of_getElem? (i := 160) rfl) rfl
theorem k_2_161 : (Jvm.Cond.code ({ cls := "EarFerry", name := "isFirstOrSecond", desc := "(I)Z" } : Jvm.MethodName) prog_1_method_35_code (1 : Nat) (Option.some Jvm.ClassFile.FieldType.boolean)) ∈ WB := wb_2 (List.mem_of_getElem? (i := 161) rfl) rfl
theorem k_2_162 : (Jvm.Cond.methodLink "EarFerry" (198 : Nat) ({ cls := "EarFerry", name := "fewestHammers", desc := "(I)I" } : Jvm.MethodName)) ∈ WB := wb_2 (List.mem_of_getElem? (i := 162) rfl) rfl
theorem k_2_164 : (Jvm.Cond.instanceMethod ({ cls := "EarFerry", name := "fewestHammers", desc := "(I)I" } : Jvm.MethodName)) ∈ WB := wb_2 (List.mem_of_getElem? (i := 164) rfl) rfl
theorem k_2_165 : (Jvm.Cond.code ({ cls := "EarFerry", name := "fewestHammers", desc := "(I)I" } : Jvm.MethodName) prog_1_method_53_code (4 : Nat) (Option.some Jvm.ClassFile.FieldType.int)) ∈ WB := wb_2 (List.mem_of_getElem? (i := 165) rfl) rfl
theorem k_2_166 : (Jvm.Cond.methodLink "EarFerry" (256 : Nat) ({ cls := "EarFerry", name := "sureCountWith", desc := "(II)I" } : Jvm.MethodName)) ∈ WB := wb_2 (List.mem_of_getElem? (i := 166) rfl) rfl
theorem k_2_168 : (Jvm.Cond.instanceMethod ({ cls := "EarFerry", name := "sureCountWith", desc := "(II)I" } : Jvm.MethodName)) ∈ WB := wb_2 (List.mem_of_getElem? (i := 168) rfl) rfl
theorem k_2_169 : (Jvm.Cond.code ({ cls := "EarFerry", name := "sureCountWith", desc := "(II)I" } : Jvm.MethodName) prog_1_method_52_code (3 : Nat) (Option.some Jvm.ClassFile.FieldType.int)) ∈ WB := wb_2 (List.mem_of_getElem? (i := 169) rfl) rfl
theorem k_2_170 : (Jvm.Cond.methodLink "EarFerryLaw" (94 : Nat) ({ cls := "EarFerry", name := "bestHours", desc := "(II)I" } : Jvm.MethodName)) ∈ WB := wb_2 (List.mem_of_getElem? (i := 170) rfl) rfl
theorem k_2_171 : (Jvm.Cond.instanceMethod ({ cls := "EarFerry", name := "bestHours", desc := "(II)I" } : Jvm.MethodName)) ∈ WB := wb_2 (List.mem_of_getElem? (i := 171) rfl) rfl
theorem k_2_172 : (Jvm.Cond.selects "EarFerry" ({ cls := "EarFerry", name := "bestHours", desc := "(II)I" } : Jvm.MethodName) ({ cls := "EarFerry", name := "bestHours", desc := "(II)I" } : Jvm.MethodName)) ∈ WB := wb_2 (List.mem_of_getElem? (i := 172) rfl) rfl
theorem k_2_173 : (Jvm.Cond.code ({ cls := "EarFerry", name := "bestHours", desc := "(II)I" } : Jvm.MethodName) prog_1_method_21_code (8 : Nat) (Option.some Jvm.ClassFile.FieldType.int)) ∈ WB := wb_2 (List.mem_of_getElem? (i := 173) rfl) rfl
theorem k_2_174 : (Jvm.Cond.methodLink "EarFerryLaw" (98 : Nat) ({ cls := "EarFerry", name := "grounded", desc := "(IIIII)I" } : Jvm.MethodName)) ∈ WB := wb_2 (List.mem_of_getElem? (i := 174) rfl) rfl
theorem k_2_175 : (Jvm.Cond.instanceMethod ({ cls := "EarFerry", name := "grounded", desc := "(IIIII)I" } : Jvm.MethodName)) ∈ WB := wb_2 (List.mem_of_getElem? (i := 175) rfl) rfl
theorem k_2_176 : (Jvm.Cond.selects "EarFerry" ({ cls := "EarFerry", name := "grounded", desc := "(IIIII)I" } : Jvm.MethodName) ({ cls := "EarFerry", name := "grounded", desc := "(IIIII)I" } : Jvm.MethodName)) ∈ WB := wb_2 (List.mem_of_getElem? (i := 176) rfl) rfl
theorem k_2_177 : (Jvm.Cond.code ({ cls := "EarFerry", name := "grounded", desc := "(IIIII)I" } : Jvm.MethodName) prog_1_method_22_code (10 : Nat) (Option.some Jvm.ClassFile.FieldType.int)) ∈ WB := wb_2 (List.mem_of_getElem? (i := 177) rfl) rfl
theorem k_2_178 : (Jvm.Cond.methodLink "EarFerryLaw" (103 : Nat) ({ cls := "EarFerry", name := "see", desc := "(IIIZ)I" } : Jvm.MethodName)) ∈ WB := wb_2 (List.mem_of_getElem? (i := 178) rfl) rfl
theorem k_2_179 : (Jvm.Cond.instanceMethod ({ cls := "EarFerry", name := "see", desc := "(IIIZ)I" } : Jvm.MethodName)) ∈ WB := wb_2 (List.mem_of_getElem? (i := 179) rfl) rfl
theorem k_2_180 : (Jvm.Cond.selects "EarFerry" ({ cls := "EarFerry", name := "see", desc := "(IIIZ)I" } : Jvm.MethodName) ({ cls := "EarFerry", name := "see", desc := "(IIIZ)I" } : Jvm.MethodName)) ∈ WB := wb_2 (List.mem_of_getElem? (i := 180) rfl) rfl
theorem k_2_181 : (Jvm.Cond.code ({ cls := "EarFerry", name := "see", desc := "(IIIZ)I" } : Jvm.MethodName) prog_1_method_23_code (5 : Nat) (Option.some Jvm.ClassFile.FieldType.int)) ∈ WB := wb_2 (List.mem_of_getElem? (i := 181) rfl) rfl
theorem k_2_182 : (Jvm.Cond.methodLink "EarFerry" (205 : Nat) ({ cls := "EarFerry$Sightings", name := "add", desc := "(IIIZ)V" } : Jvm.MethodName)) ∈ WB := wb_2 (List.mem_of_getElem? (i := 182) rfl) rfl
theorem k_2_183 : (Jvm.Cond.instanceMethod ({ cls := "EarFerry$Sightings", name := "add", desc := "(IIIZ)V" } : Jvm.MethodName)) ∈ WB := wb_2 (List.mem_of_getElem? (i := 183) rfl) rfl
theorem k_2_184 : (Jvm.Cond.selects "EarFerry$Sightings" ({ cls := "EarFerry$Sightings", name := "add", desc := "(IIIZ)V" } : Jvm.MethodName) ({ cls := "EarFerry$Sightings", name := "add", desc := "(IIIZ)V" } : Jvm.MethodName)) ∈ WB := wb_2 (List.mem_of_getElem? (i := 184) rfl) rfl
theorem k_2_185 : (Jvm.Cond.code ({ cls := "EarFerry$Sightings", name := "add", desc := "(IIIZ)V" } : Jvm.MethodName) prog_3_method_2_code (5 : Nat) (Option.none : Option Jvm.ClassFile.FieldType)) ∈ WB := wb_2 (List.mem_of_getElem? (i := 185) rfl) rfl
theorem k_2_186 : (Jvm.Cond.methodLink "EarFerryLaw" (108 : Nat) ({ cls := "EarFerry", name := "unsee", desc := "()I" } : Jvm.MethodName)) ∈ WB := wb_2 (List.mem_of_getElem? (i := 186) rfl) rfl
theorem k_2_187 : (Jvm.Cond.instanceMethod ({ cls := "EarFerry", name := "unsee", desc := "()I" } : Jvm.MethodName)) ∈ WB := wb_2 (List.mem_of_getElem? (i := 187) rfl) rfl
theorem k_2_188 : (Jvm.Cond.selects "EarFerry" ({ cls := "EarFerry", name := "unsee", desc := "()I" } : Jvm.MethodName) ({ cls := "EarFerry", name := "unsee", desc := "()I" } : Jvm.MethodName)) ∈ WB := wb_2 (List.mem_of_getElem? (i := 188) rfl) rfl
theorem k_2_189 : (Jvm.Cond.code ({ cls := "EarFerry", name := "unsee", desc := "()I" } : Jvm.MethodName) prog_1_method_24_code (2 : Nat) (Option.some Jvm.ClassFile.FieldType.int)) ∈ WB := wb_2 (List.mem_of_getElem? (i := 189) rfl) rfl
theorem k_2_190 : (Jvm.Cond.methodLink "EarFerryLaw" (112 : Nat) ({ cls := "EarFerry", name := "weather", desc := "(I)I" } : Jvm.MethodName)) ∈ WB := wb_2 (List.mem_of_getElem? (i := 190) rfl) rfl
theorem k_2_191 : (Jvm.Cond.instanceMethod ({ cls := "EarFerry", name := "weather", desc := "(I)I" } : Jvm.MethodName)) ∈ WB := wb_2 (List.mem_of_getElem? (i := 191) rfl) rfl
theorem k_2_192 : (Jvm.Cond.selects "EarFerry" ({ cls := "EarFerry", name := "weather", desc := "(I)I" } : Jvm.MethodName) ({ cls := "EarFerry", name := "weather", desc := "(I)I" } : Jvm.MethodName)) ∈ WB := wb_2 (List.mem_of_getElem? (i := 192) rfl) rfl
theorem k_2_193 : (Jvm.Cond.code ({ cls := "EarFerry", name := "weather", desc := "(I)I" } : Jvm.MethodName) prog_1_method_25_code (6 : Nat) (Option.some Jvm.ClassFile.FieldType.int)) ∈ WB := wb_2 (List.mem_of_getElem? (i := 193) rfl) rfl
theorem k_2_194 : (Jvm.Cond.methodLink "EarFerry" (208 : Nat) ({ cls := "EarFerry", name := "agreesWithSeen", desc := "(II)Z" } : Jvm.MethodName)) ∈ WB := wb_2 (List.mem_of_getElem? (i := 194) rfl) rfl
theorem k_2_196 : (Jvm.Cond.instanceMethod ({ cls := "EarFerry", name := "agreesWithSeen", desc := "(II)Z" } : Jvm.MethodName)) ∈ WB := wb_2 (List.mem_of_getElem? (i := 196) rfl) rfl
theorem k_2_197 : (Jvm.Cond.code ({ cls := "EarFerry", name := "agreesWithSeen", desc := "(II)Z" } : Jvm.MethodName) prog_1_method_54_code (4 : Nat) (Option.some Jvm.ClassFile.FieldType.boolean)) ∈ WB := wb_2 (List.mem_of_getElem? (i := 197) rfl) rfl
theorem k_2_198 : (Jvm.Cond.methodLink "EarFerryLaw" (116 : Nat) ({ cls := "EarFerry", name := "rivals", desc := "(II)I" } : Jvm.MethodName)) ∈ WB := wb_2 (List.mem_of_getElem? (i := 198) rfl) rfl
theorem k_2_199 : (Jvm.Cond.instanceMethod ({ cls := "EarFerry", name := "rivals", desc := "(II)I" } : Jvm.MethodName)) ∈ WB := wb_2 (List.mem_of_getElem? (i := 199) rfl) rfl
theorem k_2_200 : (Jvm.Cond.selects "EarFerry" ({ cls := "EarFerry", name := "rivals", desc := "(II)I" } : Jvm.MethodName) ({ cls := "EarFerry", name := "rivals", desc := "(II)I" } : Jvm.MethodName)) ∈ WB := wb_2 (List.mem_of_getElem? (i := 200) rfl) rfl
theorem k_2_201 : (Jvm.Cond.code ({ cls := "EarFerry", name := "rivals", desc := "(II)I" } : Jvm.MethodName) prog_1_method_26_code (7 : Nat) (Option.some Jvm.ClassFile.FieldType.int)) ∈ WB := wb_2 (List.mem_of_getElem? (i := 201) rfl) rfl
theorem k_2_202 : (Jvm.Cond.methodLink "EarFerry" (212 : Nat) ({ cls := "EarFerry", name := "fillSureByChoice", desc := "()V" } : Jvm.MethodName)) ∈ WB := wb_2 (List.mem_of_getElem? (i := 202) rfl) rfl
theorem k_2_204 : (Jvm.Cond.instanceMethod ({ cls := "EarFerry", name := "fillSureByChoice", desc := "()V" } : Jvm.MethodName)) ∈ WB := wb_2 (List.mem_of_getElem? (i := 204) rfl) rfl
theorem k_2_205 : (Jvm.Cond.code ({ cls := "EarFerry", name := "fillSureByChoice", desc := "()V" } : Jvm.MethodName) prog_1_method_56_code (3 : Nat) (Option.none : Option Jvm.ClassFile.FieldType)) ∈ WB := wb_2 (List.mem_of_getElem? (i := 205) rfl) rfl
theorem k_2_206 : (Jvm.Cond.methodLink "EarFerry" (269 : Nat) ({ cls := "EarFerry", name := "canBoth", desc := "(II)Z" } : Jvm.MethodName)) ∈ WB := wb_2 (List.mem_of_getElem? (i := 206) rfl) rfl
theorem k_2_207 : (Jvm.Cond.static ({ cls := "EarFerry", name := "canBoth", desc := "(II)Z" } : Jvm.MethodName)) ∈ WB := wb_2 (List.mem_of_getElem? (i := 207) rfl) rfl
theorem k_2_208 : (Jvm.Cond.code ({ cls := "EarFerry", name := "canBoth", desc := "(II)Z" } : Jvm.MethodName) prog_1_method_55_code (2 : Nat) (Option.some Jvm.ClassFile.FieldType.boolean)) ∈ WB := wb_2 (List.mem_of_getElem? (i := 208) rfl) rfl
theorem k_2_209 : (Jvm.Cond.methodLink "EarFerry" (215 : Nat) ({ cls := "EarFerry", name := "isAtRest", desc := "(II)Z" } : Jvm.MethodName)) ∈ WB := wb_2 (List.mem_of_getElem? (i := 209) rfl) rfl
theorem k_2_211 : (Jvm.Cond.instanceMethod ({ cls := "EarFerry", name := "isAtRest", desc := "(II)Z" } : Jvm.MethodName)) ∈ WB := wb_2 (List.mem_of_getElem? (i := 211) rfl) rfl
theorem k_2_212 : (Jvm.Cond.code ({ cls := "EarFerry", name := "isAtRest", desc := "(II)Z" } : Jvm.MethodName) prog_1_method_57_code (5 : Nat) (Option.some Jvm.ClassFile.FieldType.boolean)) ∈ WB := wb_2 (List.mem_of_getElem? (i := 212) rfl) rfl
theorem k_2_213 : (Jvm.Cond.methodLink "EarFerryLaw" (120 : Nat) ({ cls := "EarFerry", name := "chance", desc := "(IIIZ)I" } : Jvm.MethodName)) ∈ WB := wb_2 (List.mem_of_getElem? (i := 213) rfl) rfl
theorem k_2_214 : (Jvm.Cond.instanceMethod ({ cls := "EarFerry", name := "chance", desc := "(IIIZ)I" } : Jvm.MethodName)) ∈ WB := wb_2 (List.mem_of_getElem? (i := 214) rfl) rfl
theorem k_2_215 : (Jvm.Cond.selects "EarFerry" ({ cls := "EarFerry", name := "chance", desc := "(IIIZ)I" } : Jvm.MethodName) ({ cls := "EarFerry", name := "chance", desc := "(IIIZ)I" } : Jvm.MethodName)) ∈ WB := wb_2 (List.mem_of_getElem? (i := 215) rfl) rfl
theorem k_2_216 : (Jvm.Cond.code ({ cls := "EarFerry", name := "chance", desc := "(IIIZ)I" } : Jvm.MethodName) prog_1_method_27_code (10 : Nat) (Option.some Jvm.ClassFile.FieldType.int)) ∈ WB := wb_2 (List.mem_of_getElem? (i := 216) rfl) rfl
theorem k_2_217 : (Jvm.Cond.methodLink "EarFerry" (218 : Nat) ({ cls := "EarFerry", name := "isSure", desc := "(II)Z" } : Jvm.MethodName)) ∈ WB := wb_2 (List.mem_of_getElem? (i := 217) rfl) rfl
theorem k_2_219 : (Jvm.Cond.instanceMethod ({ cls := "EarFerry", name := "isSure", desc := "(II)Z" } : Jvm.MethodName)) ∈ WB := wb_2 (List.mem_of_getElem? (i := 219) rfl) rfl
theorem k_2_220 : (Jvm.Cond.code ({ cls := "EarFerry", name := "isSure", desc := "(II)Z" } : Jvm.MethodName) prog_1_method_51_code (3 : Nat) (Option.some Jvm.ClassFile.FieldType.boolean)) ∈ WB := wb_2 (List.mem_of_getElem? (i := 220) rfl) rfl
theorem k_2_221 : (Jvm.Cond.methodLink "EarFerry" (221 : Nat) ({ cls := "EarFerry", name := "power", desc := "(II)I" } : Jvm.MethodName)) ∈ WB := wb_2 (List.mem_of_getElem? (i := 221) rfl) rfl
theorem k_2_222 : (Jvm.Cond.static ({ cls := "EarFerry", name := "power", desc := "(II)I" } : Jvm.MethodName)) ∈ WB := wb_2 (List.mem_of_getElem? (i := 222) rfl) rfl
theorem k_2_223 : (Jvm.Cond.code ({ cls := "EarFerry", name := "power", desc := "(II)I" } : Jvm.MethodName) prog_1_method_58_code (4 : Nat) (Option.some Jvm.ClassFile.FieldType.int)) ∈ WB := wb_2 (List.mem_of_getElem? (i := 223) rfl) rfl
theorem k_2_224 : (Jvm.Cond.methodLink "EarFerryLaw" (126 : Nat) ({ cls := "EarFerry", name := "seed", desc := "(J)J" } : Jvm.MethodName)) ∈ WB := wb_2 (List.mem_of_getElem? (i := 224) rfl) rfl
theorem k_2_225 : (Jvm.Cond.instanceMethod ({ cls := "EarFerry", name := "seed", desc := "(J)J" } : Jvm.MethodName)) ∈ WB := wb_2 (List.mem_of_getElem? (i := 225) rfl) rfl
theorem k_2_226 : (Jvm.Cond.selects "EarFerry" ({ cls := "EarFerry", name := "seed", desc := "(J)J" } : Jvm.MethodName) ({ cls := "EarFerry", name := "seed", desc := "(J)J" } : Jvm.MethodName)) ∈ WB := wb_2 (List.mem_of_getElem? (i := 226) rfl) rfl
theorem k_2_227 : (Jvm.Cond.code ({ cls := "EarFerry", name := "seed", desc := "(J)J" } : Jvm.MethodName) prog_1_method_28_code (5 : Nat) (Option.some Jvm.ClassFile.FieldType.long)) ∈ WB := wb_2 (List.mem_of_getElem? (i := 227) rfl) rfl
theorem k_2_228 : (Jvm.Cond.methodLink "EarFerryLaw" (131 : Nat) ({ cls := "EarFerry", name := "days", desc := "(I)I" } : Jvm.MethodName)) ∈ WB := wb_2 (List.mem_of_getElem? (i := 228) rfl) rfl
theorem k_2_229 : (Jvm.Cond.instanceMethod ({ cls := "EarFerry", name := "days", desc := "(I)I" } : Jvm.MethodName)) ∈ WB := wb_2 (List.mem_of_getElem? (i := 229) rfl) rfl
theorem k_2_230 : (Jvm.Cond.selects "EarFerry" ({ cls := "EarFerry", name := "days", desc := "(I)I" } : Jvm.MethodName) ({ cls := "EarFerry", name := "days", desc := "(I)I" } : Jvm.MethodName)) ∈ WB := wb_2 (List.mem_of_getElem? (i := 230) rfl) rfl
theorem k_2_231 : (Jvm.Cond.code ({ cls := "EarFerry", name := "days", desc := "(I)I" } : Jvm.MethodName) prog_1_method_29_code (6 : Nat) (Option.some Jvm.ClassFile.FieldType.int)) ∈ WB := wb_2 (List.mem_of_getElem? (i := 231) rfl) rfl
theorem k_2_232 : (Jvm.Cond.constantLong "EarFerry" (224 : Nat) (6364136223846793005 : Int64)) ∈ WB := wb_2 (List.mem_of_getElem? (i := 232) rfl) rfl
theorem k_2_233 : (Jvm.Cond.constantLong "EarFerry" (226 : Nat) (1442695040888963407 : Int64)) ∈ WB := wb_2 (List.mem_of_getElem? (i := 233) rfl) rfl
theorem k_2_234 : (Jvm.Cond.constantLong "EarFerry" (228 : Nat) (64 : Int64)) ∈ WB := wb_2 (List.mem_of_getElem? (i := 234) rfl) rfl
theorem k_2_235 : (Jvm.Cond.methodLink "EarFerryLaw" (135 : Nat) ({ cls := "EarFerry", name := "keep", desc := "(I)I" } : Jvm.MethodName)) ∈ WB := wb_2 (List.mem_of_getElem? (i := 235) rfl) rfl
theorem k_2_236 : (Jvm.Cond.instanceMethod ({ cls := "EarFerry", name := "keep", desc := "(I)I" } : Jvm.MethodName)) ∈ WB := wb_2 (List.mem_of_getElem? (i := 236) rfl) rfl
theorem k_2_237 : (Jvm.Cond.selects "EarFerry" ({ cls := "EarFerry", name := "keep", desc := "(I)I" } : Jvm.MethodName) ({ cls := "EarFerry", name := "keep", desc := "(I)I" } : Jvm.MethodName)) ∈ WB := wb_2 (List.mem_of_getElem? (i := 237) rfl) rfl
theorem k_2_238 : (Jvm.Cond.code ({ cls := "EarFerry", name := "keep", desc := "(I)I" } : Jvm.MethodName) prog_1_method_30_code (2 : Nat) (Option.some Jvm.ClassFile.FieldType.int)) ∈ WB := wb_2 (List.mem_of_getElem? (i := 238) rfl) rfl
theorem k_2_239 : (Jvm.Cond.methodLink "EarFerryLaw" (139 : Nat) ({ cls := "EarFerry", name := "again", desc := "(I)I" } : Jvm.MethodName)) ∈ WB := wb_2 (List.mem_of_getElem? (i := 239) rfl) rfl
theorem k_3_0 : (Jvm.Cond.instanceMethod ({ cls := "EarFerry", name := "again", desc := "(I)I" } : Jvm.MethodName)) ∈ WB := wb_3 (List.mem_of_getElem? (i := 0) rfl) rfl
theorem k_3_1 : (Jvm.Cond.selects "EarFerry" ({ cls := "EarFerry", name := "again", desc := "(I)I" } : Jvm.MethodName) ({ cls := "EarFerry", name := "again", desc := "(I)I" } : Jvm.MethodName)) ∈ WB := wb_3 (List.mem_of_getElem? (i := 1) rfl) rfl
theorem k_3_2 : (Jvm.Cond.code ({ cls := "EarFerry", name := "again", desc := "(I)I" } : Jvm.MethodName) prog_1_method_31_code (2 : Nat) (Option.some Jvm.ClassFile.FieldType.int)) ∈ WB := wb_3 (List.mem_of_getElem? (i := 2) rfl) rfl
theorem k_3_3 : (Jvm.Cond.classLink "EarFerryLaw" (10 : Nat) "EarFerryModel") ∈ WB := wb_3 (List.mem_of_getElem? (i := 3) rfl) rfl
theorem k_3_4 : (Jvm.Cond.instantiable "EarFerryModel" (32 : Nat)) ∈ WB := wb_3 (List.mem_of_getElem? (i := 4) rfl) rfl
theorem k_3_5 : (Jvm.Cond.methodLink "EarFerryLaw" (12 : Nat) ({ cls := "EarFerryModel", name := "<init>", desc := "()V" } : Jvm.MethodName)) ∈ WB := wb_3 (List.mem_of_getElem? (i := 5) rfl) rfl
theorem k_3_6 : (Jvm.Cond.instanceMethod ({ cls := "EarFerryModel", name := "<init>", desc := "()V" } : Jvm.MethodName)) ∈ WB := wb_3 (List.mem_of_getElem? (i := 6) rfl) rfl
theorem k_3_7 : (Jvm.Cond.code ({ cls := "EarFerryModel", name := "<init>", desc := "()V" } : Jvm.MethodName) prog_7_method_1_code (1 : Nat) (Option.none : Option Jvm.ClassFile.FieldType)) ∈ WB := wb_3 (List.mem_of_getElem? (i := 7) rfl) rfl
theorem k_3_8 : (Jvm.Cond.methodLink "EarFerryModel" (1 : Nat) ({ cls := "java/lang/Object", name := "<init>", desc := "()V" } : Jvm.MethodName)) ∈ WB := wb_3 (List.mem_of_getElem? (i := 8) rfl) rfl
theorem k_3_9 : (Jvm.Cond.fieldLink "EarFerryModel" (56 : Nat) "EarFerryModel" "thrown" "I") ∈ WB := wb_3 (List.mem_of_getElem? (i := 9) rfl) rfl
theorem k_3_10 : (Jvm.Cond.fieldLink "EarFerryModel" (7 : Nat) "EarFerryModel" "text" "[I") ∈ WB := wb_3 (List.mem_of_getElem? (i := 10) rfl) rfl
theorem k_3_11 : (Jvm.Cond.fieldLink "EarFerryModel" (71 : Nat) "EarFerryModel" "textSize" "I") ∈ WB := wb_3 (List.mem_of_getElem? (i := 11) rfl) rfl
theorem k_3_12 : (Jvm.Cond.fieldLink "EarFerryModel" (74 : Nat) "EarFerryModel" "place" "I") ∈ WB := wb_3 (List.mem_of_getElem? (i := 12) rfl) rfl
theorem k_3_13 : (Jvm.Cond.fieldLink "EarFerryModel" (60 : Nat) "EarFerryModel" "sounds" "I") ∈ WB := wb_3 (List.mem_of_getElem? (i := 13) rfl) rfl
theorem k_3_14 : (Jvm.Cond.fieldLink "EarFerryModel" (13 : Nat) "EarFerryModel" "sound" "[I") ∈ WB := wb_3 (List.mem_of_getElem? (i := 14) rfl) rfl
theorem k_3_15 : (Jvm.Cond.fieldLink "EarFerryModel" (90 : Nat) "EarFerryModel" "readSounds" "I") ∈ WB := wb_3 (List.mem_of_getElem? (i := 15) rfl) rfl
theorem k_3_16 : (Jvm.Cond.fieldLink "EarFerryModel" (81 : Nat) "EarFerryModel" "readStart" "I") ∈ WB := wb_3 (List.mem_of_getElem? (i := 16) rfl) rfl
theorem k_3_17 : (Jvm.Cond.fieldLink "EarFerryModel" (84 : Nat) "EarFerryModel" "readRain" "I") ∈ WB := wb_3 (List.mem_of_getElem? (i := 17) rfl) rfl
theorem k_3_18 : (Jvm.Cond.fieldLink "EarFerryModel" (87 : Nat) "EarFerryModel" "readWind" "I") ∈ WB := wb_3 (List.mem_of_getElem? (i := 18) rfl) rfl
theorem k_3_19 : (Jvm.Cond.fieldLink "EarFerryModel" (16 : Nat) "EarFerryModel" "readSound" "[I") ∈ WB := wb_3 (List.mem_of_getElem? (i := 19) rfl) rfl
theorem k_3_20 : (Jvm.Cond.fieldLink "EarFerryModel" (19 : Nat) "EarFerryModel" "page" "[I") ∈ WB := wb_3 (List.mem_of_getElem? (i := 20) rfl) rfl
theorem k_3_21 : (Jvm.Cond.fieldLink "EarFerryModel" (22 : Nat) "EarFerryModel" "trial" "[I") ∈ WB := wb_3 (List.mem_of_getElem? (i := 21) rfl) rfl
theorem k_3_22 : (Jvm.Cond.fieldLink "EarFerryModel" (25 : Nat) "EarFerryModel" "book" "[I") ∈ WB := wb_3 (List.mem_of_getElem? (i := 22) rfl) rfl
theorem k_3_23 : (Jvm.Cond.fieldLink "EarFerryModel" (104 : Nat) "EarFerryModel" "acts" "I") ∈ WB := wb_3 (List.mem_of_getElem? (i := 23) rfl) rfl
theorem k_3_24 : (Jvm.Cond.fieldLink "EarFerryModel" (28 : Nat) "EarFerryModel" "kept" "[I") ∈ WB := wb_3 (List.mem_of_getElem? (i := 24) rfl) rfl
theorem k_3_25 : (Jvm.Cond.fieldLink "EarFerryModel" (31 : Nat) "EarFerryModel" "isKept" "[Z") ∈ WB := wb_3 (List.mem_of_getElem? (i := 25) rfl) rfl
theorem k_3_26 : (Jvm.Cond.fieldLink "EarFerryModel" (126 : Nat) "EarFerryModel" "seen" "I") ∈ WB := wb_3 (List.mem_of_getElem? (i := 26) rfl) rfl
theorem k_3_27 : (Jvm.Cond.fieldLink "EarFerryModel" (35 : Nat) "EarFerryModel" "seenSound" "[I") ∈ WB := wb_3 (List.mem_of_getElem? (i := 27) rfl) rfl
theorem k_3_28 : (Jvm.Cond.fieldLink "EarFerryModel" (38 : Nat) "EarFerryModel" "seenCell" "[I") ∈ WB := wb_3 (List.mem_of_getElem? (i := 28) rfl) rfl
theorem k_3_29 : (Jvm.Cond.fieldLink "EarFerryModel" (41 : Nat) "EarFerryModel" "seenHour" "[I") ∈ WB := wb_3 (List.mem_of_getElem? (i := 29) rfl) rfl
theorem k_3_30 : (Jvm.Cond.fieldLink "EarFerryModel" (44 : Nat) "EarFerryModel" "seenHeard" "[Z") ∈ WB := wb_3 (List.mem_of_getElem? (i := 30) rfl) rfl
theorem k_3_31 : (Jvm.Cond.fieldLink "EarFerryModel" (201 : Nat) "EarFerryModel" "seed" "J") ∈ WB := wb_3 (List.mem_of_getElem? (i := 31) rfl) rfl
theorem k_3_32 : (Jvm.Cond.fieldLink "EarFerryModel" (47 : Nat) "EarFerryModel" "set" "[I") ∈ WB := wb_3 (List.mem_of_getElem? (i := 32) rfl) rfl
theorem k_3_33 : (Jvm.Cond.fieldLink "EarFerryModel" (50 : Nat) "EarFerryModel" "value" "[I") ∈ WB := wb_3 (List.mem_of_getElem? (i := 33) rfl) rfl
theorem k_3_34 : (Jvm.Cond.fieldLink "EarFerryModel" (53 : Nat) "EarFerryModel" "many" "[I") ∈ WB := wb_3 (List.mem_of_getElem? (i := 34) rfl) rfl
theorem k_3_35 : (Jvm.Cond.fieldLink "EarFerryModel" (167 : Nat) "EarFerryModel" "hammerMany" "I") ∈ WB := wb_3 (List.mem_of_getElem? (i := 35) rfl) rfl
theorem k_3_36 : (Jvm.Cond.fieldLink "EarFerryModel" (170 : Nat) "EarFerryModel" "hammerFirst" "I") ∈ WB := wb_3 (List.mem_of_getElem? (i := 36) rfl) rfl
theorem k_3_37 : (Jvm.Cond.fieldLink "EarFerryModel" (186 : Nat) "EarFerryModel" "bestFrom" "I") ∈ WB := wb_3 (List.mem_of_getElem? (i := 37) rfl) rfl
theorem k_3_38 : (Jvm.Cond.fieldLink "EarFerryModel" (183 : Nat) "EarFerryModel" "bestMany" "I") ∈ WB := wb_3 (List.mem_of_getElem? (i := 38) rfl) rfl
theorem k_3_39 : (Jvm.Cond.fieldLink "EarFerryModel" (189 : Nat) "EarFerryModel" "weatherMany" "I") ∈ WB := wb_3 (List.mem_of_getElem? (i := 39) rfl) rfl
theorem k_3_40 : (Jvm.Cond.fieldLink "EarFerryModel" (192 : Nat) "EarFerryModel" "weatherFirst" "I") ∈ WB := wb_3 (List.mem_of_getElem? (i := 40) rfl) rfl
theorem k_3_41 : (Jvm.Cond.lays "EarFerryModel" "EarFerryModel" "thrown" "I") ∈ WB := wb_3 (List.mem_of_getElem? (i := 41) rfl) rfl
theorem k_3_43 : (Jvm.Cond.laysFinal "EarFerryModel" "EarFerryModel" "text" "[I") ∈ WB := wb_3 (List.mem_of_getElem? (i := 43) rfl) rfl
theorem k_3_45 : (Jvm.Cond.lays "EarFerryModel" "EarFerryModel" "textSize" "I") ∈ WB := wb_3 (List.mem_of_getElem? (i := 45) rfl) rfl
theorem k_3_47 : (Jvm.Cond.lays "EarFerryModel" "EarFerryModel" "place" "I") ∈ WB := wb_3 (List.mem_of_getElem? (i := 47) rfl) rfl
theorem k_3_49 : (Jvm.Cond.lays "EarFerryModel" "EarFerryModel" "sounds" "I") ∈ WB := wb_3 (List.mem_of_getElem? (i := 49) rfl) rfl
theorem k_3_51 : (Jvm.Cond.laysFinal "EarFerryModel" "EarFerryModel" "sound" "[I") ∈ WB := wb_3 (List.mem_of_getElem? (i := 51) rfl) rfl
theorem k_3_53 : (Jvm.Cond.lays "EarFerryModel" "EarFerryModel" "readSounds" "I") ∈ WB := wb_3 (List.mem_of_getElem? (i := 53) rfl) rfl
theorem k_3_55 : (Jvm.Cond.lays "EarFerryModel" "EarFerryModel" "readStart" "I") ∈ WB := wb_3 (List.mem_of_getElem? (i := 55) rfl) rfl
theorem k_3_57 : (Jvm.Cond.lays "EarFerryModel" "EarFerryModel" "readRain" "I") ∈ WB := wb_3 (List.mem_of_getElem? (i := 57) rfl) rfl
theorem k_3_59 : (Jvm.Cond.lays "EarFerryModel" "EarFerryModel" "readWind" "I") ∈ WB := wb_3 (List.mem_of_getElem? (i := 59) rfl) rfl
theorem k_3_61 : (Jvm.Cond.laysFinal "EarFerryModel" "EarFerryModel" "readSound" "[I") ∈ WB := wb_3 (List.mem_of_getElem? (i := 61) rfl) rfl
theorem k_3_63 : (Jvm.Cond.laysFinal "EarFerryModel" "EarFerryModel" "page" "[I") ∈ WB := wb_3 (List.mem_of_getElem? (i := 63) rfl) rfl
theorem k_3_65 : (Jvm.Cond.laysFinal "EarFerryModel" "EarFerryModel" "trial" "[I") ∈ WB := wb_3 (List.mem_of_getElem? (i := 65) rfl) rfl
theorem k_3_67 : (Jvm.Cond.laysFinal "EarFerryModel" "EarFerryModel" "book" "[I") ∈ WB := wb_3 (List.mem_of_getElem? (i := 67) rfl) rfl
theorem k_3_69 : (Jvm.Cond.lays "EarFerryModel" "EarFerryModel" "acts" "I") ∈ WB := wb_3 (List.mem_of_getElem? (i := 69) rfl) rfl
theorem k_3_71 : (Jvm.Cond.laysFinal "EarFerryModel" "EarFerryModel" "kept" "[I") ∈ WB := wb_3 (List.mem_of_getElem? (i := 71) rfl) rfl
theorem k_3_73 : (Jvm.Cond.laysFinal "EarFerryModel" "EarFerryModel" "isKept" "[Z") ∈ WB := wb_3 (List.mem_of_getElem? (i := 73) rfl) rfl
theorem k_3_75 : (Jvm.Cond.lays "EarFerryModel" "EarFerryModel" "seen" "I") ∈ WB := wb_3 (List.mem_of_getElem? (i := 75) rfl) rfl
theorem k_3_77 : (Jvm.Cond.laysFinal "EarFerryModel" "EarFerryModel" "seenSound" "[I") ∈ WB := wb_3 (List.mem_of_getElem? (i := 77) rfl) rfl
theorem k_3_79 : (Jvm.Cond.laysFinal "EarFerryModel" "EarFerryModel" "seenCell" "[I") ∈ WB := wb_3 (List.mem_of_getElem? (i := 79) rfl) rfl
theorem k_3_81 : (Jvm.Cond.laysFinal "EarFerryModel" "EarFerryModel" "seenHour" "[I") ∈ WB := wb_3 (List.mem_of_getElem? (i := 81) rfl) rfl
theorem k_3_83 : (Jvm.Cond.laysFinal "EarFerryModel" "EarFerryModel" "seenHeard" "[Z") ∈ WB := wb_3 (List.mem_of_getElem? (i := 83) rfl) rfl
theorem k_3_85 : (Jvm.Cond.lays "EarFerryModel" "EarFerryModel" "seed" "J") ∈ WB := wb_3 (List.mem_of_getElem? (i := 85) rfl) rfl
theorem k_3_87 : (Jvm.Cond.laysFinal "EarFerryModel" "EarFerryModel" "set" "[I") ∈ WB := wb_3 (List.mem_of_getElem? (i := 87) rfl) rfl
theorem k_3_89 : (Jvm.Cond.laysFinal "EarFerryModel" "EarFerryModel" "value" "[I") ∈ WB := wb_3 (List.mem_of_getElem? (i := 89) rfl) rfl
theorem k_3_91 : (Jvm.Cond.laysFinal "EarFerryModel" "EarFerryModel" "many" "[I") ∈ WB := wb_3 (List.mem_of_getElem? (i := 91) rfl) rfl
theorem k_3_93 : (Jvm.Cond.lays "EarFerryModel" "EarFerryModel" "hammerMany" "I") ∈ WB := wb_3 (List.mem_of_getElem? (i := 93) rfl) rfl
theorem k_3_95 : (Jvm.Cond.lays "EarFerryModel" "EarFerryModel" "hammerFirst" "I") ∈ WB := wb_3 (List.mem_of_getElem? (i := 95) rfl) rfl
theorem k_3_97 : (Jvm.Cond.lays "EarFerryModel" "EarFerryModel" "bestFrom" "I") ∈ WB := wb_3 (List.mem_of_getElem? (i := 97) rfl) rfl
theorem k_3_99 : (Jvm.Cond.lays "EarFerryModel" "EarFerryModel" "bestMany" "I") ∈ WB := wb_3 (List.mem_of_getElem? (i := 99) rfl) rfl
theorem k_3_101 : (Jvm.Cond.lays "EarFerryModel" "EarFerryModel" "weatherMany" "I") ∈ WB := wb_3 (List.mem_of_getElem? (i := 101) rfl) rfl
theorem k_3_103 : (Jvm.Cond.lays "EarFerryModel" "EarFerryModel" "weatherFirst" "I") ∈ WB := wb_3 (List.mem_of_getElem? (i := 103) rfl) rfl
theorem k_3_106 : (Jvm.Cond.methodLink "EarFerryLaw" (17 : Nat) ({ cls := "EarFerryModel", name := "write", desc := "(I)I" } : Jvm.MethodName)) ∈ WB := wb_3 (List.mem_of_getElem? (i := 106) rfl) rfl
theorem k_3_107 : (Jvm.Cond.instanceMethod ({ cls := "EarFerryModel", name := "write", desc := "(I)I" } : Jvm.MethodName)) ∈ WB := wb_3 (List.mem_of_getElem? (i := 107) rfl) rfl
theorem k_3_108 : (Jvm.Cond.selects "EarFerryModel" ({ cls := "EarFerryModel", name := "write", desc := "(I)I" } : Jvm.MethodName) ({ cls := "EarFerryModel", name := "write", desc := "(I)I" } : Jvm.MethodName)) ∈ WB := wb_3 (List.mem_of_getElem? (i := 108) rfl) rfl
theorem k_3_109 : (Jvm.Cond.code ({ cls := "EarFerryModel", name := "write", desc := "(I)I" } : Jvm.MethodName) prog_7_method_10_code (2 : Nat) (Option.some Jvm.ClassFile.FieldType.int)) ∈ WB := wb_3 (List.mem_of_getElem? (i := 109) rfl) rfl
theorem k_3_110 : (Jvm.Cond.constantLong "EarFerryModel" (69 : Nat) (255 : Int64)) ∈ WB := wb_3 (List.mem_of_getElem? (i := 110) rfl) rfl
theorem k_3_111 : (Jvm.Cond.methodLink "EarFerryModel" (63 : Nat) ({ cls := "EarFerryModel", name := "in", desc := "(JJJ)Z" } : Jvm.MethodName)) ∈ WB := wb_3 (List.mem_of_getElem? (i := 111) rfl) rfl
theorem k_3_112 : (Jvm.Cond.static ({ cls := "EarFerryModel", name := "in", desc := "(JJJ)Z" } : Jvm.MethodName)) ∈ WB := wb_3 (List.mem_of_getElem? (i := 112) rfl) rfl
theorem k_3_113 : (Jvm.Cond.code ({ cls := "EarFerryModel", name := "in", desc := "(JJJ)Z" } : Jvm.MethodName) prog_7_method_3_code (6 : Nat) (Option.some Jvm.ClassFile.FieldType.boolean)) ∈ WB := wb_3 (List.mem_of_getElem? (i := 113) rfl) rfl
theorem k_3_114 : (Jvm.Cond.methodLink "EarFerryLaw" (22 : Nat) ({ cls := "EarFerryModel", name := "wipe", desc := "()I" } : Jvm.MethodName)) ∈ WB := wb_3 (List.mem_of_getElem? (i := 114) rfl) rfl
theorem k_3_115 : (Jvm.Cond.instanceMethod ({ cls := "EarFerryModel", name := "wipe", desc := "()I" } : Jvm.MethodName)) ∈ WB := wb_3 (List.mem_of_getElem? (i := 115) rfl) rfl
theorem k_3_116 : (Jvm.Cond.selects "EarFerryModel" ({ cls := "EarFerryModel", name := "wipe", desc := "()I" } : Jvm.MethodName) ({ cls := "EarFerryModel", name := "wipe", desc := "()I" } : Jvm.MethodName)) ∈ WB := wb_3 (List.mem_of_getElem? (i := 116) rfl) rfl
theorem k_3_117 : (Jvm.Cond.code ({ cls := "EarFerryModel", name := "wipe", desc := "()I" } : Jvm.MethodName) prog_7_method_11_code (2 : Nat) (Option.some Jvm.ClassFile.FieldType.int)) ∈ WB := wb_3 (List.mem_of_getElem? (i := 117) rfl) rfl
theorem k_3_118 : (Jvm.Cond.methodLink "EarFerryLaw" (26 : Nat) ({ cls := "EarFerryModel", name := "fault", desc := "()I" } : Jvm.MethodName)) ∈ WB := wb_3 (List.mem_of_getElem? (i := 118) rfl) rfl
theorem k_3_119 : (Jvm.Cond.instanceMethod ({ cls := "EarFerryModel", name := "fault", desc := "()I" } : Jvm.MethodName)) ∈ WB := wb_3 (List.mem_of_getElem? (i := 119) rfl) rfl
theorem k_3_120 : (Jvm.Cond.selects "EarFerryModel" ({ cls := "EarFerryModel", name := "fault", desc := "()I" } : Jvm.MethodName) ({ cls := "EarFerryModel", name := "fault", desc := "()I" } : Jvm.MethodName)) ∈ WB := wb_3 (List.mem_of_getElem? (i := 120) rfl) rfl
theorem k_3_121 : (Jvm.Cond.code ({ cls := "EarFerryModel", name := "fault", desc := "()I" } : Jvm.MethodName) prog_7_method_16_code (1 : Nat) (Option.some Jvm.ClassFile.FieldType.int)) ∈ WB := wb_3 (List.mem_of_getElem? (i := 121) rfl) rfl
theorem k_3_122 : (Jvm.Cond.methodLink "EarFerryModel" (100 : Nat) ({ cls := "EarFerryModel", name := "readRiver", desc := "()I" } : Jvm.MethodName)) ∈ WB := wb_3 (List.mem_of_getElem? (i := 122) rfl) rfl
theorem k_3_124 : (Jvm.Cond.instanceMethod ({ cls := "EarFerryModel", name := "readRiver", desc := "()I" } : Jvm.MethodName)) ∈ WB := wb_3 (List.mem_of_getElem? (i := 124) rfl) rfl
theorem k_3_125 : (Jvm.Cond.code ({ cls := "EarFerryModel", name := "readRiver", desc := "()I" } : Jvm.MethodName) prog_7_method_15_code (1 : Nat) (Option.some Jvm.ClassFile.FieldType.int)) ∈ WB := wb_3 (List.mem_of_getElem? (i := 125) rfl) rfl
theorem k_3_126 : (Jvm.Cond.methodLink "EarFerryModel" (93 : Nat) ({ cls := "EarFerryModel", name := "readHead", desc := "()Z" } : Jvm.MethodName)) ∈ WB := wb_3 (List.mem_of_getElem? (i := 126) rfl) rfl
theorem k_3_128 : (Jvm.Cond.instanceMethod ({ cls := "EarFerryModel", name := "readHead", desc := "()Z" } : Jvm.MethodName)) ∈ WB := wb_3 (List.mem_of_getElem? (i := 128) rfl) rfl
theorem k_3_129 : (Jvm.Cond.code ({ cls := "EarFerryModel", name := "readHead", desc := "()Z" } : Jvm.MethodName) prog_7_method_13_code (1 : Nat) (Option.some Jvm.ClassFile.FieldType.boolean)) ∈ WB := wb_3 (List.mem_of_getElem? (i := 129) rfl) rfl
theorem k_3_130 : (Jvm.Cond.methodLink "EarFerryModel" (77 : Nat) ({ cls := "EarFerryModel", name := "figure", desc := "(II)I" } : Jvm.MethodName)) ∈ WB := wb_3 (List.mem_of_getElem? (i := 130) rfl) rfl
theorem k_3_132 : (Jvm.Cond.instanceMethod ({ cls := "EarFerryModel", name := "figure", desc := "(II)I" } : Jvm.MethodName)) ∈ WB := wb_3 (List.mem_of_getElem? (i := 132) rfl) rfl
theorem k_3_133 : (Jvm.Cond.code ({ cls := "EarFerryModel", name := "figure", desc := "(II)I" } : Jvm.MethodName) prog_7_method_12_code (3 : Nat) (Option.some Jvm.ClassFile.FieldType.int)) ∈ WB := wb_3 (List.mem_of_getElem? (i := 133) rfl) rfl
theorem k_3_134 : (Jvm.Cond.methodLink "EarFerryModel" (97 : Nat) ({ cls := "EarFerryModel", name := "readPart", desc := "()Z" } : Jvm.MethodName)) ∈ WB := wb_3 (List.mem_of_getElem? (i := 134) rfl) rfl
theorem k_3_136 : (Jvm.Cond.instanceMethod ({ cls := "EarFerryModel", name := "readPart", desc := "()Z" } : Jvm.MethodName)) ∈ WB := wb_3 (List.mem_of_getElem? (i := 136) rfl) rfl
theorem k_3_137 : (Jvm.Cond.code ({ cls := "EarFerryModel", name := "readPart", desc := "()Z" } : Jvm.MethodName) prog_7_method_14_code (5 : Nat) (Option.some Jvm.ClassFile.FieldType.boolean)) ∈ WB := wb_3 (List.mem_of_getElem? (i := 137) rfl) rfl
theorem k_3_138 : (Jvm.Cond.methodLink "EarFerryLaw" (30 : Nat) ({ cls := "EarFerryModel", name := "river", desc := "()I" } : Jvm.MethodName)) ∈ WB := wb_3 (List.mem_of_getElem? (i := 138) rfl) rfl
theorem k_3_139 : (Jvm.Cond.instanceMethod ({ cls := "EarFerryModel", name := "river", desc := "()I" } : Jvm.MethodName)) ∈ WB := wb_3 (List.mem_of_getElem? (i := 139) rfl) rfl
theorem k_3_140 : (Jvm.Cond.selects "EarFerryModel" ({ cls := "EarFerryModel", name := "river", desc := "()I" } : Jvm.MethodName) ({ cls := "EarFerryModel", name := "river", desc := "()I" } : Jvm.MethodName)) ∈ WB := wb_3 (List.mem_of_getElem? (i := 140) rfl) rfl
theorem k_3_141 : (Jvm.Cond.code ({ cls := "EarFerryModel", name := "river", desc := "()I" } : Jvm.MethodName) prog_7_method_17_code (2 : Nat) (Option.some Jvm.ClassFile.FieldType.int)) ∈ WB := wb_3 (List.mem_of_getElem? (i := 141) rfl) rfl
theorem k_3_142 : (Jvm.Cond.methodLink "EarFerryLaw" (34 : Nat) ({ cls := "EarFerryModel", name := "about", desc := "(I)I" } : Jvm.MethodName)) ∈ WB := wb_3 (List.mem_of_getElem? (i := 142) rfl) rfl
theorem k_3_143 : (Jvm.Cond.instanceMethod ({ cls := "EarFerryModel", name := "about", desc := "(I)I" } : Jvm.MethodName)) ∈ WB := wb_3 (List.mem_of_getElem? (i := 143) rfl) rfl
theorem k_3_144 : (Jvm.Cond.selects "EarFerryModel" ({ cls := "EarFerryModel", name := "about", desc := "(I)I" } : Jvm.MethodName) ({ cls := "EarFerryModel", name := "about", desc := "(I)I" } : Jvm.MethodName)) ∈ WB := wb_3 (List.mem_of_getElem? (i := 144) rfl) rfl
theorem k_3_145 : (Jvm.Cond.code ({ cls := "EarFerryModel", name := "about", desc := "(I)I" } : Jvm.MethodName) prog_7_method_23_code (2 : Nat) (Option.some Jvm.ClassFile.FieldType.int)) ∈ WB := wb_3 (List.mem_of_getElem? (i := 145) rfl) rfl
theorem k_3_146 : (Jvm.Cond.methodLink "EarFerryLaw" (39 : Nat) ({ cls := "EarFerryModel", name := "sound", desc := "(II)I" } : Jvm.MethodName)) ∈ WB := wb_3 (List.mem_of_getElem? (i := 146) rfl) rfl
theorem k_3_147 : (Jvm.Cond.instanceMethod ({ cls := "EarFerryModel", name := "sound", desc := "(II)I" } : Jvm.MethodName)) ∈ WB := wb_3 (List.mem_of_getElem? (i := 147) rfl) rfl
theorem k_3_148 : (Jvm.Cond.selects "EarFerryModel" ({ cls := "EarFerryModel", name := "sound", desc := "(II)I" } : Jvm.MethodName) ({ cls := "EarFerryModel", name := "sound", desc := "(II)I" } : Jvm.MethodName)) ∈ WB := wb_3 (List.mem_of_getElem? (i := 148) rfl) rfl
theorem k_3_149 : (Jvm.Cond.code ({ cls := "EarFerryModel", name := "sound", desc := "(II)I" } : Jvm.MethodName) prog_7_method_24_code (5 : Nat) (Option.some Jvm.ClassFile.FieldType.int)) ∈ WB := wb_3 (List.mem_of_getElem? (i := 149) rfl) rfl
theorem k_3_150 : (Jvm.Cond.methodLink "EarFerryModel" (129 : Nat) ({ cls := "EarFerryModel", name := "noSound", desc := "(I)Z" } : Jvm.MethodName)) ∈ WB := wb_3 (List.mem_of_getElem? (i := 150) rfl) rfl
theorem k_3_152 : (Jvm.Cond.instanceMethod ({ cls := "EarFerryModel", name := "noSound", desc := "(I)Z" } : Jvm.MethodName)) ∈ WB := wb_3 (List.mem_of_getElem? (i := 152) rfl) rfl
theorem k_3_153 : (Jvm.Cond.code ({ cls := "EarFerryModel", name := "noSound", desc := "(I)Z" } : Jvm.MethodName) prog_7_method_7_code (2 : Nat) (Option.some Jvm.ClassFile.FieldType.boolean)) ∈ WB := wb_3 (List.mem_of_getElem? (i := 153) rfl) rfl
theorem k_3_154 : (Jvm.Cond.constantLong "EarFerryModel" (133 : Nat) (4 : Int64)) ∈ WB := wb_3 (List.mem_of_getElem? (i := 154) rfl) rfl
theorem k_3_155 : (Jvm.Cond.methodLink "EarFerryModel" (118 : Nat) ({ cls := "EarFerryModel", name := "hears", desc := "([IIII)Z" } : Jvm.MethodName)) ∈ WB := wb_3 (List.mem_of_getElem? (i := 155) rfl) rfl
theorem k_3_157 : (Jvm.Cond.instanceMethod ({ cls := "EarFerryModel", name := "hears", desc := "([IIII)Z" } : Jvm.MethodName)) ∈ WB := wb_3 (List.mem_of_getElem? (i := 157) rfl) rfl
theorem k_3_158 : (Jvm.Cond.code ({ cls := "EarFerryModel", name := "hears", desc := "([IIII)Z" } : Jvm.MethodName) prog_7_method_19_code (6 : Nat) (Option.some Jvm.ClassFile.FieldType.boolean)) ∈ WB := wb_3 (List.mem_of_getElem? (i := 158) rfl) rfl
theorem k_3_159 : (Jvm.Cond.methodLink "EarFerryModel" (110 : Nat) ({ cls := "EarFerryModel", name := "has", desc := "(II)Z" } : Jvm.MethodName)) ∈ WB := wb_3 (List.mem_of_getElem? (i := 159) rfl) rfl
theorem k_3_160 : (Jvm.Cond.static ({ cls := "EarFerryModel", name := "has", desc := "(II)Z" } : Jvm.MethodName)) ∈ WB := wb_3 (List.mem_of_getElem? (i := 160) rfl) rfl
theorem k_3_161 : (Jvm.Cond.code ({ cls := "EarFerryModel", name := "has", desc := "(II)Z" } : Jvm.MethodName) prog_7_method_4_code (2 : Nat) (Option.some Jvm.ClassFile.FieldType.boolean)) ∈ WB := wb_3 (List.mem_of_getElem? (i := 161) rfl) rfl
theorem k_3_162 : (Jvm.Cond.methodLink "EarFerryModel" (114 : Nat) ({ cls := "EarFerryModel", name := "carries", desc := "([IIIII)Z" } : Jvm.MethodName)) ∈ WB := wb_3 (List.mem_of_getElem? (i := 162) rfl) rfl
theorem k_3_163 : (Jvm.Cond.static ({ cls := "EarFerryModel", name := "carries", desc := "([IIIII)Z" } : Jvm.MethodName)) ∈ WB := wb_3 (List.mem_of_getElem? (i := 163) rfl) rfl
theorem k_3_164 : (Jvm.Cond.code ({ cls := "EarFerryModel", name := "carries", desc := "([IIIII)Z" } : Jvm.MethodName) prog_7_method_18_code (7 : Nat) (Option.some Jvm.ClassFile.FieldType.boolean)) ∈ WB := wb_3 (List.mem_of_getElem? (i := 164) rfl) rfl
theorem k_3_165 : (Jvm.Cond.methodLink "EarFerryModel" (107 : Nat) ({ cls := "EarFerryModel", name := "far", desc := "(II)I" } : Jvm.MethodName)) ∈ WB := wb_3 (List.mem_of_getElem? (i := 165) rfl) rfl
theorem k_3_166 : (Jvm.Cond.static ({ cls := "EarFerryModel", name := "far", desc := "(II)I" } : Jvm.MethodName)) ∈ WB := wb_3 (List.mem_of_getElem? (i := 166) rfl) rfl
theorem k_3_167 : (Jvm.Cond.code ({ cls := "EarFerryModel", name := "far", desc := "(II)I" } : Jvm.MethodName) prog_7_method_6_code (2 : Nat) (Option.some Jvm.ClassFile.FieldType.int)) ∈ WB := wb_3 (List.mem_of_getElem? (i := 167) rfl) rfl
theorem k_3_168 : (Jvm.Cond.methodLink "EarFerryLaw" (43 : Nat) ({ cls := "EarFerryModel", name := "row", desc := "(I)I" } : Jvm.MethodName)) ∈ WB := wb_3 (List.mem_of_getElem? (i := 168) rfl) rfl
theorem k_3_169 : (Jvm.Cond.instanceMethod ({ cls := "EarFerryModel", name := "row", desc := "(I)I" } : Jvm.MethodName)) ∈ WB := wb_3 (List.mem_of_getElem? (i := 169) rfl) rfl
theorem k_3_170 : (Jvm.Cond.selects "EarFerryModel" ({ cls := "EarFerryModel", name := "row", desc := "(I)I" } : Jvm.MethodName) ({ cls := "EarFerryModel", name := "row", desc := "(I)I" } : Jvm.MethodName)) ∈ WB := wb_3 (List.mem_of_getElem? (i := 170) rfl) rfl
theorem k_3_171 : (Jvm.Cond.code ({ cls := "EarFerryModel", name := "row", desc := "(I)I" } : Jvm.MethodName) prog_7_method_26_code (3 : Nat) (Option.some Jvm.ClassFile.FieldType.int)) ∈ WB := wb_3 (List.mem_of_getElem? (i := 171) rfl) rfl
theorem k_3_172 : (Jvm.Cond.constantLong "EarFerryModel" (135 : Nat) (2 : Int64)) ∈ WB := wb_3 (List.mem_of_getElem? (i := 172) rfl) rfl
theorem k_3_173 : (Jvm.Cond.methodLink "EarFerryModel" (137 : Nat) ({ cls := "EarFerryModel", name := "noCell", desc := "(I)Z" } : Jvm.MethodName)) ∈ WB := wb_3 (List.mem_of_getElem? (i := 173) rfl) rfl
theorem k_3_174 : (Jvm.Cond.static ({ cls := "EarFerryModel", name := "noCell", desc := "(I)Z" } : Jvm.MethodName)) ∈ WB := wb_3 (List.mem_of_getElem? (i := 174) rfl) rfl
theorem k_3_175 : (Jvm.Cond.code ({ cls := "EarFerryModel", name := "noCell", desc := "(I)Z" } : Jvm.MethodName) prog_7_method_8_code (1 : Nat) (Option.some Jvm.ClassFile.FieldType.boolean)) ∈ WB := wb_3 (List.mem_of_getElem? (i := 175) rfl) rfl
theorem k_3_176 : (Jvm.Cond.constantLong "EarFerryModel" (67 : Nat) (9 : Int64)) ∈ WB := wb_3 (List.mem_of_getElem? (i := 176) rfl) rfl
theorem k_3_177 : (Jvm.Cond.methodLink "EarFerryModel" (140 : Nat) ({ cls := "EarFerryModel", name := "note", desc := "()V" } : Jvm.MethodName)) ∈ WB := wb_3 (List.mem_of_getElem? (i := 177) rfl) rfl
theorem k_3_179 : (Jvm.Cond.instanceMethod ({ cls := "EarFerryModel", name := "note", desc := "()V" } : Jvm.MethodName)) ∈ WB := wb_3 (List.mem_of_getElem? (i := 179) rfl) rfl
theorem k_3_180 : (Jvm.Cond.code ({ cls := "EarFerryModel", name := "note", desc := "()V" } : Jvm.MethodName) prog_7_method_25_code (2 : Nat) (Option.none : Option Jvm.ClassFile.FieldType)) ∈ WB := wb_3 (List.mem_of_getElem? (i := 180) rfl) rfl
theorem k_3_181 : (Jvm.Cond.methodLink "EarFerryModel" (122 : Nat) ({ cls := "EarFerryModel", name := "heardAt", desc := "([III)I" } : Jvm.MethodName)) ∈ WB := wb_3 (List.mem_of_getElem? (i := 181) rfl) rfl
theorem k_3_183 : (Jvm.Cond.instanceMethod ({ cls := "EarFerryModel", name := "heardAt", desc := "([III)I" } : Jvm.MethodName)) ∈ WB := wb_3 (List.mem_of_getElem? (i := 183) rfl) rfl
theorem k_3_184 : (Jvm.Cond.code ({ cls := "EarFerryModel", name := "heardAt", desc := "([III)I" } : Jvm.MethodName) prog_7_method_20_code (6 : Nat) (Option.some Jvm.ClassFile.FieldType.int)) ∈ WB := wb_3 (List.mem_of_getElem? (i := 184) rfl) rfl
theorem k_3_185 : (Jvm.Cond.methodLink "EarFerryLaw" (47 : Nat) ({ cls := "EarFerryModel", name := "hush", desc := "(I)I" } : Jvm.MethodName)) ∈ WB := wb_3 (List.mem_of_getElem? (i := 185) rfl) rfl
theorem k_3_186 : (Jvm.Cond.instanceMethod ({ cls := "EarFerryModel", name := "hush", desc := "(I)I" } : Jvm.MethodName)) ∈ WB := wb_3 (List.mem_of_getElem? (i := 186) rfl) rfl
theorem k_3_187 : (Jvm.Cond.selects "EarFerryModel" ({ cls := "EarFerryModel", name := "hush", desc := "(I)I" } : Jvm.MethodName) ({ cls := "EarFerryModel", name := "hush", desc := "(I)I" } : Jvm.MethodName)) ∈ WB := wb_3 (List.mem_of_getElem? (i := 187) rfl) rfl
theorem k_3_188 : (Jvm.Cond.code ({ cls := "EarFerryModel", name := "hush", desc := "(I)I" } : Jvm.MethodName) prog_7_method_27_code (2 : Nat) (Option.some Jvm.ClassFile.FieldType.int)) ∈ WB := wb_3 (List.mem_of_getElem? (i := 188) rfl) rfl
theorem k_3_189 : (Jvm.Cond.methodLink "EarFerryLaw" (51 : Nat) ({ cls := "EarFerryModel", name := "hammer", desc := "(I)I" } : Jvm.MethodName)) ∈ WB := wb_3 (List.mem_of_getElem? (i := 189) rfl) rfl
theorem k_3_190 : (Jvm.Cond.instanceMethod ({ cls := "EarFerryModel", name := "hammer", desc := "(I)I" } : Jvm.MethodName)) ∈ WB := wb_3 (List.mem_of_getElem? (i := 190) rfl) rfl
theorem k_3_191 : (Jvm.Cond.selects "EarFerryModel" ({ cls := "EarFerryModel", name := "hammer", desc := "(I)I" } : Jvm.MethodName) ({ cls := "EarFerryModel", name := "hammer", desc := "(I)I" } : Jvm.MethodName)) ∈ WB := wb_3 (List.mem_of_getElem? (i := 191) rfl) rfl
theorem k_3_192 : (Jvm.Cond.code ({ cls := "EarFerryModel", name := "hammer", desc := "(I)I" } : Jvm.MethodName) prog_7_method_28_code (4 : Nat) (Option.some Jvm.ClassFile.FieldType.int)) ∈ WB := wb_3 (List.mem_of_getElem? (i := 192) rfl) rfl
theorem k_3_193 : (Jvm.Cond.methodLink "EarFerryLaw" (55 : Nat) ({ cls := "EarFerryModel", name := "change", desc := "(II)I" } : Jvm.MethodName)) ∈ WB := wb_3 (List.mem_of_getElem? (i := 193) rfl) rfl
theorem k_3_194 : (Jvm.Cond.instanceMethod ({ cls := "EarFerryModel", name := "change", desc := "(II)I" } : Jvm.MethodName)) ∈ WB := wb_3 (List.mem_of_getElem? (i := 194) rfl) rfl
theorem k_3_195 : (Jvm.Cond.selects "EarFerryModel" ({ cls := "EarFerryModel", name := "change", desc := "(II)I" } : Jvm.MethodName) ({ cls := "EarFerryModel", name := "change", desc := "(II)I" } : Jvm.MethodName)) ∈ WB := wb_3 (List.mem_of_getElem? (i := 195) rfl) rfl
theorem k_3_196 : (Jvm.Cond.code ({ cls := "EarFerryModel", name := "change", desc := "(II)I" } : Jvm.MethodName) prog_7_method_29_code (4 : Nat) (Option.some Jvm.ClassFile.FieldType.int)) ∈ WB := wb_3 (List.mem_of_getElem? (i := 196) rfl) rfl
theorem k_3_197 : (Jvm.Cond.methodLink "EarFerryLaw" (59 : Nat) ({ cls := "EarFerryModel", name := "hour", desc := "()I" } : Jvm.MethodName)) ∈ WB := wb_3 (List.mem_of_getElem? (i := 197) rfl) rfl
theorem k_3_198 : (Jvm.Cond.instanceMethod ({ cls := "EarFerryModel", name := "hour", desc := "()I" } : Jvm.MethodName)) ∈ WB := wb_3 (List.mem_of_getElem? (i := 198) rfl) rfl
theorem k_3_199 : (Jvm.Cond.selects "EarFerryModel" ({ cls := "EarFerryModel", name := "hour", desc := "()I" } : Jvm.MethodName) ({ cls := "EarFerryModel", name := "hour", desc := "()I" } : Jvm.MethodName)) ∈ WB := wb_3 (List.mem_of_getElem? (i := 199) rfl) rfl
theorem k_3_200 : (Jvm.Cond.code ({ cls := "EarFerryModel", name := "hour", desc := "()I" } : Jvm.MethodName) prog_7_method_30_code (1 : Nat) (Option.some Jvm.ClassFile.FieldType.int)) ∈ WB := wb_3 (List.mem_of_getElem? (i := 200) rfl) rfl
theorem k_3_201 : (Jvm.Cond.methodLink "EarFerryLaw" (63 : Nat) ({ cls := "EarFerryModel", name := "undo", desc := "()I" } : Jvm.MethodName)) ∈ WB := wb_3 (List.mem_of_getElem? (i := 201) rfl) rfl
theorem k_3_202 : (Jvm.Cond.instanceMethod ({ cls := "EarFerryModel", name := "undo", desc := "()I" } : Jvm.MethodName)) ∈ WB := wb_3 (List.mem_of_getElem? (i := 202) rfl) rfl
theorem k_3_203 : (Jvm.Cond.selects "EarFerryModel" ({ cls := "EarFerryModel", name := "undo", desc := "()I" } : Jvm.MethodName) ({ cls := "EarFerryModel", name := "undo", desc := "()I" } : Jvm.MethodName)) ∈ WB := wb_3 (List.mem_of_getElem? (i := 203) rfl) rfl
theorem k_3_204 : (Jvm.Cond.code ({ cls := "EarFerryModel", name := "undo", desc := "()I" } : Jvm.MethodName) prog_7_method_31_code (2 : Nat) (Option.some Jvm.ClassFile.FieldType.int)) ∈ WB := wb_3 (List.mem_of_getElem? (i := 204) rfl) rfl
theorem k_3_205 : (Jvm.Cond.methodLink "EarFerryLaw" (67 : Nat) ({ cls := "EarFerryModel", name := "heard", desc := "(II)I" } : Jvm.MethodName)) ∈ WB := wb_3 (List.mem_of_getElem? (i := 205) rfl) rfl
theorem k_3_206 : (Jvm.Cond.instanceMethod ({ cls := "EarFerryModel", name := "heard", desc := "(II)I" } : Jvm.MethodName)) ∈ WB := wb_3 (List.mem_of_getElem? (i := 206) rfl) rfl
theorem k_3_207 : (Jvm.Cond.selects "EarFerryModel" ({ cls := "EarFerryModel", name := "heard", desc := "(II)I" } : Jvm.MethodName) ({ cls := "EarFerryModel", name := "heard", desc := "(II)I" } : Jvm.MethodName)) ∈ WB := wb_3 (List.mem_of_getElem? (i := 207) rfl) rfl
theorem k_3_208 : (Jvm.Cond.code ({ cls := "EarFerryModel", name := "heard", desc := "(II)I" } : Jvm.MethodName) prog_7_method_32_code (3 : Nat) (Option.some Jvm.ClassFile.FieldType.int)) ∈ WB := wb_3 (List.mem_of_getElem? (i := 208) rfl) rfl
theorem k_3_209 : (Jvm.Cond.methodLink "EarFerryModel" (143 : Nat) ({ cls := "EarFerryModel", name := "noHour", desc := "(I)Z" } : Jvm.MethodName)) ∈ WB := wb_3 (List.mem_of_getElem? (i := 209) rfl) rfl
theorem k_3_210 : (Jvm.Cond.static ({ cls := "EarFerryModel", name := "noHour", desc := "(I)Z" } : Jvm.MethodName)) ∈ WB := wb_3 (List.mem_of_getElem? (i := 210) rfl) rfl
theorem k_3_211 : (Jvm.Cond.code ({ cls := "EarFerryModel", name := "noHour", desc := "(I)Z" } : Jvm.MethodName) prog_7_method_9_code (1 : Nat) (Option.some Jvm.ClassFile.FieldType.boolean)) ∈ WB := wb_3 (List.mem_of_getElem? (i := 211) rfl) rfl
theorem k_3_212 : (Jvm.Cond.methodLink "EarFerryLaw" (71 : Nat) ({ cls := "EarFerryModel", name := "sure", desc := "(I)I" } : Jvm.MethodName)) ∈ WB := wb_3 (List.mem_of_getElem? (i := 212) rfl) rfl
theorem k_3_213 : (Jvm.Cond.instanceMethod ({ cls := "EarFerryModel", name := "sure", desc := "(I)I" } : Jvm.MethodName)) ∈ WB := wb_3 (List.mem_of_getElem? (i := 213) rfl) rfl
theorem k_3_214 : (Jvm.Cond.selects "EarFerryModel" ({ cls := "EarFerryModel", name := "sure", desc := "(I)I" } : Jvm.MethodName) ({ cls := "EarFerryModel", name := "sure", desc := "(I)I" } : Jvm.MethodName)) ∈ WB := wb_3 (List.mem_of_getElem? (i := 214) rfl) rfl
theorem k_3_215 : (Jvm.Cond.code ({ cls := "EarFerryModel", name := "sure", desc := "(I)I" } : Jvm.MethodName) prog_7_method_33_code (2 : Nat) (Option.some Jvm.ClassFile.FieldType.int)) ∈ WB := wb_3 (List.mem_of_getElem? (i := 215) rfl) rfl
theorem k_3_216 : (Jvm.Cond.methodLink "EarFerryModel" (146 : Nat) ({ cls := "EarFerryModel", name := "sureAt", desc := "([II)I" } : Jvm.MethodName)) ∈ WB := wb_3 (List.mem_of_getElem? (i := 216) rfl) rfl
theorem k_3_218 : (Jvm.Cond.instanceMethod ({ cls := "EarFerryModel", name := "sureAt", desc := "([II)I" } : Jvm.MethodName)) ∈ WB := wb_3 (List.mem_of_getElem? (i := 218) rfl) rfl
theorem k_3_219 : (Jvm.Cond.code ({ cls := "EarFerryModel", name := "sureAt", desc := "([II)I" } : Jvm.MethodName) prog_7_method_21_code (7 : Nat) (Option.some Jvm.ClassFile.FieldType.int)) ∈ WB := wb_3 (List.mem_of_getElem? (i := 219) rfl) rfl
theorem k_3_220 : (Jvm.Cond.methodLink "EarFerryLaw" (75 : Nat) ({ cls := "EarFerryModel", name := "where", desc := "(II)I" } : Jvm.MethodName)) ∈ WB := wb_3 (List.mem_of_getElem? (i := 220) rfl) rfl
theorem k_3_221 : (Jvm.Cond.instanceMethod ({ cls := "EarFerryModel", name := "where", desc := "(II)I" } : Jvm.MethodName)) ∈ WB := wb_3 (List.mem_of_getElem? (i := 221) rfl) rfl
theorem k_3_222 : (Jvm.Cond.selects "EarFerryModel" ({ cls := "EarFerryModel", name := "where", desc := "(II)I" } : Jvm.MethodName) ({ cls := "EarFerryModel", name := "where", desc := "(II)I" } : Jvm.MethodName)) ∈ WB := wb_3 (List.mem_of_getElem? (i := 222) rfl) rfl
theorem k_3_223 : (Jvm.Cond.code ({ cls := "EarFerryModel", name := "where", desc := "(II)I" } : Jvm.MethodName) prog_7_method_34_code (5 : Nat) (Option.some Jvm.ClassFile.FieldType.int)) ∈ WB := wb_3 (List.mem_of_getElem? (i := 223) rfl) rfl
theorem k_3_224 : (Jvm.Cond.methodLink "EarFerryLaw" (79 : Nat) ({ cls := "EarFerryModel", name := "when", desc := "(II)I" } : Jvm.MethodName)) ∈ WB := wb_3 (List.mem_of_getElem? (i := 224) rfl) rfl
theorem k_3_225 : (Jvm.Cond.instanceMethod ({ cls := "EarFerryModel", name := "when", desc := "(II)I" } : Jvm.MethodName)) ∈ WB := wb_3 (List.mem_of_getElem? (i := 225) rfl) rfl
theorem k_3_226 : (Jvm.Cond.selects "EarFerryModel" ({ cls := "EarFerryModel", name := "when", desc := "(II)I" } : Jvm.MethodName) ({ cls := "EarFerryModel", name := "when", desc := "(II)I" } : Jvm.MethodName)) ∈ WB := wb_3 (List.mem_of_getElem? (i := 226) rfl) rfl
theorem k_3_227 : (Jvm.Cond.code ({ cls := "EarFerryModel", name := "when", desc := "(II)I" } : Jvm.MethodName) prog_7_method_35_code (5 : Nat) (Option.some Jvm.ClassFile.FieldType.int)) ∈ WB := wb_3 (List.mem_of_getElem? (i := 227) rfl) rfl
theorem k_3_228 : (Jvm.Cond.methodLink "EarFerryLaw" (83 : Nat) ({ cls := "EarFerryModel", name := "spared", desc := "(I)I" } : Jvm.MethodName)) ∈ WB := wb_3 (List.mem_of_getElem? (i := 228) rfl) rfl
theorem k_3_229 : (Jvm.Cond.instanceMethod ({ cls := "EarFerryModel", name := "spared", desc := "(I)I" } : Jvm.MethodName)) ∈ WB := wb_3 (List.mem_of_getElem? (i := 229) rfl) rfl
theorem k_3_230 : (Jvm.Cond.selects "EarFerryModel" ({ cls := "EarFerryModel", name := "spared", desc := "(I)I" } : Jvm.MethodName) ({ cls := "EarFerryModel", name := "spared", desc := "(I)I" } : Jvm.MethodName)) ∈ WB := wb_3 (List.mem_of_getElem? (i := 230) rfl) rfl
theorem k_3_231 : (Jvm.Cond.code ({ cls := "EarFerryModel", name := "spared", desc := "(I)I" } : Jvm.MethodName) prog_7_method_36_code (6 : Nat) (Option.some Jvm.ClassFile.FieldType.int)) ∈ WB := wb_3 (List.mem_of_getElem? (i := 231) rfl) rfl
theorem k_3_232 : (Jvm.Cond.methodLink "EarFerryModel" (150 : Nat) ({ cls := "EarFerryModel", name := "begin", desc := "()V" } : Jvm.MethodName)) ∈ WB := wb_3 (List.mem_of_getElem? (i := 232) rfl) rfl
theorem k_3_234 : (Jvm.Cond.instanceMethod ({ cls := "EarFerryModel", name := "begin", desc := "()V" } : Jvm.MethodName)) ∈ WB := wb_3 (List.mem_of_getElem? (i := 234) rfl) rfl
theorem k_3_235 : (Jvm.Cond.code ({ cls := "EarFerryModel", name := "begin", desc := "()V" } : Jvm.MethodName) prog_7_method_22_code (2 : Nat) (Option.none : Option Jvm.ClassFile.FieldType)) ∈ WB := wb_3 (List.mem_of_getElem? (i := 235) rfl) rfl
theorem k_3_236 : (Jvm.Cond.methodLink "EarFerryModel" (153 : Nat) ({ cls := "EarFerryModel", name := "bits", desc := "(I)I" } : Jvm.MethodName)) ∈ WB := wb_3 (List.mem_of_getElem? (i := 236) rfl) rfl
theorem k_3_237 : (Jvm.Cond.static ({ cls := "EarFerryModel", name := "bits", desc := "(I)I" } : Jvm.MethodName)) ∈ WB := wb_3 (List.mem_of_getElem? (i := 237) rfl) rfl
theorem k_3_238 : (Jvm.Cond.code ({ cls := "EarFerryModel", name := "bits", desc := "(I)I" } : Jvm.MethodName) prog_7_method_5_code (3 : Nat) (Option.some Jvm.ClassFile.FieldType.int)) ∈ WB := wb_3 (List.mem_of_getElem? (i := 238) rfl) rfl
theorem k_3_239 : (Jvm.Cond.methodLink "EarFerryLaw" (88 : Nat) ({ cls := "EarFerryModel", name := "worth", desc := "(IIZ)I" } : Jvm.MethodName)) ∈ WB := wb_3 (List.mem_of_getElem? (i := 239) rfl) rfl
theorem k_4_0 : (Jvm.Cond.instanceMethod ({ cls := "EarFerryModel", name := "worth", desc := "(IIZ)I" } : Jvm.MethodName)) ∈ WB := wb_4 (List.mem_of_getElem? (i := 0) rfl) rfl
theorem k_4_1 : (Jvm.Cond.selects "EarFerryModel" ({ cls := "EarFerryModel", name := "worth", desc := "(IIZ)I" } : Jvm.MethodName) ({ cls := "EarFerryModel", name := "worth", desc := "(IIZ)I" } : Jvm.MethodName)) ∈ WB := wb_4 (List.mem_of_getElem? (i := 1) rfl) rfl
theorem k_4_2 : (Jvm.Cond.code ({ cls := "EarFerryModel", name := "worth", desc := "(IIZ)I" } : Jvm.MethodName) prog_7_method_40_code (10 : Nat) (Option.some Jvm.ClassFile.FieldType.int)) ∈ WB := wb_4 (List.mem_of_getElem? (i := 2) rfl) rfl
theorem k_4_3 : (Jvm.Cond.methodLink "EarFerryModel" (160 : Nat) ({ cls := "EarFerryModel", name := "orders", desc := "(I)I" } : Jvm.MethodName)) ∈ WB := wb_4 (List.mem_of_getElem? (i := 3) rfl) rfl
theorem k_4_4 : (Jvm.Cond.static ({ cls := "EarFerryModel", name := "orders", desc := "(I)I" } : Jvm.MethodName)) ∈ WB := wb_4 (List.mem_of_getElem? (i := 4) rfl) rfl
theorem k_4_5 : (Jvm.Cond.code ({ cls := "EarFerryModel", name := "orders", desc := "(I)I" } : Jvm.MethodName) prog_7_method_37_code (3 : Nat) (Option.some Jvm.ClassFile.FieldType.int)) ∈ WB := wb_4 (List.mem_of_getElem? (i := 5) rfl) rfl
theorem k_4_6 : (Jvm.Cond.methodLink "EarFerryModel" (163 : Nat) ({ cls := "EarFerryModel", name := "fraction", desc := "(IIZ)I" } : Jvm.MethodName)) ∈ WB := wb_4 (List.mem_of_getElem? (i := 6) rfl) rfl
theorem k_4_7 : (Jvm.Cond.static ({ cls := "EarFerryModel", name := "fraction", desc := "(IIZ)I" } : Jvm.MethodName)) ∈ WB := wb_4 (List.mem_of_getElem? (i := 7) rfl) rfl
theorem k_4_8 : (Jvm.Cond.code ({ cls := "EarFerryModel", name := "fraction", desc := "(IIZ)I" } : Jvm.MethodName) prog_7_method_39_code (4 : Nat) (Option.some Jvm.ClassFile.FieldType.int)) ∈ WB := wb_4 (List.mem_of_getElem? (i := 8) rfl) rfl
theorem k_4_9 : (Jvm.Cond.methodLink "EarFerryModel" (157 : Nat) ({ cls := "EarFerryModel", name := "divisor", desc := "(II)I" } : Jvm.MethodName)) ∈ WB := wb_4 (List.mem_of_getElem? (i := 9) rfl) rfl
theorem k_4_10 : (Jvm.Cond.static ({ cls := "EarFerryModel", name := "divisor", desc := "(II)I" } : Jvm.MethodName)) ∈ WB := wb_4 (List.mem_of_getElem? (i := 10) rfl) rfl
theorem k_4_11 : (Jvm.Cond.code ({ cls := "EarFerryModel", name := "divisor", desc := "(II)I" } : Jvm.MethodName) prog_7_method_38_code (5 : Nat) (Option.some Jvm.ClassFile.FieldType.int)) ∈ WB := wb_4 (List.mem_of_getElem? (i := 11) rfl) rfl
theorem k_4_12 : (Jvm.Cond.methodLink "EarFerryLaw" (93 : Nat) ({ cls := "EarFerryModel", name := "hammers", desc := "(III)I" } : Jvm.MethodName)) ∈ WB := wb_4 (List.mem_of_getElem? (i := 12) rfl) rfl
theorem k_4_13 : (Jvm.Cond.instanceMethod ({ cls := "EarFerryModel", name := "hammers", desc := "(III)I" } : Jvm.MethodName)) ∈ WB := wb_4 (List.mem_of_getElem? (i := 13) rfl) rfl
theorem k_4_14 : (Jvm.Cond.selects "EarFerryModel" ({ cls := "EarFerryModel", name := "hammers", desc := "(III)I" } : Jvm.MethodName) ({ cls := "EarFerryModel", name := "hammers", desc := "(III)I" } : Jvm.MethodName)) ∈ WB := wb_4 (List.mem_of_getElem? (i := 14) rfl) rfl
theorem k_4_15 : (Jvm.Cond.code ({ cls := "EarFerryModel", name := "hammers", desc := "(III)I" } : Jvm.MethodName) prog_7_method_43_code (4 : Nat) (Option.some Jvm.ClassFile.FieldType.int)) ∈ WB := wb_4 (List.mem_of_getElem? (i := 15) rfl) rfl
theorem k_4_16 : (Jvm.Cond.constantLong "EarFerryModel" (177 : Nat) (10 : Int64)) ∈ WB := wb_4 (List.mem_of_getElem? (i := 16) rfl) rfl
theorem k_4_17 : (Jvm.Cond.methodLink "EarFerryModel" (179 : Nat) ({ cls := "EarFerryModel", name := "findHammers", desc := "(II)V" } : Jvm.MethodName)) ∈ WB := wb_4 (List.mem_of_getElem? (i := 17) rfl) rfl
theorem k_4_19 : (Jvm.Cond.instanceMethod ({ cls := "EarFerryModel", name := "findHammers", desc := "(II)V" } : Jvm.MethodName)) ∈ WB := wb_4 (List.mem_of_getElem? (i := 19) rfl) rfl
theorem k_4_20 : (Jvm.Cond.code ({ cls := "EarFerryModel", name := "findHammers", desc := "(II)V" } : Jvm.MethodName) prog_7_method_42_code (4 : Nat) (Option.none : Option Jvm.ClassFile.FieldType)) ∈ WB := wb_4 (List.mem_of_getElem? (i := 20) rfl) rfl
theorem k_4_21 : (Jvm.Cond.methodLink "EarFerryModel" (173 : Nat) ({ cls := "EarFerryModel", name := "sureWith", desc := "(III)I" } : Jvm.MethodName)) ∈ WB := wb_4 (List.mem_of_getElem? (i := 21) rfl) rfl
theorem k_4_23 : (Jvm.Cond.instanceMethod ({ cls := "EarFerryModel", name := "sureWith", desc := "(III)I" } : Jvm.MethodName)) ∈ WB := wb_4 (List.mem_of_getElem? (i := 23) rfl) rfl
theorem k_4_24 : (Jvm.Cond.code ({ cls := "EarFerryModel", name := "sureWith", desc := "(III)I" } : Jvm.MethodName) prog_7_method_41_code (4 : Nat) (Option.some Jvm.ClassFile.FieldType.int)) ∈ WB := wb_4 (List.mem_of_getElem? (i := 24) rfl) rfl
theorem k_4_25 : (Jvm.Cond.methodLink "EarFerryLaw" (97 : Nat) ({ cls := "EarFerryModel", name := "bestHours", desc := "(II)I" } : Jvm.MethodName)) ∈ WB := wb_4 (List.mem_of_getElem? (i := 25) rfl) rfl
theorem k_4_26 : (Jvm.Cond.instanceMethod ({ cls := "EarFerryModel", name := "bestHours", desc := "(II)I" } : Jvm.MethodName)) ∈ WB := wb_4 (List.mem_of_getElem? (i := 26) rfl) rfl
theorem k_4_27 : (Jvm.Cond.selects "EarFerryModel" ({ cls := "EarFerryModel", name := "bestHours", desc := "(II)I" } : Jvm.MethodName) ({ cls := "EarFerryModel", name := "bestHours", desc := "(II)I" } : Jvm.MethodName)) ∈ WB := wb_4 (List.mem_of_getElem? (i := 27) rfl) rfl
theorem k_4_28 : (Jvm.Cond.code ({ cls := "EarFerryModel", name := "bestHours", desc := "(II)I" } : Jvm.MethodName) prog_7_method_44_code (6 : Nat) (Option.some Jvm.ClassFile.FieldType.int)) ∈ WB := wb_4 (List.mem_of_getElem? (i := 28) rfl) rfl
theorem k_4_29 : (Jvm.Cond.methodLink "EarFerryLaw" (102 : Nat) ({ cls := "EarFerryModel", name := "grounded", desc := "(IIIII)I" } : Jvm.MethodName)) ∈ WB := wb_4 (List.mem_of_getElem? (i := 29) rfl) rfl
theorem k_4_30 : (Jvm.Cond.instanceMethod ({ cls := "EarFerryModel", name := "grounded", desc := "(IIIII)I" } : Jvm.MethodName)) ∈ WB := wb_4 (List.mem_of_getElem? (i := 30) rfl) rfl
theorem k_4_31 : (Jvm.Cond.selects "EarFerryModel" ({ cls := "EarFerryModel", name := "grounded", desc := "(IIIII)I" } : Jvm.MethodName) ({ cls := "EarFerryModel", name := "grounded", desc := "(IIIII)I" } : Jvm.MethodName)) ∈ WB := wb_4 (List.mem_of_getElem? (i := 31) rfl) rfl
theorem k_4_32 : (Jvm.Cond.code ({ cls := "EarFerryModel", name := "grounded", desc := "(IIIII)I" } : Jvm.MethodName) prog_7_method_45_code (9 : Nat) (Option.some Jvm.ClassFile.FieldType.int)) ∈ WB := wb_4 (List.mem_of_getElem? (i := 32) rfl) rfl
theorem k_4_33 : (Jvm.Cond.methodLink "EarFerryLaw" (107 : Nat) ({ cls := "EarFerryModel", name := "see", desc := "(IIIZ)I" } : Jvm.MethodName)) ∈ WB := wb_4 (List.mem_of_getElem? (i := 33) rfl) rfl
theorem k_4_34 : (Jvm.Cond.instanceMethod ({ cls := "EarFerryModel", name := "see", desc := "(IIIZ)I" } : Jvm.MethodName)) ∈ WB := wb_4 (List.mem_of_getElem? (i := 34) rfl) rfl
theorem k_4_35 : (Jvm.Cond.selects "EarFerryModel" ({ cls := "EarFerryModel", name := "see", desc := "(IIIZ)I" } : Jvm.MethodName) ({ cls := "EarFerryModel", name := "see", desc := "(IIIZ)I" } : Jvm.MethodName)) ∈ WB := wb_4 (List.mem_of_getElem? (i := 35) rfl) rfl
theorem k_4_36 : (Jvm.Cond.code ({ cls := "EarFerryModel", name := "see", desc := "(IIIZ)I" } : Jvm.MethodName) prog_7_method_46_code (5 : Nat) (Option.some Jvm.ClassFile.FieldType.int)) ∈ WB := wb_4 (List.mem_of_getElem? (i := 36) rfl) rfl
theorem k_4_37 : (Jvm.Cond.methodLink "EarFerryLaw" (111 : Nat) ({ cls := "EarFerryModel", name := "unsee", desc := "()I" } : Jvm.MethodName)) ∈ WB := wb_4 (List.mem_of_getElem? (i := 37) rfl) rfl
theorem k_4_38 : (Jvm.Cond.instanceMethod ({ cls := "EarFerryModel", name := "unsee", desc := "()I" } : Jvm.MethodName)) ∈ WB := wb_4 (List.mem_of_getElem? (i := 38) rfl) rfl
theorem k_4_39 : (Jvm.Cond.selects "EarFerryModel" ({ cls := "EarFerryModel", name := "unsee", desc := "()I" } : Jvm.MethodName) ({ cls := "EarFerryModel", name := "unsee", desc := "()I" } : Jvm.MethodName)) ∈ WB := wb_4 (List.mem_of_getElem? (i := 39) rfl) rfl
theorem k_4_40 : (Jvm.Cond.code ({ cls := "EarFerryModel", name := "unsee", desc := "()I" } : Jvm.MethodName) prog_7_method_47_code (2 : Nat) (Option.some Jvm.ClassFile.FieldType.int)) ∈ WB := wb_4 (List.mem_of_getElem? (i := 40) rfl) rfl
theorem k_4_41 : (Jvm.Cond.methodLink "EarFerryLaw" (115 : Nat) ({ cls := "EarFerryModel", name := "weather", desc := "(I)I" } : Jvm.MethodName)) ∈ WB := wb_4 (List.mem_of_getElem? (i := 41) rfl) rfl
theorem k_4_42 : (Jvm.Cond.instanceMethod ({ cls := "EarFerryModel", name := "weather", desc := "(I)I" } : Jvm.MethodName)) ∈ WB := wb_4 (List.mem_of_getElem? (i := 42) rfl) rfl
theorem k_4_43 : (Jvm.Cond.selects "EarFerryModel" ({ cls := "EarFerryModel", name := "weather", desc := "(I)I" } : Jvm.MethodName) ({ cls := "EarFerryModel", name := "weather", desc := "(I)I" } : Jvm.MethodName)) ∈ WB := wb_4 (List.mem_of_getElem? (i := 43) rfl) rfl
theorem k_4_44 : (Jvm.Cond.code ({ cls := "EarFerryModel", name := "weather", desc := "(I)I" } : Jvm.MethodName) prog_7_method_48_code (5 : Nat) (Option.some Jvm.ClassFile.FieldType.int)) ∈ WB := wb_4 (List.mem_of_getElem? (i := 44) rfl) rfl
theorem k_4_45 : (Jvm.Cond.methodLink "EarFerryLaw" (119 : Nat) ({ cls := "EarFerryModel", name := "rivals", desc := "(II)I" } : Jvm.MethodName)) ∈ WB := wb_4 (List.mem_of_getElem? (i := 45) rfl) rfl
theorem k_4_46 : (Jvm.Cond.instanceMethod ({ cls := "EarFerryModel", name := "rivals", desc := "(II)I" } : Jvm.MethodName)) ∈ WB := wb_4 (List.mem_of_getElem? (i := 46) rfl) rfl
theorem k_4_47 : (Jvm.Cond.selects "EarFerryModel" ({ cls := "EarFerryModel", name := "rivals", desc := "(II)I" } : Jvm.MethodName) ({ cls := "EarFerryModel", name := "rivals", desc := "(II)I" } : Jvm.MethodName)) ∈ WB := wb_4 (List.mem_of_getElem? (i := 47) rfl) rfl
theorem k_4_48 : (Jvm.Cond.code ({ cls := "EarFerryModel", name := "rivals", desc := "(II)I" } : Jvm.MethodName) prog_7_method_51_code (6 : Nat) (Option.some Jvm.ClassFile.FieldType.int)) ∈ WB := wb_4 (List.mem_of_getElem? (i := 48) rfl) rfl
theorem k_4_49 : (Jvm.Cond.methodLink "EarFerryModel" (198 : Nat) ({ cls := "EarFerryModel", name := "doRest", desc := "(II)Z" } : Jvm.MethodName)) ∈ WB := wb_4 (List.mem_of_getElem? (i := 49) rfl) rfl
theorem k_4_51 : (Jvm.Cond.instanceMethod ({ cls := "EarFerryModel", name := "doRest", desc := "(II)Z" } : Jvm.MethodName)) ∈ WB := wb_4 (List.mem_of_getElem? (i := 51) rfl) rfl
theorem k_4_52 : (Jvm.Cond.code ({ cls := "EarFerryModel", name := "doRest", desc := "(II)Z" } : Jvm.MethodName) prog_7_method_50_code (5 : Nat) (Option.some Jvm.ClassFile.FieldType.boolean)) ∈ WB := wb_4 (List.mem_of_getElem? (i := 52) rfl) rfl
theorem k_4_53 : (Jvm.Cond.methodLink "EarFerryModel" (195 : Nat) ({ cls := "EarFerryModel", name := "canBoth", desc := "(II)Z" } : Jvm.MethodName)) ∈ WB := wb_4 (List.mem_of_getElem? (i := 53) rfl) rfl
theorem k_4_54 : (Jvm.Cond.static ({ cls := "EarFerryModel", name := "canBoth", desc := "(II)Z" } : Jvm.MethodName)) ∈ WB := wb_4 (List.mem_of_getElem? (i := 54) rfl) rfl
theorem k_4_55 : (Jvm.Cond.code ({ cls := "EarFerryModel", name := "canBoth", desc := "(II)Z" } : Jvm.MethodName) prog_7_method_49_code (2 : Nat) (Option.some Jvm.ClassFile.FieldType.boolean)) ∈ WB := wb_4 (List.mem_of_getElem? (i := 55) rfl) rfl
theorem k_4_56 : (Jvm.Cond.methodLink "EarFerryLaw" (123 : Nat) ({ cls := "EarFerryModel", name := "chance", desc := "(IIIZ)I" } : Jvm.MethodName)) ∈ WB := wb_4 (List.mem_of_getElem? (i := 56) rfl) rfl
theorem k_4_57 : (Jvm.Cond.instanceMethod ({ cls := "EarFerryModel", name := "chance", desc := "(IIIZ)I" } : Jvm.MethodName)) ∈ WB := wb_4 (List.mem_of_getElem? (i := 57) rfl) rfl
theorem k_4_58 : (Jvm.Cond.selects "EarFerryModel" ({ cls := "EarFerryModel", name := "chance", desc := "(IIIZ)I" } : Jvm.MethodName) ({ cls := "EarFerryModel", name := "chance", desc := "(IIIZ)I" } : Jvm.MethodName)) ∈ WB := wb_4 (List.mem_of_getElem? (i := 58) rfl) rfl
theorem k_4_59 : (Jvm.Cond.code ({ cls := "EarFerryModel", name := "chance", desc := "(IIIZ)I" } : Jvm.MethodName) prog_7_method_52_code (12 : Nat) (Option.some Jvm.ClassFile.FieldType.int)) ∈ WB := wb_4 (List.mem_of_getElem? (i := 59) rfl) rfl
theorem k_4_60 : (Jvm.Cond.methodLink "EarFerryLaw" (130 : Nat) ({ cls := "EarFerryModel", name := "seed", desc := "(J)J" } : Jvm.MethodName)) ∈ WB := wb_4 (List.mem_of_getElem? (i := 60) rfl) rfl
theorem k_4_61 : (Jvm.Cond.instanceMethod ({ cls := "EarFerryModel", name := "seed", desc := "(J)J" } : Jvm.MethodName)) ∈ WB := wb_4 (List.mem_of_getElem? (i := 61) rfl) rfl
theorem k_4_62 : (Jvm.Cond.selects "EarFerryModel" ({ cls := "EarFerryModel", name := "seed", desc := "(J)J" } : Jvm.MethodName) ({ cls := "EarFerryModel", name := "seed", desc := "(J)J" } : Jvm.MethodName)) ∈ WB := wb_4 (List.mem_of_getElem? (i := 62) rfl) rfl
theorem k_4_63 : (Jvm.Cond.code ({ cls := "EarFerryModel", name := "seed", desc := "(J)J" } : Jvm.MethodName) prog_7_method_53_code (5 : Nat) (Option.some Jvm.ClassFile.FieldType.long)) ∈ WB := wb_4 (List.mem_of_getElem? (i := 63) rfl) rfl
theorem k_4_64 : (Jvm.Cond.methodLink "EarFerryLaw" (134 : Nat) ({ cls := "EarFerryModel", name := "days", desc := "(I)I" } : Jvm.MethodName)) ∈ WB := wb_4 (List.mem_of_getElem? (i := 64) rfl) rfl
theorem k_4_65 : (Jvm.Cond.instanceMethod ({ cls := "EarFerryModel", name := "days", desc := "(I)I" } : Jvm.MethodName)) ∈ WB := wb_4 (List.mem_of_getElem? (i := 65) rfl) rfl
theorem k_4_66 : (Jvm.Cond.selects "EarFerryModel" ({ cls := "EarFerryModel", name := "days", desc := "(I)I" } : Jvm.MethodName) ({ cls := "EarFerryModel", name := "days", desc := "(I)I" } : Jvm.MethodName)) ∈ WB := wb_4 (List.mem_of_getElem? (i := 66) rfl) rfl
theorem k_4_67 : (Jvm.Cond.code ({ cls := "EarFerryModel", name := "days", desc := "(I)I" } : Jvm.MethodName) prog_7_method_54_code (4 : Nat) (Option.some Jvm.ClassFile.FieldType.int)) ∈ WB := wb_4 (List.mem_of_getElem? (i := 67) rfl) rfl
theorem k_4_68 : (Jvm.Cond.constantLong "EarFerryModel" (205 : Nat) (30 : Int64)) ∈ WB := wb_4 (List.mem_of_getElem? (i := 68) rfl) rfl
theorem k_4_69 : (Jvm.Cond.constantLong "EarFerryModel" (207 : Nat) (6364136223846793005 : Int64)) ∈ WB := wb_4 (List.mem_of_getElem? (i := 69) rfl) rfl
theorem k_4_70 : (Jvm.Cond.constantLong "EarFerryModel" (209 : Nat) (1442695040888963407 : Int64)) ∈ WB := wb_4 (List.mem_of_getElem? (i := 70) rfl) rfl
theorem k_4_71 : (Jvm.Cond.constantLong "EarFerryModel" (211 : Nat) (64 : Int64)) ∈ WB := wb_4 (List.mem_of_getElem? (i := 71) rfl) rfl
theorem k_4_72 : (Jvm.Cond.methodLink "EarFerryLaw" (138 : Nat) ({ cls := "EarFerryModel", name := "keep", desc := "(I)I" } : Jvm.MethodName)) ∈ WB := wb_4 (List.mem_of_getElem? (i := 72) rfl) rfl
theorem k_4_73 : (Jvm.Cond.instanceMethod ({ cls := "EarFerryModel", name := "keep", desc := "(I)I" } : Jvm.MethodName)) ∈ WB := wb_4 (List.mem_of_getElem? (i := 73) rfl) rfl
theorem k_4_74 : (Jvm.Cond.selects "EarFerryModel" ({ cls := "EarFerryModel", name := "keep", desc := "(I)I" } : Jvm.MethodName) ({ cls := "EarFerryModel", name := "keep", desc := "(I)I" } : Jvm.MethodName)) ∈ WB := wb_4 (List.mem_of_getElem? (i := 74) rfl) rfl
theorem k_4_75 : (Jvm.Cond.code ({ cls := "EarFerryModel", name := "keep", desc := "(I)I" } : Jvm.MethodName) prog_7_method_55_code (3 : Nat) (Option.some Jvm.ClassFile.FieldType.int)) ∈ WB := wb_4 (List.mem_of_getElem? (i := 75) rfl) rfl
theorem k_4_76 : (Jvm.Cond.methodLink "EarFerryLaw" (142 : Nat) ({ cls := "EarFerryModel", name := "again", desc := "(I)I" } : Jvm.MethodName)) ∈ WB := wb_4 (List.mem_of_getElem? (i := 76) rfl) rfl
theorem k_4_77 : (Jvm.Cond.instanceMethod ({ cls := "EarFerryModel", name := "again", desc := "(I)I" } : Jvm.MethodName)) ∈ WB := wb_4 (List.mem_of_getElem? (i := 77) rfl) rfl
theorem k_4_78 : (Jvm.Cond.selects "EarFerryModel" ({ cls := "EarFerryModel", name := "again", desc := "(I)I" } : Jvm.MethodName) ({ cls := "EarFerryModel", name := "again", desc := "(I)I" } : Jvm.MethodName)) ∈ WB := wb_4 (List.mem_of_getElem? (i := 78) rfl) rfl
theorem k_4_79 : (Jvm.Cond.code ({ cls := "EarFerryModel", name := "again", desc := "(I)I" } : Jvm.MethodName) prog_7_method_56_code (3 : Nat) (Option.some Jvm.ClassFile.FieldType.int)) ∈ WB := wb_4 (List.mem_of_getElem? (i := 79) rfl) rfl
theorem k_4_80 : (Jvm.Cond.constantLong "EarFerryLaw" (124 : Nat) (4294967295 : Int64)) ∈ WB := wb_4 (List.mem_of_getElem? (i := 80) rfl) rfl
theorem k_p_0 : (Jvm.Cond.selects "EarFerry$Text" ({ cls := "EarFerry$Text", name := "fits", desc := "(I)Z" } : Jvm.MethodName) ({ cls := "EarFerry$Text", name := "fits", desc := "(I)Z" } : Jvm.MethodName)) ∈ WB := wb_p (List.mem_of_getElem? (i := 0) rfl) rfl
theorem k_p_1 : (Jvm.Cond.selects "EarFerry$Text" ({ cls := "EarFerry$Text", name := "fitsHead", desc := "(I)Z" } : Jvm.MethodName) ({ cls := "EarFerry$Text", name := "fitsHead", desc := "(I)Z" } : Jvm.MethodName)) ∈ WB := wb_p (List.mem_of_getElem? (i := 1) rfl) rfl
theorem k_p_2 : (Jvm.Cond.selects "EarFerry$Text" ({ cls := "EarFerry$Text", name := "isDigit", desc := "(III)Z" } : Jvm.MethodName) ({ cls := "EarFerry$Text", name := "isDigit", desc := "(III)Z" } : Jvm.MethodName)) ∈ WB := wb_p (List.mem_of_getElem? (i := 2) rfl) rfl
theorem k_p_3 : (Jvm.Cond.selects "EarFerry$Text" ({ cls := "EarFerry$Text", name := "fitsPart", desc := "(I)Z" } : Jvm.MethodName) ({ cls := "EarFerry$Text", name := "fitsPart", desc := "(I)Z" } : Jvm.MethodName)) ∈ WB := wb_p (List.mem_of_getElem? (i := 3) rfl) rfl
theorem k_p_4 : (Jvm.Cond.selects "EarFerry" ({ cls := "EarFerry", name := "cellsThatHear", desc := "(I)I" } : Jvm.MethodName) ({ cls := "EarFerry", name := "cellsThatHear", desc := "(I)I" } : Jvm.MethodName)) ∈ WB := wb_p (List.mem_of_getElem? (i := 4) rfl) rfl
theorem k_p_5 : (Jvm.Cond.selects "EarFerry" ({ cls := "EarFerry", name := "isHeard", desc := "(IIIII)Z" } : Jvm.MethodName) ({ cls := "EarFerry", name := "isHeard", desc := "(IIIII)Z" } : Jvm.MethodName)) ∈ WB := wb_p (List.mem_of_getElem? (i := 5) rfl) rfl
theorem k_p_6 : (Jvm.Cond.selects "EarFerry" ({ cls := "EarFerry", name := "rememberAct", desc := "()V" } : Jvm.MethodName) ({ cls := "EarFerry", name := "rememberAct", desc := "()V" } : Jvm.MethodName)) ∈ WB := wb_p (List.mem_of_getElem? (i := 6) rfl) rfl
theorem k_p_7 : (Jvm.Cond.selects "EarFerry" ({ cls := "EarFerry", name := "setNow", desc := "(II)I" } : Jvm.MethodName) ({ cls := "EarFerry", name := "setNow", desc := "(II)I" } : Jvm.MethodName)) ∈ WB := wb_p (List.mem_of_getElem? (i := 7) rfl) rfl
theorem k_p_8 : (Jvm.Cond.selects "EarFerry" ({ cls := "EarFerry", name := "soundSet", desc := "(II)I" } : Jvm.MethodName) ({ cls := "EarFerry", name := "soundSet", desc := "(II)I" } : Jvm.MethodName)) ∈ WB := wb_p (List.mem_of_getElem? (i := 8) rfl) rfl
theorem k_p_9 : (Jvm.Cond.selects "EarFerry" ({ cls := "EarFerry", name := "liveSounds", desc := "()I" } : Jvm.MethodName) ({ cls := "EarFerry", name := "liveSounds", desc := "()I" } : Jvm.MethodName)) ∈ WB := wb_p (List.mem_of_getElem? (i := 9) rfl) rfl
theorem k_p_10 : (Jvm.Cond.selects "EarFerry" ({ cls := "EarFerry", name := "hammerSet", desc := "(III)I" } : Jvm.MethodName) ({ cls := "EarFerry", name := "hammerSet", desc := "(III)I" } : Jvm.MethodName)) ∈ WB := wb_p (List.mem_of_getElem? (i := 10) rfl) rfl
theorem k_p_11 : (Jvm.Cond.selects "EarFerry" ({ cls := "EarFerry", name := "fillSetsNow", desc := "(I)V" } : Jvm.MethodName) ({ cls := "EarFerry", name := "fillSetsNow", desc := "(I)V" } : Jvm.MethodName)) ∈ WB := wb_p (List.mem_of_getElem? (i := 11) rfl) rfl
theorem k_p_12 : (Jvm.Cond.selects "EarFerry" ({ cls := "EarFerry", name := "fillSoundSets", desc := "(I)V" } : Jvm.MethodName) ({ cls := "EarFerry", name := "fillSoundSets", desc := "(I)V" } : Jvm.MethodName)) ∈ WB := wb_p (List.mem_of_getElem? (i := 12) rfl) rfl
theorem k_p_13 : (Jvm.Cond.selects "EarFerry" ({ cls := "EarFerry", name := "fillSets", desc := "(II)V" } : Jvm.MethodName) ({ cls := "EarFerry", name := "fillSets", desc := "(II)V" } : Jvm.MethodName)) ∈ WB := wb_p (List.mem_of_getElem? (i := 13) rfl) rfl
theorem k_p_14 : (Jvm.Cond.selects "EarFerry" ({ cls := "EarFerry", name := "sureCells", desc := "(I)I" } : Jvm.MethodName) ({ cls := "EarFerry", name := "sureCells", desc := "(I)I" } : Jvm.MethodName)) ∈ WB := wb_p (List.mem_of_getElem? (i := 14) rfl) rfl
theorem k_p_15 : (Jvm.Cond.selects "EarFerry" ({ cls := "EarFerry", name := "sureCount", desc := "(I)I" } : Jvm.MethodName) ({ cls := "EarFerry", name := "sureCount", desc := "(I)I" } : Jvm.MethodName)) ∈ WB := wb_p (List.mem_of_getElem? (i := 15) rfl) rfl
theorem k_p_16 : (Jvm.Cond.selects "EarFerry" ({ cls := "EarFerry", name := "fewestHammers", desc := "(I)I" } : Jvm.MethodName) ({ cls := "EarFerry", name := "fewestHammers", desc := "(I)I" } : Jvm.MethodName)) ∈ WB := wb_p (List.mem_of_getElem? (i := 16) rfl) rfl
theorem k_p_17 : (Jvm.Cond.selects "EarFerry" ({ cls := "EarFerry", name := "sureCountWith", desc := "(II)I" } : Jvm.MethodName) ({ cls := "EarFerry", name := "sureCountWith", desc := "(II)I" } : Jvm.MethodName)) ∈ WB := wb_p (List.mem_of_getElem? (i := 17) rfl) rfl
theorem k_p_18 : (Jvm.Cond.selects "EarFerry" ({ cls := "EarFerry", name := "agreesWithSeen", desc := "(II)Z" } : Jvm.MethodName) ({ cls := "EarFerry", name := "agreesWithSeen", desc := "(II)Z" } : Jvm.MethodName)) ∈ WB := wb_p (List.mem_of_getElem? (i := 18) rfl) rfl
theorem k_p_19 : (Jvm.Cond.selects "EarFerry" ({ cls := "EarFerry", name := "fillSureByChoice", desc := "()V" } : Jvm.MethodName) ({ cls := "EarFerry", name := "fillSureByChoice", desc := "()V" } : Jvm.MethodName)) ∈ WB := wb_p (List.mem_of_getElem? (i := 19) rfl) rfl
theorem k_p_20 : (Jvm.Cond.selects "EarFerry" ({ cls := "EarFerry", name := "isAtRest", desc := "(II)Z" } : Jvm.MethodName) ({ cls := "EarFerry", name := "isAtRest", desc := "(II)Z" } : Jvm.MethodName)) ∈ WB := wb_p (List.mem_of_getElem? (i := 20) rfl) rfl
theorem k_p_21 : (Jvm.Cond.selects "EarFerry" ({ cls := "EarFerry", name := "isSure", desc := "(II)Z" } : Jvm.MethodName) ({ cls := "EarFerry", name := "isSure", desc := "(II)Z" } : Jvm.MethodName)) ∈ WB := wb_p (List.mem_of_getElem? (i := 21) rfl) rfl
theorem k_p_22 : (Jvm.Cond.selects "EarFerryModel" ({ cls := "EarFerryModel", name := "readRiver", desc := "()I" } : Jvm.MethodName) ({ cls := "EarFerryModel", name := "readRiver", desc := "()I" } : Jvm.MethodName)) ∈ WB := wb_p (List.mem_of_getElem? (i := 22) rfl) rfl
theorem k_p_23 : (Jvm.Cond.selects "EarFerryModel" ({ cls := "EarFerryModel", name := "readHead", desc := "()Z" } : Jvm.MethodName) ({ cls := "EarFerryModel", name := "readHead", desc := "()Z" } : Jvm.MethodName)) ∈ WB := wb_p (List.mem_of_getElem? (i := 23) rfl) rfl
theorem k_p_24 : (Jvm.Cond.selects "EarFerryModel" ({ cls := "EarFerryModel", name := "figure", desc := "(II)I" } : Jvm.MethodName) ({ cls := "EarFerryModel", name := "figure", desc := "(II)I" } : Jvm.MethodName)) ∈ WB := wb_p (List.mem_of_getElem? (i := 24) rfl) rfl
theorem k_p_25 : (Jvm.Cond.selects "EarFerryModel" ({ cls := "EarFerryModel", name := "readPart", desc := "()Z" } : Jvm.MethodName) ({ cls := "EarFerryModel", name := "readPart", desc := "()Z" } : Jvm.MethodName)) ∈ WB := wb_p (List.mem_of_getElem? (i := 25) rfl) rfl
theorem k_p_26 : (Jvm.Cond.selects "EarFerryModel" ({ cls := "EarFerryModel", name := "noSound", desc := "(I)Z" } : Jvm.MethodName) ({ cls := "EarFerryModel", name := "noSound", desc := "(I)Z" } : Jvm.MethodName)) ∈ WB := wb_p (List.mem_of_getElem? (i := 26) rfl) rfl
theorem k_p_27 : (Jvm.Cond.selects "EarFerryModel" ({ cls := "EarFerryModel", name := "hears", desc := "([IIII)Z" } : Jvm.MethodName) ({ cls := "EarFerryModel", name := "hears", desc := "([IIII)Z" } : Jvm.MethodName)) ∈ WB := wb_p (List.mem_of_getElem? (i := 27) rfl) rfl
theorem k_p_28 : (Jvm.Cond.selects "EarFerryModel" ({ cls := "EarFerryModel", name := "note", desc := "()V" } : Jvm.MethodName) ({ cls := "EarFerryModel", name := "note", desc := "()V" } : Jvm.MethodName)) ∈ WB := wb_p (List.mem_of_getElem? (i := 28) rfl) rfl
theorem k_p_29 : (Jvm.Cond.selects "EarFerryModel" ({ cls := "EarFerryModel", name := "heardAt", desc := "([III)I" } : Jvm.MethodName) ({ cls := "EarFerryModel", name := "heardAt", desc := "([III)I" } : Jvm.MethodName)) ∈ WB := wb_p (List.mem_of_getElem? (i := 29) rfl) rfl
theorem k_p_30 : (Jvm.Cond.selects "EarFerryModel" ({ cls := "EarFerryModel", name := "sureAt", desc := "([II)I" } : Jvm.MethodName) ({ cls := "EarFerryModel", name := "sureAt", desc := "([II)I" } : Jvm.MethodName)) ∈ WB := wb_p (List.mem_of_getElem? (i := 30) rfl) rfl
theorem k_p_31 : (Jvm.Cond.selects "EarFerryModel" ({ cls := "EarFerryModel", name := "begin", desc := "()V" } : Jvm.MethodName) ({ cls := "EarFerryModel", name := "begin", desc := "()V" } : Jvm.MethodName)) ∈ WB := wb_p (List.mem_of_getElem? (i := 31) rfl) rfl
theorem k_p_32 : (Jvm.Cond.selects "EarFerryModel" ({ cls := "EarFerryModel", name := "findHammers", desc := "(II)V" } : Jvm.MethodName) ({ cls := "EarFerryModel", name := "findHammers", desc := "(II)V" } : Jvm.MethodName)) ∈ WB := wb_p (List.mem_of_getElem? (i := 32) rfl) rfl
theorem k_p_33 : (Jvm.Cond.selects "EarFerryModel" ({ cls := "EarFerryModel", name := "sureWith", desc := "(III)I" } : Jvm.MethodName) ({ cls := "EarFerryModel", name := "sureWith", desc := "(III)I" } : Jvm.MethodName)) ∈ WB := wb_p (List.mem_of_getElem? (i := 33) rfl) rfl
theorem k_p_34 : (Jvm.Cond.selects "EarFerryModel" ({ cls := "EarFerryModel", name := "doRest", desc := "(II)Z" } : Jvm.MethodName) ({ cls := "EarFerryModel", name := "doRest", desc := "(II)Z" } : Jvm.MethodName)) ∈ WB := wb_p (List.mem_of_getElem? (i := 34) rfl) rfl
