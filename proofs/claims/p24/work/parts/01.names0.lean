def RX0 : String := "JugglerStates$History"
def TX0 : u_T := fun k => match k with
  | 0 => ("JugglerStates$History", "ring", "[LJugglerStates$Scene;", true)
  | 1 => ("JugglerStates$History", "oldest", "I", false)
  | _ => ("JugglerStates$History", "size", "I", false)
def tyX0 : Nat → FieldType := fun k => match k with
  | 0 => .array (.object "JugglerStates$Scene")
  | 1 => .int
  | _ => .int
theorem nmX0 : ∀ a, a < 3 → ∀ b, b < 3 → a ≠ b → (TX0 a).2.1 ≠ (TX0 b).2.1 := by decide +kernel
theorem tyX0_ok : ∀ k, k < 3 → parseFieldDescriptor (TX0 k).2.2.1 = some (tyX0 k) := by decide +kernel
abbrev cX0_init : ByteArray := prog_2_method_1_code
def yX0_init : MethodName := ⟨RX0, "<init>", "()V"⟩
abbrev cX0_record : ByteArray := prog_2_method_2_code
def yX0_record : MethodName := ⟨RX0, "record", "(LJugglerStates$Scene;)V"⟩
abbrev cX0_takeBack : ByteArray := prog_2_method_3_code
def yX0_takeBack : MethodName := ⟨RX0, "takeBack", "(LJugglerStates$Scene;)V"⟩
abbrev cX0_latest : ByteArray := prog_2_method_4_code
def yX0_latest : MethodName := ⟨RX0, "latest", "()LJugglerStates$Scene;"⟩
def RX1 : String := "JugglerStates$Juggler"
def TX1 : u_T := fun k => match k with
  | 0 => ("JugglerStates$Juggler", "state", "I", false)
  | 1 => ("JugglerStates$Juggler", "heights", "[I", true)
  | 2 => ("JugglerStates$Juggler", "passPlaces", "I", false)
  | 3 => ("JugglerStates$Juggler", "programLength", "I", false)
  | 4 => ("JugglerStates$Juggler", "place", "I", false)
  | 5 => ("JugglerStates$Juggler", "slips", "I", false)
  | _ => ("JugglerStates$Juggler", "clashes", "I", false)
def tyX1 : Nat → FieldType := fun k => match k with
  | 0 => .int
  | 1 => .array .int
  | 2 => .int
  | 3 => .int
  | 4 => .int
  | 5 => .int
  | _ => .int
theorem nmX1 : ∀ a, a < 7 → ∀ b, b < 7 → a ≠ b → (TX1 a).2.1 ≠ (TX1 b).2.1 := by decide +kernel
theorem tyX1_ok : ∀ k, k < 7 → parseFieldDescriptor (TX1 k).2.2.1 = some (tyX1 k) := by decide +kernel
abbrev cX1_init : ByteArray := prog_3_method_1_code
def yX1_init : MethodName := ⟨RX1, "<init>", "()V"⟩
abbrev cX1_become : ByteArray := prog_3_method_2_code
def yX1_become : MethodName := ⟨RX1, "become", "(LJugglerStates$Juggler;)V"⟩
abbrev cX1_begin : ByteArray := prog_3_method_3_code
def yX1_begin : MethodName := ⟨RX1, "begin", "(I)V"⟩
abbrev cX1_learn : ByteArray := prog_3_method_4_code
def yX1_learn : MethodName := ⟨RX1, "learn", "(LJugglerStates$Pad;)V"⟩
abbrev cX1_clubs : ByteArray := prog_3_method_5_code
def yX1_clubs : MethodName := ⟨RX1, "clubs", "()I"⟩
abbrev cX1_heightAt : ByteArray := prog_3_method_6_code
def yX1_heightAt : MethodName := ⟨RX1, "heightAt", "(I)I"⟩
abbrev cX1_isPassAt : ByteArray := prog_3_method_7_code
def yX1_isPassAt : MethodName := ⟨RX1, "isPassAt", "(I)Z"⟩
abbrev cX1_expects : ByteArray := prog_3_method_8_code
def yX1_expects : MethodName := ⟨RX1, "expects", "(I)Z"⟩
abbrev cX1_expect : ByteArray := prog_3_method_9_code
def yX1_expect : MethodName := ⟨RX1, "expect", "(I)V"⟩
abbrev cX1_lose : ByteArray := prog_3_method_10_code
def yX1_lose : MethodName := ⟨RX1, "lose", "(I)V"⟩
abbrev cX1_endBeat : ByteArray := prog_3_method_11_code
def yX1_endBeat : MethodName := ⟨RX1, "endBeat", "()V"⟩
abbrev cX1_standsLike : ByteArray := prog_3_method_12_code
def yX1_standsLike : MethodName := ⟨RX1, "standsLike", "(LJugglerStates$Juggler;)Z"⟩
def RX2 : String := "JugglerStates$Pad"
def TX2 : u_T := fun k => match k with
  | 0 => ("JugglerStates$Pad", "codes", "[I", true)
  | _ => ("JugglerStates$Pad", "length", "I", false)
def tyX2 : Nat → FieldType := fun k => match k with
  | 0 => .array .int
  | _ => .int
theorem nmX2 : ∀ a, a < 2 → ∀ b, b < 2 → a ≠ b → (TX2 a).2.1 ≠ (TX2 b).2.1 := by decide +kernel
theorem tyX2_ok : ∀ k, k < 2 → parseFieldDescriptor (TX2 k).2.2.1 = some (tyX2 k) := by decide +kernel
abbrev cX2_init : ByteArray := prog_4_method_1_code
def yX2_init : MethodName := ⟨RX2, "<init>", "()V"⟩
abbrev cX2_append : ByteArray := prog_4_method_2_code
def yX2_append : MethodName := ⟨RX2, "append", "(I)V"⟩
abbrev cX2_clear : ByteArray := prog_4_method_3_code
def yX2_clear : MethodName := ⟨RX2, "clear", "()V"⟩
abbrev cX2_codeAt : ByteArray := prog_4_method_4_code
def yX2_codeAt : MethodName := ⟨RX2, "codeAt", "(I)I"⟩
abbrev cX2_digit : ByteArray := prog_4_method_5_code
def yX2_digit : MethodName := ⟨RX2, "digit", "(I)I"⟩
abbrev cX2_isHeightAt : ByteArray := prog_4_method_6_code
def yX2_isHeightAt : MethodName := ⟨RX2, "isHeightAt", "(I)Z"⟩
abbrev cX2_programFault : ByteArray := prog_4_method_7_code
def yX2_programFault : MethodName := ⟨RX2, "programFault", "()I"⟩
abbrev cX2_canStand : ByteArray := prog_4_method_8_code
def yX2_canStand : MethodName := ⟨RX2, "canStand", "(II)Z"⟩
def RX3 : String := "JugglerStates$Pattern"
def TX3 : u_T := fun k => match k with
  | 0 => ("JugglerStates$Pattern", "heights", "[I", true)
  | _ => ("JugglerStates$Pattern", "length", "I", false)
def tyX3 : Nat → FieldType := fun k => match k with
  | 0 => .array .int
  | _ => .int
theorem nmX3 : ∀ a, a < 2 → ∀ b, b < 2 → a ≠ b → (TX3 a).2.1 ≠ (TX3 b).2.1 := by decide +kernel
theorem tyX3_ok : ∀ k, k < 2 → parseFieldDescriptor (TX3 k).2.2.1 = some (tyX3 k) := by decide +kernel
abbrev cX3_init : ByteArray := prog_5_method_1_code
def yX3_init : MethodName := ⟨RX3, "<init>", "()V"⟩
abbrev cX3_learn : ByteArray := prog_5_method_2_code
def yX3_learn : MethodName := ⟨RX3, "learn", "(LJugglerStates$Pad;)Z"⟩
abbrev cX3_heightAt : ByteArray := prog_5_method_3_code
def yX3_heightAt : MethodName := ⟨RX3, "heightAt", "(I)I"⟩
abbrev cX3_landing : ByteArray := prog_5_method_4_code
def yX3_landing : MethodName := ⟨RX3, "landing", "(I)I"⟩
abbrev cX3_isSound : ByteArray := prog_5_method_5_code
def yX3_isSound : MethodName := ⟨RX3, "isSound", "()Z"⟩
abbrev cX3_clubs : ByteArray := prog_5_method_6_code
def yX3_clubs : MethodName := ⟨RX3, "clubs", "()I"⟩
abbrev cX3_startState : ByteArray := prog_5_method_7_code
def yX3_startState : MethodName := ⟨RX3, "startState", "()I"⟩
abbrev cX3_orbits : ByteArray := prog_5_method_8_code
def yX3_orbits : MethodName := ⟨RX3, "orbits", "()I"⟩
abbrev cX3_orbitThrough : ByteArray := prog_5_method_9_code
def yX3_orbitThrough : MethodName := ⟨RX3, "orbitThrough", "(I)I"⟩
abbrev cX3_period : ByteArray := prog_5_method_10_code
def yX3_period : MethodName := ⟨RX3, "period", "()I"⟩
abbrev cX3_comesAgainBehind : ByteArray := prog_5_method_11_code
def yX3_comesAgainBehind : MethodName := ⟨RX3, "comesAgainBehind", "(I)Z"⟩
abbrev cX3_heightTurnedBack : ByteArray := prog_5_method_12_code
def yX3_heightTurnedBack : MethodName := ⟨RX3, "heightTurnedBack", "(I)I"⟩
def RX4 : String := "JugglerStates$Scene"
def TX4 : u_T := fun k => match k with
  | 0 => ("JugglerStates$Scene", "zero", "LJugglerStates$Juggler;", true)
  | 1 => ("JugglerStates$Scene", "one", "LJugglerStates$Juggler;", true)
  | 2 => ("JugglerStates$Scene", "floor", "I", false)
  | 3 => ("JugglerStates$Scene", "beatsPassed", "I", false)
  | 4 => ("JugglerStates$Scene", "throwsMade", "I", false)
  | _ => ("JugglerStates$Scene", "passesCome", "I", false)
def tyX4 : Nat → FieldType := fun k => match k with
  | 0 => .object "JugglerStates$Juggler"
  | 1 => .object "JugglerStates$Juggler"
  | 2 => .int
  | 3 => .int
  | 4 => .int
  | _ => .int
theorem nmX4 : ∀ a, a < 6 → ∀ b, b < 6 → a ≠ b → (TX4 a).2.1 ≠ (TX4 b).2.1 := by decide +kernel
theorem tyX4_ok : ∀ k, k < 6 → parseFieldDescriptor (TX4 k).2.2.1 = some (tyX4 k) := by decide +kernel
abbrev cX4_init : ByteArray := prog_6_method_1_code
def yX4_init : MethodName := ⟨RX4, "<init>", "()V"⟩
abbrev cX4_become : ByteArray := prog_6_method_2_code
def yX4_become : MethodName := ⟨RX4, "become", "(LJugglerStates$Scene;)V"⟩
abbrev cX4_begin : ByteArray := prog_6_method_3_code
def yX4_begin : MethodName := ⟨RX4, "begin", "(II)V"⟩
abbrev cX4_juggler : ByteArray := prog_6_method_4_code
def yX4_juggler : MethodName := ⟨RX4, "juggler", "(I)LJugglerStates$Juggler;"⟩
abbrev cX4_clubs : ByteArray := prog_6_method_5_code
def yX4_clubs : MethodName := ⟨RX4, "clubs", "()I"⟩
abbrev cX4_play : ByteArray := prog_6_method_6_code
def yX4_play : MethodName := ⟨RX4, "play", "(I)I"⟩
abbrev cX4_letThrow : ByteArray := prog_6_method_7_code
def yX4_letThrow : MethodName := ⟨RX4, "letThrow", "(LJugglerStates$Juggler;LJugglerStates$Juggler;)V"⟩
abbrev cX4_standsLike : ByteArray := prog_6_method_8_code
def yX4_standsLike : MethodName := ⟨RX4, "standsLike", "(LJugglerStates$Scene;)Z"⟩
def RX5 : String := "JugglerStates$Slot"
def TX5 : u_T := fun k => match k with
  | 0 => ("JugglerStates$Slot", "kept", "LJugglerStates$Scene;", true)
  | _ => ("JugglerStates$Slot", "filled", "Z", false)
def tyX5 : Nat → FieldType := fun k => match k with
  | 0 => .object "JugglerStates$Scene"
  | _ => .boolean
theorem nmX5 : ∀ a, a < 2 → ∀ b, b < 2 → a ≠ b → (TX5 a).2.1 ≠ (TX5 b).2.1 := by decide +kernel
theorem tyX5_ok : ∀ k, k < 2 → parseFieldDescriptor (TX5 k).2.2.1 = some (tyX5 k) := by decide +kernel
abbrev cX5_init : ByteArray := prog_7_method_1_code
def yX5_init : MethodName := ⟨RX5, "<init>", "()V"⟩
def RX6 : String := "JugglerStates$Ways"
def TX6 : u_T := fun k => match k with
  | 0 => ("JugglerStates$Ways", "steps", "[I", true)
  | 1 => ("JugglerStates$Ways", "firstThrows", "[I", true)
  | 2 => ("JugglerStates$Ways", "lastThrows", "[I", true)
  | 3 => ("JugglerStates$Ways", "reached", "[I", true)
  | _ => ("JugglerStates$Ways", "reachedCount", "I", false)
def tyX6 : Nat → FieldType := fun k => match k with
  | 0 => .array .int
  | 1 => .array .int
  | 2 => .array .int
  | 3 => .array .int
  | _ => .int
theorem nmX6 : ∀ a, a < 5 → ∀ b, b < 5 → a ≠ b → (TX6 a).2.1 ≠ (TX6 b).2.1 := by decide +kernel
theorem tyX6_ok : ∀ k, k < 5 → parseFieldDescriptor (TX6 k).2.2.1 = some (tyX6 k) := by decide +kernel
abbrev cX6_init : ByteArray := prog_8_method_1_code
def yX6_init : MethodName := ⟨RX6, "<init>", "()V"⟩
abbrev cX6_searchFrom : ByteArray := prog_8_method_2_code
def yX6_searchFrom : MethodName := ⟨RX6, "searchFrom", "(I)V"⟩
abbrev cX6_goOnFrom : ByteArray := prog_8_method_3_code
def yX6_goOnFrom : MethodName := ⟨RX6, "goOnFrom", "(I)V"⟩
abbrev cX6_makeThrow : ByteArray := prog_8_method_4_code
def yX6_makeThrow : MethodName := ⟨RX6, "makeThrow", "(II)V"⟩
abbrev cX6_reach : ByteArray := prog_8_method_5_code
def yX6_reach : MethodName := ⟨RX6, "reach", "(IIII)V"⟩
abbrev cX6_stepsTo : ByteArray := prog_8_method_6_code
def yX6_stepsTo : MethodName := ⟨RX6, "stepsTo", "(I)I"⟩
abbrev cX6_firstThrowTo : ByteArray := prog_8_method_7_code
def yX6_firstThrowTo : MethodName := ⟨RX6, "firstThrowTo", "(I)I"⟩
abbrev cX6_lastThrowTo : ByteArray := prog_8_method_8_code
def yX6_lastThrowTo : MethodName := ⟨RX6, "lastThrowTo", "(I)I"⟩
def RX7 : String := "JugglerStates"
def TX7 : u_T := fun k => match k with
  | 0 => ("JugglerStates", "now", "LJugglerStates$Scene;", true)
  | 1 => ("JugglerStates", "ahead", "LJugglerStates$Scene;", true)
  | 2 => ("JugglerStates", "pad", "LJugglerStates$Pad;", true)
  | 3 => ("JugglerStates", "padPattern", "LJugglerStates$Pattern;", true)
  | 4 => ("JugglerStates", "ways", "LJugglerStates$Ways;", true)
  | 5 => ("JugglerStates", "history", "LJugglerStates$History;", true)
  | 6 => ("JugglerStates", "slotZero", "LJugglerStates$Slot;", true)
  | _ => ("JugglerStates", "slotOne", "LJugglerStates$Slot;", true)
def tyX7 : Nat → FieldType := fun k => match k with
  | 0 => .object "JugglerStates$Scene"
  | 1 => .object "JugglerStates$Scene"
  | 2 => .object "JugglerStates$Pad"
  | 3 => .object "JugglerStates$Pattern"
  | 4 => .object "JugglerStates$Ways"
  | 5 => .object "JugglerStates$History"
  | 6 => .object "JugglerStates$Slot"
  | _ => .object "JugglerStates$Slot"
theorem nmX7 : ∀ a, a < 8 → ∀ b, b < 8 → a ≠ b → (TX7 a).2.1 ≠ (TX7 b).2.1 := by decide +kernel
theorem tyX7_ok : ∀ k, k < 8 → parseFieldDescriptor (TX7 k).2.2.1 = some (tyX7 k) := by decide +kernel
abbrev cX7_init : ByteArray := prog_1_method_1_code
def yX7_init : MethodName := ⟨RX7, "<init>", "()V"⟩
abbrev cX7_start : ByteArray := prog_1_method_2_code
def yX7_start : MethodName := ⟨RX7, "start", "(II)I"⟩
abbrev cX7_read : ByteArray := prog_1_method_3_code
def yX7_read : MethodName := ⟨RX7, "read", "()I"⟩
abbrev cX7_pass : ByteArray := prog_1_method_4_code
def yX7_pass : MethodName := ⟨RX7, "pass", "(I)I"⟩
abbrev cX7_drop : ByteArray := prog_1_method_5_code
def yX7_drop : MethodName := ⟨RX7, "drop", "(II)I"⟩
abbrev cX7_pick : ByteArray := prog_1_method_6_code
def yX7_pick : MethodName := ⟨RX7, "pick", "(II)I"⟩
abbrev cX7_of : ByteArray := prog_1_method_7_code
def yX7_of : MethodName := ⟨RX7, "of", "(II)I"⟩
abbrev cX7_thrown : ByteArray := prog_1_method_8_code
def yX7_thrown : MethodName := ⟨RX7, "thrown", "(III)I"⟩
abbrev cX7_count : ByteArray := prog_1_method_9_code
def yX7_count : MethodName := ⟨RX7, "count", "(I)I"⟩
abbrev cX7_firstDrop : ByteArray := prog_1_method_10_code
def yX7_firstDrop : MethodName := ⟨RX7, "firstDrop", "()I"⟩
abbrev cX7_comesRound : ByteArray := prog_1_method_11_code
def yX7_comesRound : MethodName := ⟨RX7, "comesRound", "()I"⟩
abbrev cX7_stateBehind : ByteArray := prog_1_method_12_code
def yX7_stateBehind : MethodName := ⟨RX7, "stateBehind", "(II)I"⟩
abbrev cX7_pattern : ByteArray := prog_1_method_13_code
def yX7_pattern : MethodName := ⟨RX7, "pattern", "(I)I"⟩
abbrev cX7_back : ByteArray := prog_1_method_14_code
def yX7_back : MethodName := ⟨RX7, "back", "(I)I"⟩
abbrev cX7_way : ByteArray := prog_1_method_15_code
def yX7_way : MethodName := ⟨RX7, "way", "(III)I"⟩
abbrev cX7_howMany : ByteArray := prog_1_method_16_code
def yX7_howMany : MethodName := ⟨RX7, "howMany", "(II)I"⟩
abbrev cX7_put : ByteArray := prog_1_method_17_code
def yX7_put : MethodName := ⟨RX7, "put", "(J)I"⟩
abbrev cX7_wipe : ByteArray := prog_1_method_18_code
def yX7_wipe : MethodName := ⟨RX7, "wipe", "()I"⟩
abbrev cX7_fault : ByteArray := prog_1_method_19_code
def yX7_fault : MethodName := ⟨RX7, "fault", "()I"⟩
abbrev cX7_undo : ByteArray := prog_1_method_20_code
def yX7_undo : MethodName := ⟨RX7, "undo", "()I"⟩
abbrev cX7_isWithin : ByteArray := prog_1_method_23_code
def yX7_isWithin : MethodName := ⟨RX7, "isWithin", "(III)Z"⟩
abbrev cX7_isJuggler : ByteArray := prog_1_method_24_code
def yX7_isJuggler : MethodName := ⟨RX7, "isJuggler", "(I)Z"⟩
abbrev cX7_isBeat : ByteArray := prog_1_method_25_code
def yX7_isBeat : MethodName := ⟨RX7, "isBeat", "(I)Z"⟩
abbrev cX7_oneIf : ByteArray := prog_1_method_28_code
def yX7_oneIf : MethodName := ⟨RX7, "oneIf", "(Z)I"⟩
abbrev cX7_firstBeats : ByteArray := prog_1_method_29_code
def yX7_firstBeats : MethodName := ⟨RX7, "firstBeats", "(I)I"⟩
abbrev cX7_has : ByteArray := prog_1_method_30_code
def yX7_has : MethodName := ⟨RX7, "has", "(II)Z"⟩
abbrev cX7_valueAt : ByteArray := prog_1_method_31_code
def yX7_valueAt : MethodName := ⟨RX7, "valueAt", "([II)I"⟩
abbrev cX7_setAt : ByteArray := prog_1_method_32_code
def yX7_setAt : MethodName := ⟨RX7, "setAt", "([III)V"⟩
abbrev cX7_leftOver : ByteArray := prog_1_method_33_code
def yX7_leftOver : MethodName := ⟨RX7, "leftOver", "(II)I"⟩
abbrev cX7_isHeight : ByteArray := prog_1_method_34_code
def yX7_isHeight : MethodName := ⟨RX7, "isHeight", "(I)Z"⟩
abbrev cX7_packedCharacters : ByteArray := prog_1_method_35_code
def yX7_packedCharacters : MethodName := ⟨RX7, "packedCharacters", "(J)I"⟩
abbrev cX7_soundEndings : ByteArray := prog_1_method_36_code
def yX7_soundEndings : MethodName := ⟨RX7, "soundEndings", "(IIII)I"⟩
def RX8 : String := "JugglerStatesModel"
def TX8 : u_T := fun k => match k with
  | _ => ("", "", "", false)
def tyX8 : Nat → FieldType := fun k => match k with
  | _ => .int
theorem nmX8 : ∀ a, a < 0 → ∀ b, b < 0 → a ≠ b → (TX8 a).2.1 ≠ (TX8 b).2.1 := by decide +kernel
theorem tyX8_ok : ∀ k, k < 0 → parseFieldDescriptor (TX8 k).2.2.1 = some (tyX8 k) := by decide +kernel
def RJ6 : String := "java/lang/Integer"
def TJ6 : u_T := fun k => match k with
  | _ => ("", "", "", false)
def tyJ6 : Nat → FieldType := fun k => match k with
  | _ => .int
theorem nmJ6 : ∀ a, a < 0 → ∀ b, b < 0 → a ≠ b → (TJ6 a).2.1 ≠ (TJ6 b).2.1 := by decide +kernel
theorem tyJ6_ok : ∀ k, k < 0 → parseFieldDescriptor (TJ6 k).2.2.1 = some (tyJ6 k) := by decide +kernel
abbrev cJ6_bitCount_0f7a4 : ByteArray := prog_11_method_49_code
def yJ6_bitCount_0f7a4 : MethodName := ⟨RJ6, "bitCount", "(I)I"⟩
def RJ9 : String := "java/lang/Math"
def TJ9 : u_T := fun k => match k with
  | _ => ("", "", "", false)
def tyJ9 : Nat → FieldType := fun k => match k with
  | _ => .int
theorem nmJ9 : ∀ a, a < 0 → ∀ b, b < 0 → a ≠ b → (TJ9 a).2.1 ≠ (TJ9 b).2.1 := by decide +kernel
theorem tyJ9_ok : ∀ k, k < 0 → parseFieldDescriptor (TJ9 k).2.2.1 = some (tyJ9 k) := by decide +kernel
abbrev cJ9_floorMod_7cf53 : ByteArray := prog_12_method_50_code
def yJ9_floorMod_7cf53 : MethodName := ⟨RJ9, "floorMod", "(II)I"⟩
def RJ7 : String := "java/util/Arrays"
def TJ7 : u_T := fun k => match k with
  | _ => ("", "", "", false)
def tyJ7 : Nat → FieldType := fun k => match k with
  | _ => .int
theorem nmJ7 : ∀ a, a < 0 → ∀ b, b < 0 → a ≠ b → (TJ7 a).2.1 ≠ (TJ7 b).2.1 := by decide +kernel
theorem tyJ7_ok : ∀ k, k < 0 → parseFieldDescriptor (TJ7 k).2.2.1 = some (tyJ7 k) := by decide +kernel
abbrev cJ7_fill_53178 : ByteArray := prog_13_method_103_code
def yJ7_fill_53178 : MethodName := ⟨RJ7, "fill", "([II)V"⟩
def RL : String := "JugglerStatesLaw"
abbrev cL_cell : ByteArray := method_2_code
def yL_cell : MethodName := ⟨RL, "cell", "([II)I"⟩
abbrev cL_up : ByteArray := method_3_code
def yL_up : MethodName := ⟨RL, "up", "(II)I"⟩
abbrev cL_isStep : ByteArray := method_4_code
def yL_isStep : MethodName := ⟨RL, "isStep", "(LJugglerStates;II)Z"⟩
abbrev cL_isRound : ByteArray := method_5_code
def yL_isRound : MethodName := ⟨RL, "isRound", "(LJugglerStates;)Z"⟩
abbrev cL_isThrown : ByteArray := method_6_code
def yL_isThrown : MethodName := ⟨RL, "isThrown", "(II)Z"⟩
abbrev cL_isCounted : ByteArray := method_7_code
def yL_isCounted : MethodName := ⟨RL, "isCounted", "(LJugglerStates;I)Z"⟩
abbrev cL_law : ByteArray := code
def yL_law : MethodName := ⟨RL, "law", "([I)Z"⟩
abbrev vwCl : List vw_C := [(RX0, TX0, 3), (RX1, TX1, 7), (RX2, TX2, 2), (RX3, TX3, 2), (RX4, TX4, 6), (RX5, TX5, 2), (RX6, TX6, 5), (RX7, TX7, 8)]
theorem dX0_init_0 : decode cX0_init 0 = .ok (.aload_n 0, 1) := by decide +kernel
theorem dX0_init_1 : decode cX0_init 1 = .ok (.invokespecial 3, 3) := by decide +kernel
theorem dX0_init_4 : decode cX0_init 4 = .ok (.aload_n 0, 1) := by decide +kernel
theorem dX0_init_5 : decode cX0_init 5 = .ok (.bipush 6, 2) := by decide +kernel
theorem dX0_init_7 : decode cX0_init 7 = .ok (.anewarray 9, 3) := by decide +kernel
theorem dX0_init_10 : decode cX0_init 10 = .ok (.putfield 11, 3) := by decide +kernel
theorem dX0_init_13 : decode cX0_init 13 = .ok (.iconst 0, 1) := by decide +kernel
theorem dX0_init_14 : decode cX0_init 14 = .ok (.istore_n 1, 1) := by decide +kernel
theorem dX0_init_15 : decode cX0_init 15 = .ok (.iload_n 1, 1) := by decide +kernel
theorem dX0_init_16 : decode cX0_init 16 = .ok (.aload_n 0, 1) := by decide +kernel
theorem dX0_init_17 : decode cX0_init 17 = .ok (.getfield 11, 3) := by decide +kernel
theorem dX0_init_20 : decode cX0_init 20 = .ok (.arraylength, 1) := by decide +kernel
theorem dX0_init_21 : decode cX0_init 21 = .ok (.if_icmp .ge 22, 3) := by decide +kernel
theorem dX0_init_24 : decode cX0_init 24 = .ok (.aload_n 0, 1) := by decide +kernel
theorem dX0_init_25 : decode cX0_init 25 = .ok (.getfield 11, 3) := by decide +kernel
theorem dX0_init_28 : decode cX0_init 28 = .ok (.iload_n 1, 1) := by decide +kernel
theorem dX0_init_29 : decode cX0_init 29 = .ok (.new 9, 3) := by decide +kernel
theorem dX0_init_32 : decode cX0_init 32 = .ok (.dup, 1) := by decide +kernel
theorem dX0_init_33 : decode cX0_init 33 = .ok (.invokespecial 17, 3) := by decide +kernel
theorem dX0_init_36 : decode cX0_init 36 = .ok (.aastore, 1) := by decide +kernel
theorem dX0_init_37 : decode cX0_init 37 = .ok (.iinc 1 1, 3) := by decide +kernel
theorem dX0_init_40 : decode cX0_init 40 = .ok (.goto (-25), 3) := by decide +kernel
theorem dX0_init_43 : decode cX0_init 43 = .ok (.return_, 1) := by decide +kernel
theorem dX0_record_0 : decode cX0_record 0 = .ok (.aload_n 0, 1) := by decide +kernel
theorem dX0_record_1 : decode cX0_record 1 = .ok (.getfield 18, 3) := by decide +kernel
theorem dX0_record_4 : decode cX0_record 4 = .ok (.bipush 6, 2) := by decide +kernel
theorem dX0_record_6 : decode cX0_record 6 = .ok (.if_icmp .ge 16, 3) := by decide +kernel
theorem dX0_record_9 : decode cX0_record 9 = .ok (.aload_n 0, 1) := by decide +kernel
theorem dX0_record_10 : decode cX0_record 10 = .ok (.dup, 1) := by decide +kernel
theorem dX0_record_11 : decode cX0_record 11 = .ok (.getfield 18, 3) := by decide +kernel
theorem dX0_record_14 : decode cX0_record 14 = .ok (.iconst 1, 1) := by decide +kernel
theorem dX0_record_15 : decode cX0_record 15 = .ok (.iadd, 1) := by decide +kernel
theorem dX0_record_16 : decode cX0_record 16 = .ok (.putfield 18, 3) := by decide +kernel
theorem dX0_record_19 : decode cX0_record 19 = .ok (.goto 18, 3) := by decide +kernel
theorem dX0_record_22 : decode cX0_record 22 = .ok (.aload_n 0, 1) := by decide +kernel
theorem dX0_record_23 : decode cX0_record 23 = .ok (.aload_n 0, 1) := by decide +kernel
theorem dX0_record_24 : decode cX0_record 24 = .ok (.getfield 22, 3) := by decide +kernel
theorem dX0_record_27 : decode cX0_record 27 = .ok (.iconst 1, 1) := by decide +kernel
theorem dX0_record_28 : decode cX0_record 28 = .ok (.iadd, 1) := by decide +kernel
theorem dX0_record_29 : decode cX0_record 29 = .ok (.bipush 6, 2) := by decide +kernel
theorem dX0_record_31 : decode cX0_record 31 = .ok (.invokestatic 25, 3) := by decide +kernel
theorem dX0_record_34 : decode cX0_record 34 = .ok (.putfield 22, 3) := by decide +kernel
theorem dX0_record_37 : decode cX0_record 37 = .ok (.aload_n 0, 1) := by decide +kernel
theorem dX0_record_38 : decode cX0_record 38 = .ok (.invokevirtual 29, 3) := by decide +kernel
theorem dX0_record_41 : decode cX0_record 41 = .ok (.astore_n 2, 1) := by decide +kernel
theorem dX0_record_42 : decode cX0_record 42 = .ok (.aload_n 2, 1) := by decide +kernel
theorem dX0_record_43 : decode cX0_record 43 = .ok (.ifnull 8, 3) := by decide +kernel
theorem dX0_record_46 : decode cX0_record 46 = .ok (.aload_n 2, 1) := by decide +kernel
theorem dX0_record_47 : decode cX0_record 47 = .ok (.aload_n 1, 1) := by decide +kernel
theorem dX0_record_48 : decode cX0_record 48 = .ok (.invokevirtual 33, 3) := by decide +kernel
theorem dX0_record_51 : decode cX0_record 51 = .ok (.return_, 1) := by decide +kernel
theorem dX0_takeBack_0 : decode cX0_takeBack 0 = .ok (.aload_n 0, 1) := by decide +kernel
theorem dX0_takeBack_1 : decode cX0_takeBack 1 = .ok (.invokevirtual 29, 3) := by decide +kernel
theorem dX0_takeBack_4 : decode cX0_takeBack 4 = .ok (.astore_n 2, 1) := by decide +kernel
theorem dX0_takeBack_5 : decode cX0_takeBack 5 = .ok (.aload_n 0, 1) := by decide +kernel
theorem dX0_takeBack_6 : decode cX0_takeBack 6 = .ok (.getfield 18, 3) := by decide +kernel
theorem dX0_takeBack_9 : decode cX0_takeBack 9 = .ok (.ifCond .le 22, 3) := by decide +kernel
theorem dX0_takeBack_12 : decode cX0_takeBack 12 = .ok (.aload_n 2, 1) := by decide +kernel
theorem dX0_takeBack_13 : decode cX0_takeBack 13 = .ok (.ifnull 18, 3) := by decide +kernel
theorem dX0_takeBack_16 : decode cX0_takeBack 16 = .ok (.aload_n 1, 1) := by decide +kernel
theorem dX0_takeBack_17 : decode cX0_takeBack 17 = .ok (.aload_n 2, 1) := by decide +kernel
theorem dX0_takeBack_18 : decode cX0_takeBack 18 = .ok (.invokevirtual 33, 3) := by decide +kernel
theorem dX0_takeBack_21 : decode cX0_takeBack 21 = .ok (.aload_n 0, 1) := by decide +kernel
theorem dX0_takeBack_22 : decode cX0_takeBack 22 = .ok (.dup, 1) := by decide +kernel
theorem dX0_takeBack_23 : decode cX0_takeBack 23 = .ok (.getfield 18, 3) := by decide +kernel
theorem dX0_takeBack_26 : decode cX0_takeBack 26 = .ok (.iconst 1, 1) := by decide +kernel
theorem dX0_takeBack_27 : decode cX0_takeBack 27 = .ok (.isub, 1) := by decide +kernel
theorem dX0_takeBack_28 : decode cX0_takeBack 28 = .ok (.putfield 18, 3) := by decide +kernel
theorem dX0_takeBack_31 : decode cX0_takeBack 31 = .ok (.return_, 1) := by decide +kernel
theorem dX0_latest_0 : decode cX0_latest 0 = .ok (.aload_n 0, 1) := by decide +kernel
theorem dX0_latest_1 : decode cX0_latest 1 = .ok (.getfield 22, 3) := by decide +kernel
theorem dX0_latest_4 : decode cX0_latest 4 = .ok (.aload_n 0, 1) := by decide +kernel
theorem dX0_latest_5 : decode cX0_latest 5 = .ok (.getfield 18, 3) := by decide +kernel
theorem dX0_latest_8 : decode cX0_latest 8 = .ok (.iadd, 1) := by decide +kernel
theorem dX0_latest_9 : decode cX0_latest 9 = .ok (.iconst 1, 1) := by decide +kernel
theorem dX0_latest_10 : decode cX0_latest 10 = .ok (.isub, 1) := by decide +kernel
theorem dX0_latest_11 : decode cX0_latest 11 = .ok (.bipush 6, 2) := by decide +kernel
theorem dX0_latest_13 : decode cX0_latest 13 = .ok (.invokestatic 25, 3) := by decide +kernel
theorem dX0_latest_16 : decode cX0_latest 16 = .ok (.istore_n 1, 1) := by decide +kernel
theorem dX0_latest_17 : decode cX0_latest 17 = .ok (.iload_n 1, 1) := by decide +kernel
theorem dX0_latest_18 : decode cX0_latest 18 = .ok (.ifCond .lt 21, 3) := by decide +kernel
theorem dX0_latest_21 : decode cX0_latest 21 = .ok (.iload_n 1, 1) := by decide +kernel
theorem dX0_latest_22 : decode cX0_latest 22 = .ok (.aload_n 0, 1) := by decide +kernel
theorem dX0_latest_23 : decode cX0_latest 23 = .ok (.getfield 11, 3) := by decide +kernel
theorem dX0_latest_26 : decode cX0_latest 26 = .ok (.arraylength, 1) := by decide +kernel
theorem dX0_latest_27 : decode cX0_latest 27 = .ok (.if_icmp .ge 12, 3) := by decide +kernel
theorem dX0_latest_30 : decode cX0_latest 30 = .ok (.aload_n 0, 1) := by decide +kernel
theorem dX0_latest_31 : decode cX0_latest 31 = .ok (.getfield 11, 3) := by decide +kernel
theorem dX0_latest_34 : decode cX0_latest 34 = .ok (.iload_n 1, 1) := by decide +kernel
theorem dX0_latest_35 : decode cX0_latest 35 = .ok (.aaload, 1) := by decide +kernel
theorem dX0_latest_36 : decode cX0_latest 36 = .ok (.goto 4, 3) := by decide +kernel
theorem dX0_latest_39 : decode cX0_latest 39 = .ok (.aconst_null, 1) := by decide +kernel
theorem dX0_latest_40 : decode cX0_latest 40 = .ok (.areturn, 1) := by decide +kernel
theorem dX1_init_0 : decode cX1_init 0 = .ok (.aload_n 0, 1) := by decide +kernel
theorem dX1_init_1 : decode cX1_init 1 = .ok (.invokespecial 3, 3) := by decide +kernel
theorem dX1_init_4 : decode cX1_init 4 = .ok (.aload_n 0, 1) := by decide +kernel
theorem dX1_init_5 : decode cX1_init 5 = .ok (.bipush 8, 2) := by decide +kernel
theorem dX1_init_7 : decode cX1_init 7 = .ok (.newarray .int, 2) := by decide +kernel
theorem dX1_init_9 : decode cX1_init 9 = .ok (.putfield 9, 3) := by decide +kernel
theorem dX1_init_12 : decode cX1_init 12 = .ok (.aload_n 0, 1) := by decide +kernel
theorem dX1_init_13 : decode cX1_init 13 = .ok (.iconst 1, 1) := by decide +kernel
theorem dX1_init_14 : decode cX1_init 14 = .ok (.putfield 15, 3) := by decide +kernel
theorem dX1_init_17 : decode cX1_init 17 = .ok (.return_, 1) := by decide +kernel
theorem dX1_become_0 : decode cX1_become 0 = .ok (.aload_n 0, 1) := by decide +kernel
theorem dX1_become_1 : decode cX1_become 1 = .ok (.aload_n 1, 1) := by decide +kernel
theorem dX1_become_2 : decode cX1_become 2 = .ok (.getfield 19, 3) := by decide +kernel
theorem dX1_become_5 : decode cX1_become 5 = .ok (.putfield 19, 3) := by decide +kernel
theorem dX1_become_8 : decode cX1_become 8 = .ok (.iconst 0, 1) := by decide +kernel
theorem dX1_become_9 : decode cX1_become 9 = .ok (.istore_n 2, 1) := by decide +kernel
theorem dX1_become_10 : decode cX1_become 10 = .ok (.iload_n 2, 1) := by decide +kernel
theorem dX1_become_11 : decode cX1_become 11 = .ok (.bipush 8, 2) := by decide +kernel
theorem dX1_become_13 : decode cX1_become 13 = .ok (.if_icmp .ge 22, 3) := by decide +kernel
theorem dX1_become_16 : decode cX1_become 16 = .ok (.aload_n 0, 1) := by decide +kernel
theorem dX1_become_17 : decode cX1_become 17 = .ok (.getfield 9, 3) := by decide +kernel
theorem dX1_become_20 : decode cX1_become 20 = .ok (.iload_n 2, 1) := by decide +kernel
theorem dX1_become_21 : decode cX1_become 21 = .ok (.aload_n 1, 1) := by decide +kernel
theorem dX1_become_22 : decode cX1_become 22 = .ok (.iload_n 2, 1) := by decide +kernel
theorem dX1_become_23 : decode cX1_become 23 = .ok (.invokevirtual 22, 3) := by decide +kernel
theorem dX1_become_26 : decode cX1_become 26 = .ok (.invokestatic 26, 3) := by decide +kernel
theorem dX1_become_29 : decode cX1_become 29 = .ok (.iinc 2 1, 3) := by decide +kernel
theorem dX1_become_32 : decode cX1_become 32 = .ok (.goto (-22), 3) := by decide +kernel
theorem dX1_become_35 : decode cX1_become 35 = .ok (.aload_n 0, 1) := by decide +kernel
theorem dX1_become_36 : decode cX1_become 36 = .ok (.aload_n 1, 1) := by decide +kernel
theorem dX1_become_37 : decode cX1_become 37 = .ok (.getfield 30, 3) := by decide +kernel
theorem dX1_become_40 : decode cX1_become 40 = .ok (.putfield 30, 3) := by decide +kernel
theorem dX1_become_43 : decode cX1_become 43 = .ok (.aload_n 0, 1) := by decide +kernel
theorem dX1_become_44 : decode cX1_become 44 = .ok (.aload_n 1, 1) := by decide +kernel
theorem dX1_become_45 : decode cX1_become 45 = .ok (.getfield 15, 3) := by decide +kernel
theorem dX1_become_48 : decode cX1_become 48 = .ok (.putfield 15, 3) := by decide +kernel
theorem dX1_become_51 : decode cX1_become 51 = .ok (.aload_n 0, 1) := by decide +kernel
theorem dX1_become_52 : decode cX1_become 52 = .ok (.aload_n 1, 1) := by decide +kernel
theorem dX1_become_53 : decode cX1_become 53 = .ok (.getfield 33, 3) := by decide +kernel
theorem dX1_become_56 : decode cX1_become 56 = .ok (.putfield 33, 3) := by decide +kernel
theorem dX1_become_59 : decode cX1_become 59 = .ok (.aload_n 0, 1) := by decide +kernel
theorem dX1_become_60 : decode cX1_become 60 = .ok (.aload_n 1, 1) := by decide +kernel
theorem dX1_become_61 : decode cX1_become 61 = .ok (.getfield 36, 3) := by decide +kernel
theorem dX1_become_64 : decode cX1_become 64 = .ok (.putfield 36, 3) := by decide +kernel
theorem dX1_become_67 : decode cX1_become 67 = .ok (.aload_n 0, 1) := by decide +kernel
theorem dX1_become_68 : decode cX1_become 68 = .ok (.aload_n 1, 1) := by decide +kernel
theorem dX1_become_69 : decode cX1_become 69 = .ok (.getfield 39, 3) := by decide +kernel
theorem dX1_become_72 : decode cX1_become 72 = .ok (.putfield 39, 3) := by decide +kernel
theorem dX1_become_75 : decode cX1_become 75 = .ok (.return_, 1) := by decide +kernel
theorem dX1_begin_0 : decode cX1_begin 0 = .ok (.aload_n 0, 1) := by decide +kernel
theorem dX1_begin_1 : decode cX1_begin 1 = .ok (.iload_n 1, 1) := by decide +kernel
theorem dX1_begin_2 : decode cX1_begin 2 = .ok (.invokestatic 42, 3) := by decide +kernel
theorem dX1_begin_5 : decode cX1_begin 5 = .ok (.putfield 19, 3) := by decide +kernel
theorem dX1_begin_8 : decode cX1_begin 8 = .ok (.aload_n 0, 1) := by decide +kernel
theorem dX1_begin_9 : decode cX1_begin 9 = .ok (.iconst 0, 1) := by decide +kernel
theorem dX1_begin_10 : decode cX1_begin 10 = .ok (.putfield 33, 3) := by decide +kernel
theorem dX1_begin_13 : decode cX1_begin 13 = .ok (.aload_n 0, 1) := by decide +kernel
theorem dX1_begin_14 : decode cX1_begin 14 = .ok (.iconst 0, 1) := by decide +kernel
theorem dX1_begin_15 : decode cX1_begin 15 = .ok (.putfield 36, 3) := by decide +kernel
theorem dX1_begin_18 : decode cX1_begin 18 = .ok (.aload_n 0, 1) := by decide +kernel
theorem dX1_begin_19 : decode cX1_begin 19 = .ok (.iconst 0, 1) := by decide +kernel
theorem dX1_begin_20 : decode cX1_begin 20 = .ok (.putfield 39, 3) := by decide +kernel
theorem dX1_begin_23 : decode cX1_begin 23 = .ok (.return_, 1) := by decide +kernel
theorem dX1_learn_0 : decode cX1_learn 0 = .ok (.aload_n 0, 1) := by decide +kernel
theorem dX1_learn_1 : decode cX1_learn 1 = .ok (.iconst 0, 1) := by decide +kernel
theorem dX1_learn_2 : decode cX1_learn 2 = .ok (.putfield 15, 3) := by decide +kernel
theorem dX1_learn_5 : decode cX1_learn 5 = .ok (.aload_n 0, 1) := by decide +kernel
theorem dX1_learn_6 : decode cX1_learn 6 = .ok (.iconst 0, 1) := by decide +kernel
theorem dX1_learn_7 : decode cX1_learn 7 = .ok (.putfield 30, 3) := by decide +kernel
theorem dX1_learn_10 : decode cX1_learn 10 = .ok (.aload_n 0, 1) := by decide +kernel
theorem dX1_learn_11 : decode cX1_learn 11 = .ok (.iconst 0, 1) := by decide +kernel
theorem dX1_learn_12 : decode cX1_learn 12 = .ok (.putfield 33, 3) := by decide +kernel
theorem dX1_learn_15 : decode cX1_learn 15 = .ok (.iconst 2, 1) := by decide +kernel
theorem dX1_learn_16 : decode cX1_learn 16 = .ok (.istore_n 2, 1) := by decide +kernel
theorem dX1_learn_17 : decode cX1_learn 17 = .ok (.iload_n 2, 1) := by decide +kernel
theorem dX1_learn_18 : decode cX1_learn 18 = .ok (.aload_n 1, 1) := by decide +kernel
theorem dX1_learn_19 : decode cX1_learn 19 = .ok (.getfield 47, 3) := by decide +kernel
theorem dX1_learn_22 : decode cX1_learn 22 = .ok (.if_icmp .ge 63, 3) := by decide +kernel
theorem dX1_learn_25 : decode cX1_learn 25 = .ok (.aload_n 1, 1) := by decide +kernel
theorem dX1_learn_26 : decode cX1_learn 26 = .ok (.iload_n 2, 1) := by decide +kernel
theorem dX1_learn_27 : decode cX1_learn 27 = .ok (.invokevirtual 50, 3) := by decide +kernel
theorem dX1_learn_30 : decode cX1_learn 30 = .ok (.ifCond .eq 32, 3) := by decide +kernel
theorem dX1_learn_33 : decode cX1_learn 33 = .ok (.aload_n 0, 1) := by decide +kernel
theorem dX1_learn_34 : decode cX1_learn 34 = .ok (.getfield 9, 3) := by decide +kernel
theorem dX1_learn_37 : decode cX1_learn 37 = .ok (.aload_n 0, 1) := by decide +kernel
theorem dX1_learn_38 : decode cX1_learn 38 = .ok (.getfield 15, 3) := by decide +kernel
theorem dX1_learn_41 : decode cX1_learn 41 = .ok (.aload_n 1, 1) := by decide +kernel
theorem dX1_learn_42 : decode cX1_learn 42 = .ok (.iload_n 2, 1) := by decide +kernel
theorem dX1_learn_43 : decode cX1_learn 43 = .ok (.invokevirtual 54, 3) := by decide +kernel
theorem dX1_learn_46 : decode cX1_learn 46 = .ok (.invokestatic 26, 3) := by decide +kernel
theorem dX1_learn_49 : decode cX1_learn 49 = .ok (.aload_n 0, 1) := by decide +kernel
theorem dX1_learn_50 : decode cX1_learn 50 = .ok (.dup, 1) := by decide +kernel
theorem dX1_learn_51 : decode cX1_learn 51 = .ok (.getfield 15, 3) := by decide +kernel
theorem dX1_learn_54 : decode cX1_learn 54 = .ok (.iconst 1, 1) := by decide +kernel
theorem dX1_learn_55 : decode cX1_learn 55 = .ok (.iadd, 1) := by decide +kernel
theorem dX1_learn_56 : decode cX1_learn 56 = .ok (.putfield 15, 3) := by decide +kernel
theorem dX1_learn_59 : decode cX1_learn 59 = .ok (.goto 20, 3) := by decide +kernel
theorem dX1_learn_62 : decode cX1_learn 62 = .ok (.aload_n 0, 1) := by decide +kernel
theorem dX1_learn_63 : decode cX1_learn 63 = .ok (.dup, 1) := by decide +kernel
theorem dX1_learn_64 : decode cX1_learn 64 = .ok (.getfield 30, 3) := by decide +kernel
theorem dX1_learn_67 : decode cX1_learn 67 = .ok (.iconst 1, 1) := by decide +kernel
theorem dX1_learn_68 : decode cX1_learn 68 = .ok (.aload_n 0, 1) := by decide +kernel
theorem dX1_learn_69 : decode cX1_learn 69 = .ok (.getfield 15, 3) := by decide +kernel
theorem dX1_learn_72 : decode cX1_learn 72 = .ok (.iconst 1, 1) := by decide +kernel
theorem dX1_learn_73 : decode cX1_learn 73 = .ok (.isub, 1) := by decide +kernel
theorem dX1_learn_74 : decode cX1_learn 74 = .ok (.ishl, 1) := by decide +kernel
theorem dX1_learn_75 : decode cX1_learn 75 = .ok (.ior, 1) := by decide +kernel
theorem dX1_learn_76 : decode cX1_learn 76 = .ok (.putfield 30, 3) := by decide +kernel
theorem dX1_learn_79 : decode cX1_learn 79 = .ok (.iinc 2 1, 3) := by decide +kernel
theorem dX1_learn_82 : decode cX1_learn 82 = .ok (.goto (-65), 3) := by decide +kernel
theorem dX1_learn_85 : decode cX1_learn 85 = .ok (.return_, 1) := by decide +kernel
theorem dX1_clubs_0 : decode cX1_clubs 0 = .ok (.aload_n 0, 1) := by decide +kernel
theorem dX1_clubs_1 : decode cX1_clubs 1 = .ok (.getfield 19, 3) := by decide +kernel
theorem dX1_clubs_4 : decode cX1_clubs 4 = .ok (.invokestatic 57, 3) := by decide +kernel
theorem dX1_clubs_7 : decode cX1_clubs 7 = .ok (.ireturn, 1) := by decide +kernel
theorem dX1_heightAt_0 : decode cX1_heightAt 0 = .ok (.aload_n 0, 1) := by decide +kernel
theorem dX1_heightAt_1 : decode cX1_heightAt 1 = .ok (.getfield 9, 3) := by decide +kernel
theorem dX1_heightAt_4 : decode cX1_heightAt 4 = .ok (.iload_n 1, 1) := by decide +kernel
theorem dX1_heightAt_5 : decode cX1_heightAt 5 = .ok (.invokestatic 62, 3) := by decide +kernel
theorem dX1_heightAt_8 : decode cX1_heightAt 8 = .ok (.ireturn, 1) := by decide +kernel
theorem dX1_isPassAt_0 : decode cX1_isPassAt 0 = .ok (.aload_n 0, 1) := by decide +kernel
theorem dX1_isPassAt_1 : decode cX1_isPassAt 1 = .ok (.getfield 30, 3) := by decide +kernel
theorem dX1_isPassAt_4 : decode cX1_isPassAt 4 = .ok (.iload_n 1, 1) := by decide +kernel
theorem dX1_isPassAt_5 : decode cX1_isPassAt 5 = .ok (.invokestatic 66, 3) := by decide +kernel
theorem dX1_isPassAt_8 : decode cX1_isPassAt 8 = .ok (.ireturn, 1) := by decide +kernel
theorem dX1_expects_0 : decode cX1_expects 0 = .ok (.aload_n 0, 1) := by decide +kernel
theorem dX1_expects_1 : decode cX1_expects 1 = .ok (.getfield 19, 3) := by decide +kernel
theorem dX1_expects_4 : decode cX1_expects 4 = .ok (.iload_n 1, 1) := by decide +kernel
theorem dX1_expects_5 : decode cX1_expects 5 = .ok (.invokestatic 66, 3) := by decide +kernel
theorem dX1_expects_8 : decode cX1_expects 8 = .ok (.ireturn, 1) := by decide +kernel
theorem dX1_expect_0 : decode cX1_expect 0 = .ok (.aload_n 0, 1) := by decide +kernel
theorem dX1_expect_1 : decode cX1_expect 1 = .ok (.dup, 1) := by decide +kernel
theorem dX1_expect_2 : decode cX1_expect 2 = .ok (.getfield 19, 3) := by decide +kernel
theorem dX1_expect_5 : decode cX1_expect 5 = .ok (.iconst 1, 1) := by decide +kernel
theorem dX1_expect_6 : decode cX1_expect 6 = .ok (.iload_n 1, 1) := by decide +kernel
theorem dX1_expect_7 : decode cX1_expect 7 = .ok (.ishl, 1) := by decide +kernel
theorem dX1_expect_8 : decode cX1_expect 8 = .ok (.ior, 1) := by decide +kernel
theorem dX1_expect_9 : decode cX1_expect 9 = .ok (.putfield 19, 3) := by decide +kernel
theorem dX1_expect_12 : decode cX1_expect 12 = .ok (.return_, 1) := by decide +kernel
theorem dX1_lose_0 : decode cX1_lose 0 = .ok (.aload_n 0, 1) := by decide +kernel
theorem dX1_lose_1 : decode cX1_lose 1 = .ok (.dup, 1) := by decide +kernel
theorem dX1_lose_2 : decode cX1_lose 2 = .ok (.getfield 19, 3) := by decide +kernel
theorem dX1_lose_5 : decode cX1_lose 5 = .ok (.iconst 1, 1) := by decide +kernel
theorem dX1_lose_6 : decode cX1_lose 6 = .ok (.iload_n 1, 1) := by decide +kernel
theorem dX1_lose_7 : decode cX1_lose 7 = .ok (.ishl, 1) := by decide +kernel
theorem dX1_lose_8 : decode cX1_lose 8 = .ok (.iconst (-1), 1) := by decide +kernel
theorem dX1_lose_9 : decode cX1_lose 9 = .ok (.ixor, 1) := by decide +kernel
theorem dX1_lose_10 : decode cX1_lose 10 = .ok (.iand, 1) := by decide +kernel
theorem dX1_lose_11 : decode cX1_lose 11 = .ok (.putfield 19, 3) := by decide +kernel
theorem dX1_lose_14 : decode cX1_lose 14 = .ok (.return_, 1) := by decide +kernel
theorem dX1_endBeat_0 : decode cX1_endBeat 0 = .ok (.aload_n 0, 1) := by decide +kernel
theorem dX1_endBeat_1 : decode cX1_endBeat 1 = .ok (.dup, 1) := by decide +kernel
theorem dX1_endBeat_2 : decode cX1_endBeat 2 = .ok (.getfield 19, 3) := by decide +kernel
theorem dX1_endBeat_5 : decode cX1_endBeat 5 = .ok (.iconst 1, 1) := by decide +kernel
theorem dX1_endBeat_6 : decode cX1_endBeat 6 = .ok (.ishr, 1) := by decide +kernel
theorem dX1_endBeat_7 : decode cX1_endBeat 7 = .ok (.putfield 19, 3) := by decide +kernel
theorem dX1_endBeat_10 : decode cX1_endBeat 10 = .ok (.aload_n 0, 1) := by decide +kernel
theorem dX1_endBeat_11 : decode cX1_endBeat 11 = .ok (.dup, 1) := by decide +kernel
theorem dX1_endBeat_12 : decode cX1_endBeat 12 = .ok (.getfield 33, 3) := by decide +kernel
theorem dX1_endBeat_15 : decode cX1_endBeat 15 = .ok (.iconst 1, 1) := by decide +kernel
theorem dX1_endBeat_16 : decode cX1_endBeat 16 = .ok (.iadd, 1) := by decide +kernel
theorem dX1_endBeat_17 : decode cX1_endBeat 17 = .ok (.putfield 33, 3) := by decide +kernel
theorem dX1_endBeat_20 : decode cX1_endBeat 20 = .ok (.aload_n 0, 1) := by decide +kernel
theorem dX1_endBeat_21 : decode cX1_endBeat 21 = .ok (.getfield 33, 3) := by decide +kernel
theorem dX1_endBeat_24 : decode cX1_endBeat 24 = .ok (.aload_n 0, 1) := by decide +kernel
theorem dX1_endBeat_25 : decode cX1_endBeat 25 = .ok (.getfield 15, 3) := by decide +kernel
theorem dX1_endBeat_28 : decode cX1_endBeat 28 = .ok (.if_icmp .lt 8, 3) := by decide +kernel
theorem dX1_endBeat_31 : decode cX1_endBeat 31 = .ok (.aload_n 0, 1) := by decide +kernel
theorem dX1_endBeat_32 : decode cX1_endBeat 32 = .ok (.iconst 0, 1) := by decide +kernel
theorem dX1_endBeat_33 : decode cX1_endBeat 33 = .ok (.putfield 33, 3) := by decide +kernel
theorem dX1_endBeat_36 : decode cX1_endBeat 36 = .ok (.return_, 1) := by decide +kernel
theorem dX1_standsLike_0 : decode cX1_standsLike 0 = .ok (.aload_n 0, 1) := by decide +kernel
theorem dX1_standsLike_1 : decode cX1_standsLike 1 = .ok (.getfield 19, 3) := by decide +kernel
theorem dX1_standsLike_4 : decode cX1_standsLike 4 = .ok (.aload_n 1, 1) := by decide +kernel
theorem dX1_standsLike_5 : decode cX1_standsLike 5 = .ok (.getfield 19, 3) := by decide +kernel
theorem dX1_standsLike_8 : decode cX1_standsLike 8 = .ok (.if_icmp .ne 18, 3) := by decide +kernel
theorem dX1_standsLike_11 : decode cX1_standsLike 11 = .ok (.aload_n 0, 1) := by decide +kernel
theorem dX1_standsLike_12 : decode cX1_standsLike 12 = .ok (.getfield 33, 3) := by decide +kernel
theorem dX1_standsLike_15 : decode cX1_standsLike 15 = .ok (.aload_n 1, 1) := by decide +kernel
theorem dX1_standsLike_16 : decode cX1_standsLike 16 = .ok (.getfield 33, 3) := by decide +kernel
theorem dX1_standsLike_19 : decode cX1_standsLike 19 = .ok (.if_icmp .ne 7, 3) := by decide +kernel
theorem dX1_standsLike_22 : decode cX1_standsLike 22 = .ok (.iconst 1, 1) := by decide +kernel
theorem dX1_standsLike_23 : decode cX1_standsLike 23 = .ok (.goto 4, 3) := by decide +kernel
theorem dX1_standsLike_26 : decode cX1_standsLike 26 = .ok (.iconst 0, 1) := by decide +kernel
theorem dX1_standsLike_27 : decode cX1_standsLike 27 = .ok (.ireturn, 1) := by decide +kernel
theorem dX2_init_0 : decode cX2_init 0 = .ok (.aload_n 0, 1) := by decide +kernel
theorem dX2_init_1 : decode cX2_init 1 = .ok (.invokespecial 3, 3) := by decide +kernel
theorem dX2_init_4 : decode cX2_init 4 = .ok (.aload_n 0, 1) := by decide +kernel
theorem dX2_init_5 : decode cX2_init 5 = .ok (.bipush 30, 2) := by decide +kernel
theorem dX2_init_7 : decode cX2_init 7 = .ok (.newarray .int, 2) := by decide +kernel
theorem dX2_init_9 : decode cX2_init 9 = .ok (.putfield 9, 3) := by decide +kernel
theorem dX2_init_12 : decode cX2_init 12 = .ok (.return_, 1) := by decide +kernel
theorem dX2_append_0 : decode cX2_append 0 = .ok (.aload_n 0, 1) := by decide +kernel
theorem dX2_append_1 : decode cX2_append 1 = .ok (.getfield 9, 3) := by decide +kernel
theorem dX2_append_4 : decode cX2_append 4 = .ok (.aload_n 0, 1) := by decide +kernel
theorem dX2_append_5 : decode cX2_append 5 = .ok (.getfield 15, 3) := by decide +kernel
theorem dX2_append_8 : decode cX2_append 8 = .ok (.iload_n 1, 1) := by decide +kernel
theorem dX2_append_9 : decode cX2_append 9 = .ok (.invokestatic 19, 3) := by decide +kernel
theorem dX2_append_12 : decode cX2_append 12 = .ok (.aload_n 0, 1) := by decide +kernel
theorem dX2_append_13 : decode cX2_append 13 = .ok (.dup, 1) := by decide +kernel
theorem dX2_append_14 : decode cX2_append 14 = .ok (.getfield 15, 3) := by decide +kernel
theorem dX2_append_17 : decode cX2_append 17 = .ok (.iconst 1, 1) := by decide +kernel
theorem dX2_append_18 : decode cX2_append 18 = .ok (.iadd, 1) := by decide +kernel
theorem dX2_append_19 : decode cX2_append 19 = .ok (.putfield 15, 3) := by decide +kernel
theorem dX2_append_22 : decode cX2_append 22 = .ok (.return_, 1) := by decide +kernel
theorem dX2_clear_0 : decode cX2_clear 0 = .ok (.aload_n 0, 1) := by decide +kernel
theorem dX2_clear_1 : decode cX2_clear 1 = .ok (.iconst 0, 1) := by decide +kernel
theorem dX2_clear_2 : decode cX2_clear 2 = .ok (.putfield 15, 3) := by decide +kernel
theorem dX2_clear_5 : decode cX2_clear 5 = .ok (.return_, 1) := by decide +kernel
theorem dX2_codeAt_0 : decode cX2_codeAt 0 = .ok (.aload_n 0, 1) := by decide +kernel
theorem dX2_codeAt_1 : decode cX2_codeAt 1 = .ok (.getfield 9, 3) := by decide +kernel
theorem dX2_codeAt_4 : decode cX2_codeAt 4 = .ok (.iload_n 1, 1) := by decide +kernel
theorem dX2_codeAt_5 : decode cX2_codeAt 5 = .ok (.invokestatic 23, 3) := by decide +kernel
theorem dX2_codeAt_8 : decode cX2_codeAt 8 = .ok (.ireturn, 1) := by decide +kernel
theorem dX2_digit_0 : decode cX2_digit 0 = .ok (.aload_n 0, 1) := by decide +kernel
theorem dX2_digit_1 : decode cX2_digit 1 = .ok (.iload_n 1, 1) := by decide +kernel
theorem dX2_digit_2 : decode cX2_digit 2 = .ok (.invokevirtual 27, 3) := by decide +kernel
theorem dX2_digit_5 : decode cX2_digit 5 = .ok (.bipush 48, 2) := by decide +kernel
theorem dX2_digit_7 : decode cX2_digit 7 = .ok (.isub, 1) := by decide +kernel
theorem dX2_digit_8 : decode cX2_digit 8 = .ok (.ireturn, 1) := by decide +kernel
theorem dX2_isHeightAt_0 : decode cX2_isHeightAt 0 = .ok (.aload_n 0, 1) := by decide +kernel
theorem dX2_isHeightAt_1 : decode cX2_isHeightAt 1 = .ok (.iload_n 1, 1) := by decide +kernel
theorem dX2_isHeightAt_2 : decode cX2_isHeightAt 2 = .ok (.invokevirtual 27, 3) := by decide +kernel
theorem dX2_isHeightAt_5 : decode cX2_isHeightAt 5 = .ok (.invokestatic 31, 3) := by decide +kernel
theorem dX2_isHeightAt_8 : decode cX2_isHeightAt 8 = .ok (.ireturn, 1) := by decide +kernel
theorem dX2_programFault_0 : decode cX2_programFault 0 = .ok (.iconst 0, 1) := by decide +kernel
theorem dX2_programFault_1 : decode cX2_programFault 1 = .ok (.istore_n 1, 1) := by decide +kernel
theorem dX2_programFault_2 : decode cX2_programFault 2 = .ok (.iconst 0, 1) := by decide +kernel
theorem dX2_programFault_3 : decode cX2_programFault 3 = .ok (.istore_n 2, 1) := by decide +kernel
theorem dX2_programFault_4 : decode cX2_programFault 4 = .ok (.iload_n 2, 1) := by decide +kernel
theorem dX2_programFault_5 : decode cX2_programFault 5 = .ok (.aload_n 0, 1) := by decide +kernel
theorem dX2_programFault_6 : decode cX2_programFault 6 = .ok (.getfield 15, 3) := by decide +kernel
theorem dX2_programFault_9 : decode cX2_programFault 9 = .ok (.if_icmp .ge 36, 3) := by decide +kernel
theorem dX2_programFault_12 : decode cX2_programFault 12 = .ok (.aload_n 0, 1) := by decide +kernel
theorem dX2_programFault_13 : decode cX2_programFault 13 = .ok (.iload_n 2, 1) := by decide +kernel
theorem dX2_programFault_14 : decode cX2_programFault 14 = .ok (.iload_n 1, 1) := by decide +kernel
theorem dX2_programFault_15 : decode cX2_programFault 15 = .ok (.invokevirtual 35, 3) := by decide +kernel
theorem dX2_programFault_18 : decode cX2_programFault 18 = .ok (.ifCond .ne 5, 3) := by decide +kernel
theorem dX2_programFault_21 : decode cX2_programFault 21 = .ok (.iload_n 2, 1) := by decide +kernel
theorem dX2_programFault_22 : decode cX2_programFault 22 = .ok (.ireturn, 1) := by decide +kernel
theorem dX2_programFault_23 : decode cX2_programFault 23 = .ok (.iload_n 2, 1) := by decide +kernel
theorem dX2_programFault_24 : decode cX2_programFault 24 = .ok (.iconst 2, 1) := by decide +kernel
theorem dX2_programFault_25 : decode cX2_programFault 25 = .ok (.if_icmp .lt 14, 3) := by decide +kernel
theorem dX2_programFault_28 : decode cX2_programFault 28 = .ok (.aload_n 0, 1) := by decide +kernel
theorem dX2_programFault_29 : decode cX2_programFault 29 = .ok (.iload_n 2, 1) := by decide +kernel
theorem dX2_programFault_30 : decode cX2_programFault 30 = .ok (.invokevirtual 39, 3) := by decide +kernel
theorem dX2_programFault_33 : decode cX2_programFault 33 = .ok (.ifCond .eq 6, 3) := by decide +kernel
theorem dX2_programFault_36 : decode cX2_programFault 36 = .ok (.iinc 1 1, 3) := by decide +kernel
theorem dX2_programFault_39 : decode cX2_programFault 39 = .ok (.iinc 2 1, 3) := by decide +kernel
theorem dX2_programFault_42 : decode cX2_programFault 42 = .ok (.goto (-38), 3) := by decide +kernel
theorem dX2_programFault_45 : decode cX2_programFault 45 = .ok (.iload_n 1, 1) := by decide +kernel
theorem dX2_programFault_46 : decode cX2_programFault 46 = .ok (.ifCond .ne 10, 3) := by decide +kernel
theorem dX2_programFault_49 : decode cX2_programFault 49 = .ok (.aload_n 0, 1) := by decide +kernel
theorem dX2_programFault_50 : decode cX2_programFault 50 = .ok (.getfield 15, 3) := by decide +kernel
theorem dX2_programFault_53 : decode cX2_programFault 53 = .ok (.goto 5, 3) := by decide +kernel
theorem dX2_programFault_56 : decode cX2_programFault 56 = .ok (.bipush (-6), 2) := by decide +kernel
theorem dX2_programFault_58 : decode cX2_programFault 58 = .ok (.ireturn, 1) := by decide +kernel
theorem dX2_canStand_0 : decode cX2_canStand 0 = .ok (.aload_n 0, 1) := by decide +kernel
theorem dX2_canStand_1 : decode cX2_canStand 1 = .ok (.iload_n 1, 1) := by decide +kernel
theorem dX2_canStand_2 : decode cX2_canStand 2 = .ok (.invokevirtual 27, 3) := by decide +kernel
theorem dX2_canStand_5 : decode cX2_canStand 5 = .ok (.istore_n 3, 1) := by decide +kernel
theorem dX2_canStand_6 : decode cX2_canStand 6 = .ok (.iload_n 1, 1) := by decide +kernel
theorem dX2_canStand_7 : decode cX2_canStand 7 = .ok (.ifCond .ne 21, 3) := by decide +kernel
theorem dX2_canStand_10 : decode cX2_canStand 10 = .ok (.iload_n 3, 1) := by decide +kernel
theorem dX2_canStand_11 : decode cX2_canStand 11 = .ok (.bipush 48, 2) := by decide +kernel
theorem dX2_canStand_13 : decode cX2_canStand 13 = .ok (.if_icmp .eq 9, 3) := by decide +kernel
theorem dX2_canStand_16 : decode cX2_canStand 16 = .ok (.iload_n 3, 1) := by decide +kernel
theorem dX2_canStand_17 : decode cX2_canStand 17 = .ok (.bipush 49, 2) := by decide +kernel
theorem dX2_canStand_19 : decode cX2_canStand 19 = .ok (.if_icmp .ne 7, 3) := by decide +kernel
theorem dX2_canStand_22 : decode cX2_canStand 22 = .ok (.iconst 1, 1) := by decide +kernel
theorem dX2_canStand_23 : decode cX2_canStand 23 = .ok (.goto 4, 3) := by decide +kernel
theorem dX2_canStand_26 : decode cX2_canStand 26 = .ok (.iconst 0, 1) := by decide +kernel
theorem dX2_canStand_27 : decode cX2_canStand 27 = .ok (.ireturn, 1) := by decide +kernel
theorem dX2_canStand_28 : decode cX2_canStand 28 = .ok (.iload_n 1, 1) := by decide +kernel
theorem dX2_canStand_29 : decode cX2_canStand 29 = .ok (.iconst 1, 1) := by decide +kernel
theorem dX2_canStand_30 : decode cX2_canStand 30 = .ok (.if_icmp .ne 15, 3) := by decide +kernel
theorem dX2_canStand_33 : decode cX2_canStand 33 = .ok (.iload_n 3, 1) := by decide +kernel
theorem dX2_canStand_34 : decode cX2_canStand 34 = .ok (.bipush 58, 2) := by decide +kernel
theorem dX2_canStand_36 : decode cX2_canStand 36 = .ok (.if_icmp .ne 7, 3) := by decide +kernel
theorem dX2_canStand_39 : decode cX2_canStand 39 = .ok (.iconst 1, 1) := by decide +kernel
theorem dX2_canStand_40 : decode cX2_canStand 40 = .ok (.goto 4, 3) := by decide +kernel
theorem dX2_canStand_43 : decode cX2_canStand 43 = .ok (.iconst 0, 1) := by decide +kernel
theorem dX2_canStand_44 : decode cX2_canStand 44 = .ok (.ireturn, 1) := by decide +kernel
theorem dX2_canStand_45 : decode cX2_canStand 45 = .ok (.iload_n 3, 1) := by decide +kernel
theorem dX2_canStand_46 : decode cX2_canStand 46 = .ok (.bipush 112, 2) := by decide +kernel
theorem dX2_canStand_48 : decode cX2_canStand 48 = .ok (.if_icmp .ne 29, 3) := by decide +kernel
theorem dX2_canStand_51 : decode cX2_canStand 51 = .ok (.aload_n 0, 1) := by decide +kernel
theorem dX2_canStand_52 : decode cX2_canStand 52 = .ok (.iload_n 1, 1) := by decide +kernel
theorem dX2_canStand_53 : decode cX2_canStand 53 = .ok (.iconst 1, 1) := by decide +kernel
theorem dX2_canStand_54 : decode cX2_canStand 54 = .ok (.isub, 1) := by decide +kernel
theorem dX2_canStand_55 : decode cX2_canStand 55 = .ok (.invokevirtual 39, 3) := by decide +kernel
theorem dX2_canStand_58 : decode cX2_canStand 58 = .ok (.ifCond .eq 17, 3) := by decide +kernel
theorem dX2_canStand_61 : decode cX2_canStand 61 = .ok (.aload_n 0, 1) := by decide +kernel
theorem dX2_canStand_62 : decode cX2_canStand 62 = .ok (.iload_n 1, 1) := by decide +kernel
theorem dX2_canStand_63 : decode cX2_canStand 63 = .ok (.iconst 1, 1) := by decide +kernel
theorem dX2_canStand_64 : decode cX2_canStand 64 = .ok (.isub, 1) := by decide +kernel
theorem dX2_canStand_65 : decode cX2_canStand 65 = .ok (.invokevirtual 42, 3) := by decide +kernel
theorem dX2_canStand_68 : decode cX2_canStand 68 = .ok (.ifCond .eq 7, 3) := by decide +kernel
theorem dX2_canStand_71 : decode cX2_canStand 71 = .ok (.iconst 1, 1) := by decide +kernel
theorem dX2_canStand_72 : decode cX2_canStand 72 = .ok (.goto 4, 3) := by decide +kernel
theorem dX2_canStand_75 : decode cX2_canStand 75 = .ok (.iconst 0, 1) := by decide +kernel
theorem dX2_canStand_76 : decode cX2_canStand 76 = .ok (.ireturn, 1) := by decide +kernel
theorem dX2_canStand_77 : decode cX2_canStand 77 = .ok (.iload_n 3, 1) := by decide +kernel
theorem dX2_canStand_78 : decode cX2_canStand 78 = .ok (.invokestatic 31, 3) := by decide +kernel
theorem dX2_canStand_81 : decode cX2_canStand 81 = .ok (.ifCond .eq 13, 3) := by decide +kernel
theorem dX2_canStand_84 : decode cX2_canStand 84 = .ok (.iload_n 2, 1) := by decide +kernel
theorem dX2_canStand_85 : decode cX2_canStand 85 = .ok (.bipush 8, 2) := by decide +kernel
theorem dX2_canStand_87 : decode cX2_canStand 87 = .ok (.if_icmp .ge 7, 3) := by decide +kernel
theorem dX2_canStand_90 : decode cX2_canStand 90 = .ok (.iconst 1, 1) := by decide +kernel
theorem dX2_canStand_91 : decode cX2_canStand 91 = .ok (.goto 4, 3) := by decide +kernel
theorem dX2_canStand_94 : decode cX2_canStand 94 = .ok (.iconst 0, 1) := by decide +kernel
theorem dX2_canStand_95 : decode cX2_canStand 95 = .ok (.ireturn, 1) := by decide +kernel
theorem dX3_init_0 : decode cX3_init 0 = .ok (.aload_n 0, 1) := by decide +kernel
theorem dX3_init_1 : decode cX3_init 1 = .ok (.invokespecial 3, 3) := by decide +kernel
theorem dX3_init_4 : decode cX3_init 4 = .ok (.aload_n 0, 1) := by decide +kernel
theorem dX3_init_5 : decode cX3_init 5 = .ok (.bipush 8, 2) := by decide +kernel
theorem dX3_init_7 : decode cX3_init 7 = .ok (.newarray .int, 2) := by decide +kernel
theorem dX3_init_9 : decode cX3_init 9 = .ok (.putfield 9, 3) := by decide +kernel
theorem dX3_init_12 : decode cX3_init 12 = .ok (.return_, 1) := by decide +kernel
theorem dX3_learn_0 : decode cX3_learn 0 = .ok (.aload_n 1, 1) := by decide +kernel
theorem dX3_learn_1 : decode cX3_learn 1 = .ok (.getfield 15, 3) := by decide +kernel
theorem dX3_learn_4 : decode cX3_learn 4 = .ok (.iconst 1, 1) := by decide +kernel
theorem dX3_learn_5 : decode cX3_learn 5 = .ok (.bipush 8, 2) := by decide +kernel
theorem dX3_learn_7 : decode cX3_learn 7 = .ok (.invokestatic 21, 3) := by decide +kernel
theorem dX3_learn_10 : decode cX3_learn 10 = .ok (.ifCond .ne 5, 3) := by decide +kernel
theorem dX3_learn_13 : decode cX3_learn 13 = .ok (.iconst 0, 1) := by decide +kernel
theorem dX3_learn_14 : decode cX3_learn 14 = .ok (.ireturn, 1) := by decide +kernel
theorem dX3_learn_15 : decode cX3_learn 15 = .ok (.iconst 0, 1) := by decide +kernel
theorem dX3_learn_16 : decode cX3_learn 16 = .ok (.istore_n 2, 1) := by decide +kernel
theorem dX3_learn_17 : decode cX3_learn 17 = .ok (.iload_n 2, 1) := by decide +kernel
theorem dX3_learn_18 : decode cX3_learn 18 = .ok (.aload_n 1, 1) := by decide +kernel
theorem dX3_learn_19 : decode cX3_learn 19 = .ok (.getfield 15, 3) := by decide +kernel
theorem dX3_learn_22 : decode cX3_learn 22 = .ok (.if_icmp .ge 32, 3) := by decide +kernel
theorem dX3_learn_25 : decode cX3_learn 25 = .ok (.aload_n 1, 1) := by decide +kernel
theorem dX3_learn_26 : decode cX3_learn 26 = .ok (.iload_n 2, 1) := by decide +kernel
theorem dX3_learn_27 : decode cX3_learn 27 = .ok (.invokevirtual 25, 3) := by decide +kernel
theorem dX3_learn_30 : decode cX3_learn 30 = .ok (.ifCond .ne 5, 3) := by decide +kernel
theorem dX3_learn_33 : decode cX3_learn 33 = .ok (.iconst 0, 1) := by decide +kernel
theorem dX3_learn_34 : decode cX3_learn 34 = .ok (.ireturn, 1) := by decide +kernel
theorem dX3_learn_35 : decode cX3_learn 35 = .ok (.aload_n 0, 1) := by decide +kernel
theorem dX3_learn_36 : decode cX3_learn 36 = .ok (.getfield 9, 3) := by decide +kernel
theorem dX3_learn_39 : decode cX3_learn 39 = .ok (.iload_n 2, 1) := by decide +kernel
theorem dX3_learn_40 : decode cX3_learn 40 = .ok (.aload_n 1, 1) := by decide +kernel
theorem dX3_learn_41 : decode cX3_learn 41 = .ok (.iload_n 2, 1) := by decide +kernel
theorem dX3_learn_42 : decode cX3_learn 42 = .ok (.invokevirtual 29, 3) := by decide +kernel
theorem dX3_learn_45 : decode cX3_learn 45 = .ok (.invokestatic 33, 3) := by decide +kernel
theorem dX3_learn_48 : decode cX3_learn 48 = .ok (.iinc 2 1, 3) := by decide +kernel
theorem dX3_learn_51 : decode cX3_learn 51 = .ok (.goto (-34), 3) := by decide +kernel
theorem dX3_learn_54 : decode cX3_learn 54 = .ok (.aload_n 0, 1) := by decide +kernel
theorem dX3_learn_55 : decode cX3_learn 55 = .ok (.aload_n 1, 1) := by decide +kernel
theorem dX3_learn_56 : decode cX3_learn 56 = .ok (.getfield 15, 3) := by decide +kernel
theorem dX3_learn_59 : decode cX3_learn 59 = .ok (.putfield 37, 3) := by decide +kernel
theorem dX3_learn_62 : decode cX3_learn 62 = .ok (.iconst 1, 1) := by decide +kernel
theorem dX3_learn_63 : decode cX3_learn 63 = .ok (.ireturn, 1) := by decide +kernel
theorem dX3_heightAt_0 : decode cX3_heightAt 0 = .ok (.aload_n 0, 1) := by decide +kernel
theorem dX3_heightAt_1 : decode cX3_heightAt 1 = .ok (.getfield 9, 3) := by decide +kernel
theorem dX3_heightAt_4 : decode cX3_heightAt 4 = .ok (.iload_n 1, 1) := by decide +kernel
theorem dX3_heightAt_5 : decode cX3_heightAt 5 = .ok (.aload_n 0, 1) := by decide +kernel
theorem dX3_heightAt_6 : decode cX3_heightAt 6 = .ok (.getfield 37, 3) := by decide +kernel
theorem dX3_heightAt_9 : decode cX3_heightAt 9 = .ok (.invokestatic 38, 3) := by decide +kernel
theorem dX3_heightAt_12 : decode cX3_heightAt 12 = .ok (.invokestatic 42, 3) := by decide +kernel
theorem dX3_heightAt_15 : decode cX3_heightAt 15 = .ok (.ireturn, 1) := by decide +kernel
theorem dX3_landing_0 : decode cX3_landing 0 = .ok (.iload_n 1, 1) := by decide +kernel
theorem dX3_landing_1 : decode cX3_landing 1 = .ok (.aload_n 0, 1) := by decide +kernel
theorem dX3_landing_2 : decode cX3_landing 2 = .ok (.iload_n 1, 1) := by decide +kernel
theorem dX3_landing_3 : decode cX3_landing 3 = .ok (.invokevirtual 46, 3) := by decide +kernel
theorem dX3_landing_6 : decode cX3_landing 6 = .ok (.iadd, 1) := by decide +kernel
theorem dX3_landing_7 : decode cX3_landing 7 = .ok (.aload_n 0, 1) := by decide +kernel
theorem dX3_landing_8 : decode cX3_landing 8 = .ok (.getfield 37, 3) := by decide +kernel
theorem dX3_landing_11 : decode cX3_landing 11 = .ok (.invokestatic 38, 3) := by decide +kernel
theorem dX3_landing_14 : decode cX3_landing 14 = .ok (.ireturn, 1) := by decide +kernel
theorem dX3_isSound_0 : decode cX3_isSound 0 = .ok (.iconst 0, 1) := by decide +kernel
theorem dX3_isSound_1 : decode cX3_isSound 1 = .ok (.istore_n 1, 1) := by decide +kernel
theorem dX3_isSound_2 : decode cX3_isSound 2 = .ok (.iconst 0, 1) := by decide +kernel
theorem dX3_isSound_3 : decode cX3_isSound 3 = .ok (.istore_n 2, 1) := by decide +kernel
theorem dX3_isSound_4 : decode cX3_isSound 4 = .ok (.iload_n 2, 1) := by decide +kernel
theorem dX3_isSound_5 : decode cX3_isSound 5 = .ok (.aload_n 0, 1) := by decide +kernel
theorem dX3_isSound_6 : decode cX3_isSound 6 = .ok (.getfield 37, 3) := by decide +kernel
theorem dX3_isSound_9 : decode cX3_isSound 9 = .ok (.if_icmp .ge 19, 3) := by decide +kernel
theorem dX3_isSound_12 : decode cX3_isSound 12 = .ok (.iload_n 1, 1) := by decide +kernel
theorem dX3_isSound_13 : decode cX3_isSound 13 = .ok (.iconst 1, 1) := by decide +kernel
theorem dX3_isSound_14 : decode cX3_isSound 14 = .ok (.aload_n 0, 1) := by decide +kernel
theorem dX3_isSound_15 : decode cX3_isSound 15 = .ok (.iload_n 2, 1) := by decide +kernel
theorem dX3_isSound_16 : decode cX3_isSound 16 = .ok (.invokevirtual 49, 3) := by decide +kernel
theorem dX3_isSound_19 : decode cX3_isSound 19 = .ok (.ishl, 1) := by decide +kernel
theorem dX3_isSound_20 : decode cX3_isSound 20 = .ok (.ior, 1) := by decide +kernel
theorem dX3_isSound_21 : decode cX3_isSound 21 = .ok (.istore_n 1, 1) := by decide +kernel
theorem dX3_isSound_22 : decode cX3_isSound 22 = .ok (.iinc 2 1, 3) := by decide +kernel
theorem dX3_isSound_25 : decode cX3_isSound 25 = .ok (.goto (-21), 3) := by decide +kernel
theorem dX3_isSound_28 : decode cX3_isSound 28 = .ok (.iload_n 1, 1) := by decide +kernel
theorem dX3_isSound_29 : decode cX3_isSound 29 = .ok (.iconst 1, 1) := by decide +kernel
theorem dX3_isSound_30 : decode cX3_isSound 30 = .ok (.aload_n 0, 1) := by decide +kernel
theorem dX3_isSound_31 : decode cX3_isSound 31 = .ok (.getfield 37, 3) := by decide +kernel
theorem dX3_isSound_34 : decode cX3_isSound 34 = .ok (.ishl, 1) := by decide +kernel
theorem dX3_isSound_35 : decode cX3_isSound 35 = .ok (.iconst 1, 1) := by decide +kernel
theorem dX3_isSound_36 : decode cX3_isSound 36 = .ok (.isub, 1) := by decide +kernel
theorem dX3_isSound_37 : decode cX3_isSound 37 = .ok (.if_icmp .ne 7, 3) := by decide +kernel
theorem dX3_isSound_40 : decode cX3_isSound 40 = .ok (.iconst 1, 1) := by decide +kernel
theorem dX3_isSound_41 : decode cX3_isSound 41 = .ok (.goto 4, 3) := by decide +kernel
theorem dX3_isSound_44 : decode cX3_isSound 44 = .ok (.iconst 0, 1) := by decide +kernel
theorem dX3_isSound_45 : decode cX3_isSound 45 = .ok (.ireturn, 1) := by decide +kernel
theorem dX3_clubs_0 : decode cX3_clubs 0 = .ok (.iconst 0, 1) := by decide +kernel
theorem dX3_clubs_1 : decode cX3_clubs 1 = .ok (.istore_n 1, 1) := by decide +kernel
theorem dX3_clubs_2 : decode cX3_clubs 2 = .ok (.iconst 0, 1) := by decide +kernel
theorem dX3_clubs_3 : decode cX3_clubs 3 = .ok (.istore_n 2, 1) := by decide +kernel
theorem dX3_clubs_4 : decode cX3_clubs 4 = .ok (.iload_n 2, 1) := by decide +kernel
theorem dX3_clubs_5 : decode cX3_clubs 5 = .ok (.aload_n 0, 1) := by decide +kernel
theorem dX3_clubs_6 : decode cX3_clubs 6 = .ok (.getfield 37, 3) := by decide +kernel
theorem dX3_clubs_9 : decode cX3_clubs 9 = .ok (.if_icmp .ge 17, 3) := by decide +kernel
theorem dX3_clubs_12 : decode cX3_clubs 12 = .ok (.iload_n 1, 1) := by decide +kernel
theorem dX3_clubs_13 : decode cX3_clubs 13 = .ok (.aload_n 0, 1) := by decide +kernel
theorem dX3_clubs_14 : decode cX3_clubs 14 = .ok (.iload_n 2, 1) := by decide +kernel
theorem dX3_clubs_15 : decode cX3_clubs 15 = .ok (.invokevirtual 46, 3) := by decide +kernel
theorem dX3_clubs_18 : decode cX3_clubs 18 = .ok (.iadd, 1) := by decide +kernel
theorem dX3_clubs_19 : decode cX3_clubs 19 = .ok (.istore_n 1, 1) := by decide +kernel
theorem dX3_clubs_20 : decode cX3_clubs 20 = .ok (.iinc 2 1, 3) := by decide +kernel
theorem dX3_clubs_23 : decode cX3_clubs 23 = .ok (.goto (-19), 3) := by decide +kernel
theorem dX3_clubs_26 : decode cX3_clubs 26 = .ok (.aload_n 0, 1) := by decide +kernel
theorem dX3_clubs_27 : decode cX3_clubs 27 = .ok (.getfield 37, 3) := by decide +kernel
theorem dX3_clubs_30 : decode cX3_clubs 30 = .ok (.ifCond .le 12, 3) := by decide +kernel
theorem dX3_clubs_33 : decode cX3_clubs 33 = .ok (.iload_n 1, 1) := by decide +kernel
theorem dX3_clubs_34 : decode cX3_clubs 34 = .ok (.aload_n 0, 1) := by decide +kernel
theorem dX3_clubs_35 : decode cX3_clubs 35 = .ok (.getfield 37, 3) := by decide +kernel
theorem dX3_clubs_38 : decode cX3_clubs 38 = .ok (.idiv, 1) := by decide +kernel
theorem dX3_clubs_39 : decode cX3_clubs 39 = .ok (.goto 4, 3) := by decide +kernel
theorem dX3_clubs_42 : decode cX3_clubs 42 = .ok (.iconst 0, 1) := by decide +kernel
theorem dX3_clubs_43 : decode cX3_clubs 43 = .ok (.ireturn, 1) := by decide +kernel
theorem dX3_startState_0 : decode cX3_startState 0 = .ok (.iconst 0, 1) := by decide +kernel
theorem dX3_startState_1 : decode cX3_startState 1 = .ok (.istore_n 1, 1) := by decide +kernel
theorem dX3_startState_2 : decode cX3_startState 2 = .ok (.bipush (-7), 2) := by decide +kernel
theorem dX3_startState_4 : decode cX3_startState 4 = .ok (.istore_n 2, 1) := by decide +kernel
theorem dX3_startState_5 : decode cX3_startState 5 = .ok (.iload_n 2, 1) := by decide +kernel
theorem dX3_startState_6 : decode cX3_startState 6 = .ok (.ifCond .ge 27, 3) := by decide +kernel
theorem dX3_startState_9 : decode cX3_startState 9 = .ok (.iload_n 2, 1) := by decide +kernel
theorem dX3_startState_10 : decode cX3_startState 10 = .ok (.aload_n 0, 1) := by decide +kernel
theorem dX3_startState_11 : decode cX3_startState 11 = .ok (.iload_n 2, 1) := by decide +kernel
theorem dX3_startState_12 : decode cX3_startState 12 = .ok (.invokevirtual 46, 3) := by decide +kernel
theorem dX3_startState_15 : decode cX3_startState 15 = .ok (.iadd, 1) := by decide +kernel
theorem dX3_startState_16 : decode cX3_startState 16 = .ok (.istore_n 3, 1) := by decide +kernel
theorem dX3_startState_17 : decode cX3_startState 17 = .ok (.iload_n 3, 1) := by decide +kernel
theorem dX3_startState_18 : decode cX3_startState 18 = .ok (.ifCond .lt 9, 3) := by decide +kernel
theorem dX3_startState_21 : decode cX3_startState 21 = .ok (.iload_n 1, 1) := by decide +kernel
theorem dX3_startState_22 : decode cX3_startState 22 = .ok (.iconst 1, 1) := by decide +kernel
theorem dX3_startState_23 : decode cX3_startState 23 = .ok (.iload_n 3, 1) := by decide +kernel
theorem dX3_startState_24 : decode cX3_startState 24 = .ok (.ishl, 1) := by decide +kernel
theorem dX3_startState_25 : decode cX3_startState 25 = .ok (.ior, 1) := by decide +kernel
theorem dX3_startState_26 : decode cX3_startState 26 = .ok (.istore_n 1, 1) := by decide +kernel
theorem dX3_startState_27 : decode cX3_startState 27 = .ok (.iinc 2 1, 3) := by decide +kernel
theorem dX3_startState_30 : decode cX3_startState 30 = .ok (.goto (-25), 3) := by decide +kernel
theorem dX3_startState_33 : decode cX3_startState 33 = .ok (.iload_n 1, 1) := by decide +kernel
theorem dX3_startState_34 : decode cX3_startState 34 = .ok (.ireturn, 1) := by decide +kernel
theorem dX3_orbits_0 : decode cX3_orbits 0 = .ok (.iconst 0, 1) := by decide +kernel
theorem dX3_orbits_1 : decode cX3_orbits 1 = .ok (.istore_n 1, 1) := by decide +kernel
theorem dX3_orbits_2 : decode cX3_orbits 2 = .ok (.iconst 0, 1) := by decide +kernel
theorem dX3_orbits_3 : decode cX3_orbits 3 = .ok (.istore_n 2, 1) := by decide +kernel
theorem dX3_orbits_4 : decode cX3_orbits 4 = .ok (.iconst 0, 1) := by decide +kernel
theorem dX3_orbits_5 : decode cX3_orbits 5 = .ok (.istore_n 3, 1) := by decide +kernel
theorem dX3_orbits_6 : decode cX3_orbits 6 = .ok (.iload_n 3, 1) := by decide +kernel
theorem dX3_orbits_7 : decode cX3_orbits 7 = .ok (.aload_n 0, 1) := by decide +kernel
theorem dX3_orbits_8 : decode cX3_orbits 8 = .ok (.getfield 37, 3) := by decide +kernel
theorem dX3_orbits_11 : decode cX3_orbits 11 = .ok (.if_icmp .ge 37, 3) := by decide +kernel
theorem dX3_orbits_14 : decode cX3_orbits 14 = .ok (.aload_n 0, 1) := by decide +kernel
theorem dX3_orbits_15 : decode cX3_orbits 15 = .ok (.iload_n 3, 1) := by decide +kernel
theorem dX3_orbits_16 : decode cX3_orbits 16 = .ok (.invokevirtual 52, 3) := by decide +kernel
theorem dX3_orbits_19 : decode cX3_orbits 19 = .ok (.istore 4, 2) := by decide +kernel
theorem dX3_orbits_21 : decode cX3_orbits 21 = .ok (.iload 4, 2) := by decide +kernel
theorem dX3_orbits_23 : decode cX3_orbits 23 = .ok (.ifCond .eq 14, 3) := by decide +kernel
theorem dX3_orbits_26 : decode cX3_orbits 26 = .ok (.iload_n 2, 1) := by decide +kernel
theorem dX3_orbits_27 : decode cX3_orbits 27 = .ok (.iload_n 3, 1) := by decide +kernel
theorem dX3_orbits_28 : decode cX3_orbits 28 = .ok (.invokestatic 55, 3) := by decide +kernel
theorem dX3_orbits_31 : decode cX3_orbits 31 = .ok (.ifCond .ne 6, 3) := by decide +kernel
theorem dX3_orbits_34 : decode cX3_orbits 34 = .ok (.iinc 1 1, 3) := by decide +kernel
theorem dX3_orbits_37 : decode cX3_orbits 37 = .ok (.iload_n 2, 1) := by decide +kernel
theorem dX3_orbits_38 : decode cX3_orbits 38 = .ok (.iload 4, 2) := by decide +kernel
theorem dX3_orbits_40 : decode cX3_orbits 40 = .ok (.ior, 1) := by decide +kernel
theorem dX3_orbits_41 : decode cX3_orbits 41 = .ok (.istore_n 2, 1) := by decide +kernel
theorem dX3_orbits_42 : decode cX3_orbits 42 = .ok (.iinc 3 1, 3) := by decide +kernel
theorem dX3_orbits_45 : decode cX3_orbits 45 = .ok (.goto (-39), 3) := by decide +kernel
theorem dX3_orbits_48 : decode cX3_orbits 48 = .ok (.iload_n 1, 1) := by decide +kernel
theorem dX3_orbits_49 : decode cX3_orbits 49 = .ok (.ireturn, 1) := by decide +kernel
theorem dX3_orbitThrough_0 : decode cX3_orbitThrough 0 = .ok (.aload_n 0, 1) := by decide +kernel
theorem dX3_orbitThrough_1 : decode cX3_orbitThrough 1 = .ok (.iload_n 1, 1) := by decide +kernel
theorem dX3_orbitThrough_2 : decode cX3_orbitThrough 2 = .ok (.invokevirtual 46, 3) := by decide +kernel
theorem dX3_orbitThrough_5 : decode cX3_orbitThrough 5 = .ok (.ifCond .ne 5, 3) := by decide +kernel
theorem dX3_orbitThrough_8 : decode cX3_orbitThrough 8 = .ok (.iconst 0, 1) := by decide +kernel
theorem dX3_orbitThrough_9 : decode cX3_orbitThrough 9 = .ok (.ireturn, 1) := by decide +kernel
theorem dX3_orbitThrough_10 : decode cX3_orbitThrough 10 = .ok (.iconst 0, 1) := by decide +kernel
theorem dX3_orbitThrough_11 : decode cX3_orbitThrough 11 = .ok (.istore_n 2, 1) := by decide +kernel
theorem dX3_orbitThrough_12 : decode cX3_orbitThrough 12 = .ok (.iload_n 1, 1) := by decide +kernel
theorem dX3_orbitThrough_13 : decode cX3_orbitThrough 13 = .ok (.istore_n 3, 1) := by decide +kernel
theorem dX3_orbitThrough_14 : decode cX3_orbitThrough 14 = .ok (.iconst 0, 1) := by decide +kernel
theorem dX3_orbitThrough_15 : decode cX3_orbitThrough 15 = .ok (.istore 4, 2) := by decide +kernel
theorem dX3_orbitThrough_17 : decode cX3_orbitThrough 17 = .ok (.iload 4, 2) := by decide +kernel
theorem dX3_orbitThrough_19 : decode cX3_orbitThrough 19 = .ok (.aload_n 0, 1) := by decide +kernel
theorem dX3_orbitThrough_20 : decode cX3_orbitThrough 20 = .ok (.getfield 37, 3) := by decide +kernel
theorem dX3_orbitThrough_23 : decode cX3_orbitThrough 23 = .ok (.if_icmp .ge 21, 3) := by decide +kernel
theorem dX3_orbitThrough_26 : decode cX3_orbitThrough 26 = .ok (.iload_n 2, 1) := by decide +kernel
theorem dX3_orbitThrough_27 : decode cX3_orbitThrough 27 = .ok (.iconst 1, 1) := by decide +kernel
theorem dX3_orbitThrough_28 : decode cX3_orbitThrough 28 = .ok (.iload_n 3, 1) := by decide +kernel
theorem dX3_orbitThrough_29 : decode cX3_orbitThrough 29 = .ok (.ishl, 1) := by decide +kernel
theorem dX3_orbitThrough_30 : decode cX3_orbitThrough 30 = .ok (.ior, 1) := by decide +kernel
theorem dX3_orbitThrough_31 : decode cX3_orbitThrough 31 = .ok (.istore_n 2, 1) := by decide +kernel
theorem dX3_orbitThrough_32 : decode cX3_orbitThrough 32 = .ok (.aload_n 0, 1) := by decide +kernel
theorem dX3_orbitThrough_33 : decode cX3_orbitThrough 33 = .ok (.iload_n 3, 1) := by decide +kernel
theorem dX3_orbitThrough_34 : decode cX3_orbitThrough 34 = .ok (.invokevirtual 49, 3) := by decide +kernel
theorem dX3_orbitThrough_37 : decode cX3_orbitThrough 37 = .ok (.istore_n 3, 1) := by decide +kernel
theorem dX3_orbitThrough_38 : decode cX3_orbitThrough 38 = .ok (.iinc 4 1, 3) := by decide +kernel
theorem dX3_orbitThrough_41 : decode cX3_orbitThrough 41 = .ok (.goto (-24), 3) := by decide +kernel
theorem dX3_orbitThrough_44 : decode cX3_orbitThrough 44 = .ok (.iload_n 2, 1) := by decide +kernel
theorem dX3_orbitThrough_45 : decode cX3_orbitThrough 45 = .ok (.ireturn, 1) := by decide +kernel
theorem dX3_period_0 : decode cX3_period 0 = .ok (.iconst 1, 1) := by decide +kernel
theorem dX3_period_1 : decode cX3_period 1 = .ok (.istore_n 1, 1) := by decide +kernel
theorem dX3_period_2 : decode cX3_period 2 = .ok (.iload_n 1, 1) := by decide +kernel
theorem dX3_period_3 : decode cX3_period 3 = .ok (.aload_n 0, 1) := by decide +kernel
theorem dX3_period_4 : decode cX3_period 4 = .ok (.getfield 37, 3) := by decide +kernel
theorem dX3_period_7 : decode cX3_period 7 = .ok (.if_icmp .ge 19, 3) := by decide +kernel
theorem dX3_period_10 : decode cX3_period 10 = .ok (.aload_n 0, 1) := by decide +kernel
theorem dX3_period_11 : decode cX3_period 11 = .ok (.iload_n 1, 1) := by decide +kernel
theorem dX3_period_12 : decode cX3_period 12 = .ok (.invokevirtual 59, 3) := by decide +kernel
theorem dX3_period_15 : decode cX3_period 15 = .ok (.ifCond .eq 5, 3) := by decide +kernel
theorem dX3_period_18 : decode cX3_period 18 = .ok (.iload_n 1, 1) := by decide +kernel
theorem dX3_period_19 : decode cX3_period 19 = .ok (.ireturn, 1) := by decide +kernel
theorem dX3_period_20 : decode cX3_period 20 = .ok (.iinc 1 1, 3) := by decide +kernel
theorem dX3_period_23 : decode cX3_period 23 = .ok (.goto (-21), 3) := by decide +kernel
theorem dX3_period_26 : decode cX3_period 26 = .ok (.aload_n 0, 1) := by decide +kernel
theorem dX3_period_27 : decode cX3_period 27 = .ok (.getfield 37, 3) := by decide +kernel
theorem dX3_period_30 : decode cX3_period 30 = .ok (.ireturn, 1) := by decide +kernel
theorem dX3_comesAgainBehind_0 : decode cX3_comesAgainBehind 0 = .ok (.iconst 0, 1) := by decide +kernel
theorem dX3_comesAgainBehind_1 : decode cX3_comesAgainBehind 1 = .ok (.istore_n 2, 1) := by decide +kernel
theorem dX3_comesAgainBehind_2 : decode cX3_comesAgainBehind 2 = .ok (.iload_n 2, 1) := by decide +kernel
theorem dX3_comesAgainBehind_3 : decode cX3_comesAgainBehind 3 = .ok (.aload_n 0, 1) := by decide +kernel
theorem dX3_comesAgainBehind_4 : decode cX3_comesAgainBehind 4 = .ok (.getfield 37, 3) := by decide +kernel
theorem dX3_comesAgainBehind_7 : decode cX3_comesAgainBehind 7 = .ok (.if_icmp .ge 26, 3) := by decide +kernel
theorem dX3_comesAgainBehind_10 : decode cX3_comesAgainBehind 10 = .ok (.aload_n 0, 1) := by decide +kernel
theorem dX3_comesAgainBehind_11 : decode cX3_comesAgainBehind 11 = .ok (.iload_n 2, 1) := by decide +kernel
theorem dX3_comesAgainBehind_12 : decode cX3_comesAgainBehind 12 = .ok (.invokevirtual 46, 3) := by decide +kernel
theorem dX3_comesAgainBehind_15 : decode cX3_comesAgainBehind 15 = .ok (.aload_n 0, 1) := by decide +kernel
theorem dX3_comesAgainBehind_16 : decode cX3_comesAgainBehind 16 = .ok (.iload_n 2, 1) := by decide +kernel
theorem dX3_comesAgainBehind_17 : decode cX3_comesAgainBehind 17 = .ok (.iload_n 1, 1) := by decide +kernel
theorem dX3_comesAgainBehind_18 : decode cX3_comesAgainBehind 18 = .ok (.iadd, 1) := by decide +kernel
theorem dX3_comesAgainBehind_19 : decode cX3_comesAgainBehind 19 = .ok (.invokevirtual 46, 3) := by decide +kernel
theorem dX3_comesAgainBehind_22 : decode cX3_comesAgainBehind 22 = .ok (.if_icmp .eq 5, 3) := by decide +kernel
theorem dX3_comesAgainBehind_25 : decode cX3_comesAgainBehind 25 = .ok (.iconst 0, 1) := by decide +kernel
theorem dX3_comesAgainBehind_26 : decode cX3_comesAgainBehind 26 = .ok (.ireturn, 1) := by decide +kernel
theorem dX3_comesAgainBehind_27 : decode cX3_comesAgainBehind 27 = .ok (.iinc 2 1, 3) := by decide +kernel
theorem dX3_comesAgainBehind_30 : decode cX3_comesAgainBehind 30 = .ok (.goto (-28), 3) := by decide +kernel
theorem dX3_comesAgainBehind_33 : decode cX3_comesAgainBehind 33 = .ok (.iconst 1, 1) := by decide +kernel
theorem dX3_comesAgainBehind_34 : decode cX3_comesAgainBehind 34 = .ok (.ireturn, 1) := by decide +kernel
theorem dX3_heightTurnedBack_0 : decode cX3_heightTurnedBack 0 = .ok (.iconst 0, 1) := by decide +kernel
theorem dX3_heightTurnedBack_1 : decode cX3_heightTurnedBack 1 = .ok (.istore_n 2, 1) := by decide +kernel
theorem dX3_heightTurnedBack_2 : decode cX3_heightTurnedBack 2 = .ok (.iload_n 2, 1) := by decide +kernel
theorem dX3_heightTurnedBack_3 : decode cX3_heightTurnedBack 3 = .ok (.aload_n 0, 1) := by decide +kernel
theorem dX3_heightTurnedBack_4 : decode cX3_heightTurnedBack 4 = .ok (.getfield 37, 3) := by decide +kernel
theorem dX3_heightTurnedBack_7 : decode cX3_heightTurnedBack 7 = .ok (.if_icmp .ge 31, 3) := by decide +kernel
theorem dX3_heightTurnedBack_10 : decode cX3_heightTurnedBack 10 = .ok (.aload_n 0, 1) := by decide +kernel
theorem dX3_heightTurnedBack_11 : decode cX3_heightTurnedBack 11 = .ok (.getfield 37, 3) := by decide +kernel
theorem dX3_heightTurnedBack_14 : decode cX3_heightTurnedBack 14 = .ok (.iconst 1, 1) := by decide +kernel
theorem dX3_heightTurnedBack_15 : decode cX3_heightTurnedBack 15 = .ok (.isub, 1) := by decide +kernel
theorem dX3_heightTurnedBack_16 : decode cX3_heightTurnedBack 16 = .ok (.aload_n 0, 1) := by decide +kernel
theorem dX3_heightTurnedBack_17 : decode cX3_heightTurnedBack 17 = .ok (.iload_n 2, 1) := by decide +kernel
theorem dX3_heightTurnedBack_18 : decode cX3_heightTurnedBack 18 = .ok (.invokevirtual 49, 3) := by decide +kernel
theorem dX3_heightTurnedBack_21 : decode cX3_heightTurnedBack 21 = .ok (.isub, 1) := by decide +kernel
theorem dX3_heightTurnedBack_22 : decode cX3_heightTurnedBack 22 = .ok (.iload_n 1, 1) := by decide +kernel
theorem dX3_heightTurnedBack_23 : decode cX3_heightTurnedBack 23 = .ok (.if_icmp .ne 9, 3) := by decide +kernel
theorem dX3_heightTurnedBack_26 : decode cX3_heightTurnedBack 26 = .ok (.aload_n 0, 1) := by decide +kernel
theorem dX3_heightTurnedBack_27 : decode cX3_heightTurnedBack 27 = .ok (.iload_n 2, 1) := by decide +kernel
theorem dX3_heightTurnedBack_28 : decode cX3_heightTurnedBack 28 = .ok (.invokevirtual 46, 3) := by decide +kernel
theorem dX3_heightTurnedBack_31 : decode cX3_heightTurnedBack 31 = .ok (.ireturn, 1) := by decide +kernel
theorem dX3_heightTurnedBack_32 : decode cX3_heightTurnedBack 32 = .ok (.iinc 2 1, 3) := by decide +kernel
theorem dX3_heightTurnedBack_35 : decode cX3_heightTurnedBack 35 = .ok (.goto (-33), 3) := by decide +kernel
theorem dX3_heightTurnedBack_38 : decode cX3_heightTurnedBack 38 = .ok (.iconst 0, 1) := by decide +kernel
theorem dX3_heightTurnedBack_39 : decode cX3_heightTurnedBack 39 = .ok (.ireturn, 1) := by decide +kernel
theorem dX4_init_0 : decode cX4_init 0 = .ok (.aload_n 0, 1) := by decide +kernel
theorem dX4_init_1 : decode cX4_init 1 = .ok (.invokespecial 1, 3) := by decide +kernel
theorem dX4_init_4 : decode cX4_init 4 = .ok (.aload_n 0, 1) := by decide +kernel
theorem dX4_init_5 : decode cX4_init 5 = .ok (.new 7, 3) := by decide +kernel
theorem dX4_init_8 : decode cX4_init 8 = .ok (.dup, 1) := by decide +kernel
theorem dX4_init_9 : decode cX4_init 9 = .ok (.invokespecial 9, 3) := by decide +kernel
theorem dX4_init_12 : decode cX4_init 12 = .ok (.putfield 10, 3) := by decide +kernel
theorem dX4_init_15 : decode cX4_init 15 = .ok (.aload_n 0, 1) := by decide +kernel
theorem dX4_init_16 : decode cX4_init 16 = .ok (.new 7, 3) := by decide +kernel
theorem dX4_init_19 : decode cX4_init 19 = .ok (.dup, 1) := by decide +kernel
theorem dX4_init_20 : decode cX4_init 20 = .ok (.invokespecial 9, 3) := by decide +kernel
theorem dX4_init_23 : decode cX4_init 23 = .ok (.putfield 16, 3) := by decide +kernel
theorem dX4_init_26 : decode cX4_init 26 = .ok (.return_, 1) := by decide +kernel
theorem dX4_become_0 : decode cX4_become 0 = .ok (.aload_n 0, 1) := by decide +kernel
theorem dX4_become_1 : decode cX4_become 1 = .ok (.getfield 10, 3) := by decide +kernel
theorem dX4_become_4 : decode cX4_become 4 = .ok (.aload_n 1, 1) := by decide +kernel
theorem dX4_become_5 : decode cX4_become 5 = .ok (.getfield 10, 3) := by decide +kernel
theorem dX4_become_8 : decode cX4_become 8 = .ok (.invokevirtual 19, 3) := by decide +kernel
theorem dX4_become_11 : decode cX4_become 11 = .ok (.aload_n 0, 1) := by decide +kernel
theorem dX4_become_12 : decode cX4_become 12 = .ok (.getfield 16, 3) := by decide +kernel
theorem dX4_become_15 : decode cX4_become 15 = .ok (.aload_n 1, 1) := by decide +kernel
theorem dX4_become_16 : decode cX4_become 16 = .ok (.getfield 16, 3) := by decide +kernel
theorem dX4_become_19 : decode cX4_become 19 = .ok (.invokevirtual 19, 3) := by decide +kernel
theorem dX4_become_22 : decode cX4_become 22 = .ok (.aload_n 0, 1) := by decide +kernel
theorem dX4_become_23 : decode cX4_become 23 = .ok (.aload_n 1, 1) := by decide +kernel
theorem dX4_become_24 : decode cX4_become 24 = .ok (.getfield 23, 3) := by decide +kernel
theorem dX4_become_27 : decode cX4_become 27 = .ok (.putfield 23, 3) := by decide +kernel
theorem dX4_become_30 : decode cX4_become 30 = .ok (.aload_n 0, 1) := by decide +kernel
theorem dX4_become_31 : decode cX4_become 31 = .ok (.aload_n 1, 1) := by decide +kernel
theorem dX4_become_32 : decode cX4_become 32 = .ok (.getfield 27, 3) := by decide +kernel
theorem dX4_become_35 : decode cX4_become 35 = .ok (.putfield 27, 3) := by decide +kernel
theorem dX4_become_38 : decode cX4_become 38 = .ok (.aload_n 0, 1) := by decide +kernel
theorem dX4_become_39 : decode cX4_become 39 = .ok (.aload_n 1, 1) := by decide +kernel
theorem dX4_become_40 : decode cX4_become 40 = .ok (.getfield 30, 3) := by decide +kernel
theorem dX4_become_43 : decode cX4_become 43 = .ok (.putfield 30, 3) := by decide +kernel
theorem dX4_become_46 : decode cX4_become 46 = .ok (.aload_n 0, 1) := by decide +kernel
theorem dX4_become_47 : decode cX4_become 47 = .ok (.aload_n 1, 1) := by decide +kernel
theorem dX4_become_48 : decode cX4_become 48 = .ok (.getfield 33, 3) := by decide +kernel
theorem dX4_become_51 : decode cX4_become 51 = .ok (.putfield 33, 3) := by decide +kernel
theorem dX4_become_54 : decode cX4_become 54 = .ok (.return_, 1) := by decide +kernel
theorem dX4_begin_0 : decode cX4_begin 0 = .ok (.aload_n 0, 1) := by decide +kernel
theorem dX4_begin_1 : decode cX4_begin 1 = .ok (.getfield 10, 3) := by decide +kernel
theorem dX4_begin_4 : decode cX4_begin 4 = .ok (.iload_n 1, 1) := by decide +kernel
theorem dX4_begin_5 : decode cX4_begin 5 = .ok (.invokevirtual 36, 3) := by decide +kernel
theorem dX4_begin_8 : decode cX4_begin 8 = .ok (.aload_n 0, 1) := by decide +kernel
theorem dX4_begin_9 : decode cX4_begin 9 = .ok (.getfield 16, 3) := by decide +kernel
theorem dX4_begin_12 : decode cX4_begin 12 = .ok (.iload_n 2, 1) := by decide +kernel
theorem dX4_begin_13 : decode cX4_begin 13 = .ok (.invokevirtual 36, 3) := by decide +kernel
theorem dX4_begin_16 : decode cX4_begin 16 = .ok (.aload_n 0, 1) := by decide +kernel
theorem dX4_begin_17 : decode cX4_begin 17 = .ok (.iconst 0, 1) := by decide +kernel
theorem dX4_begin_18 : decode cX4_begin 18 = .ok (.putfield 23, 3) := by decide +kernel
theorem dX4_begin_21 : decode cX4_begin 21 = .ok (.aload_n 0, 1) := by decide +kernel
theorem dX4_begin_22 : decode cX4_begin 22 = .ok (.iconst 0, 1) := by decide +kernel
theorem dX4_begin_23 : decode cX4_begin 23 = .ok (.putfield 27, 3) := by decide +kernel
theorem dX4_begin_26 : decode cX4_begin 26 = .ok (.aload_n 0, 1) := by decide +kernel
theorem dX4_begin_27 : decode cX4_begin 27 = .ok (.iconst 0, 1) := by decide +kernel
theorem dX4_begin_28 : decode cX4_begin 28 = .ok (.putfield 30, 3) := by decide +kernel
theorem dX4_begin_31 : decode cX4_begin 31 = .ok (.aload_n 0, 1) := by decide +kernel
theorem dX4_begin_32 : decode cX4_begin 32 = .ok (.iconst 0, 1) := by decide +kernel
theorem dX4_begin_33 : decode cX4_begin 33 = .ok (.putfield 33, 3) := by decide +kernel
theorem dX4_begin_36 : decode cX4_begin 36 = .ok (.return_, 1) := by decide +kernel
theorem dX4_juggler_0 : decode cX4_juggler 0 = .ok (.iload_n 1, 1) := by decide +kernel
theorem dX4_juggler_1 : decode cX4_juggler 1 = .ok (.ifCond .ne 10, 3) := by decide +kernel
theorem dX4_juggler_4 : decode cX4_juggler 4 = .ok (.aload_n 0, 1) := by decide +kernel
theorem dX4_juggler_5 : decode cX4_juggler 5 = .ok (.getfield 10, 3) := by decide +kernel
theorem dX4_juggler_8 : decode cX4_juggler 8 = .ok (.goto 7, 3) := by decide +kernel
theorem dX4_juggler_11 : decode cX4_juggler 11 = .ok (.aload_n 0, 1) := by decide +kernel
theorem dX4_juggler_12 : decode cX4_juggler 12 = .ok (.getfield 16, 3) := by decide +kernel
theorem dX4_juggler_15 : decode cX4_juggler 15 = .ok (.areturn, 1) := by decide +kernel
theorem dX4_clubs_0 : decode cX4_clubs 0 = .ok (.aload_n 0, 1) := by decide +kernel
theorem dX4_clubs_1 : decode cX4_clubs 1 = .ok (.getfield 10, 3) := by decide +kernel
theorem dX4_clubs_4 : decode cX4_clubs 4 = .ok (.invokevirtual 40, 3) := by decide +kernel
theorem dX4_clubs_7 : decode cX4_clubs 7 = .ok (.aload_n 0, 1) := by decide +kernel
theorem dX4_clubs_8 : decode cX4_clubs 8 = .ok (.getfield 16, 3) := by decide +kernel
theorem dX4_clubs_11 : decode cX4_clubs 11 = .ok (.invokevirtual 40, 3) := by decide +kernel
theorem dX4_clubs_14 : decode cX4_clubs 14 = .ok (.iadd, 1) := by decide +kernel
theorem dX4_clubs_15 : decode cX4_clubs 15 = .ok (.aload_n 0, 1) := by decide +kernel
theorem dX4_clubs_16 : decode cX4_clubs 16 = .ok (.getfield 23, 3) := by decide +kernel
theorem dX4_clubs_19 : decode cX4_clubs 19 = .ok (.iadd, 1) := by decide +kernel
theorem dX4_clubs_20 : decode cX4_clubs 20 = .ok (.ireturn, 1) := by decide +kernel
theorem dX4_play_0 : decode cX4_play 0 = .ok (.aload_n 0, 1) := by decide +kernel
theorem dX4_play_1 : decode cX4_play 1 = .ok (.getfield 23, 3) := by decide +kernel
theorem dX4_play_4 : decode cX4_play 4 = .ok (.istore_n 2, 1) := by decide +kernel
theorem dX4_play_5 : decode cX4_play 5 = .ok (.iconst 0, 1) := by decide +kernel
theorem dX4_play_6 : decode cX4_play 6 = .ok (.istore_n 3, 1) := by decide +kernel
theorem dX4_play_7 : decode cX4_play 7 = .ok (.iload_n 3, 1) := by decide +kernel
theorem dX4_play_8 : decode cX4_play 8 = .ok (.iload_n 1, 1) := by decide +kernel
theorem dX4_play_9 : decode cX4_play 9 = .ok (.if_icmp .ge 47, 3) := by decide +kernel
theorem dX4_play_12 : decode cX4_play 12 = .ok (.aload_n 0, 1) := by decide +kernel
theorem dX4_play_13 : decode cX4_play 13 = .ok (.aload_n 0, 1) := by decide +kernel
theorem dX4_play_14 : decode cX4_play 14 = .ok (.getfield 10, 3) := by decide +kernel
theorem dX4_play_17 : decode cX4_play 17 = .ok (.aload_n 0, 1) := by decide +kernel
theorem dX4_play_18 : decode cX4_play 18 = .ok (.getfield 16, 3) := by decide +kernel
theorem dX4_play_21 : decode cX4_play 21 = .ok (.invokevirtual 44, 3) := by decide +kernel
theorem dX4_play_24 : decode cX4_play 24 = .ok (.aload_n 0, 1) := by decide +kernel
theorem dX4_play_25 : decode cX4_play 25 = .ok (.aload_n 0, 1) := by decide +kernel
theorem dX4_play_26 : decode cX4_play 26 = .ok (.getfield 16, 3) := by decide +kernel
theorem dX4_play_29 : decode cX4_play 29 = .ok (.aload_n 0, 1) := by decide +kernel
theorem dX4_play_30 : decode cX4_play 30 = .ok (.getfield 10, 3) := by decide +kernel
theorem dX4_play_33 : decode cX4_play 33 = .ok (.invokevirtual 44, 3) := by decide +kernel
theorem dX4_play_36 : decode cX4_play 36 = .ok (.aload_n 0, 1) := by decide +kernel
theorem dX4_play_37 : decode cX4_play 37 = .ok (.getfield 10, 3) := by decide +kernel
theorem dX4_play_40 : decode cX4_play 40 = .ok (.invokevirtual 48, 3) := by decide +kernel
theorem dX4_play_43 : decode cX4_play 43 = .ok (.aload_n 0, 1) := by decide +kernel
theorem dX4_play_44 : decode cX4_play 44 = .ok (.getfield 16, 3) := by decide +kernel
theorem dX4_play_47 : decode cX4_play 47 = .ok (.invokevirtual 48, 3) := by decide +kernel
theorem dX4_play_50 : decode cX4_play 50 = .ok (.iinc 3 1, 3) := by decide +kernel
theorem dX4_play_53 : decode cX4_play 53 = .ok (.goto (-46), 3) := by decide +kernel
theorem dX4_play_56 : decode cX4_play 56 = .ok (.aload_n 0, 1) := by decide +kernel
theorem dX4_play_57 : decode cX4_play 57 = .ok (.dup, 1) := by decide +kernel
theorem dX4_play_58 : decode cX4_play 58 = .ok (.getfield 27, 3) := by decide +kernel
theorem dX4_play_61 : decode cX4_play 61 = .ok (.iload_n 1, 1) := by decide +kernel
theorem dX4_play_62 : decode cX4_play 62 = .ok (.iadd, 1) := by decide +kernel
theorem dX4_play_63 : decode cX4_play 63 = .ok (.putfield 27, 3) := by decide +kernel
theorem dX4_play_66 : decode cX4_play 66 = .ok (.aload_n 0, 1) := by decide +kernel
theorem dX4_play_67 : decode cX4_play 67 = .ok (.getfield 23, 3) := by decide +kernel
theorem dX4_play_70 : decode cX4_play 70 = .ok (.iload_n 2, 1) := by decide +kernel
theorem dX4_play_71 : decode cX4_play 71 = .ok (.isub, 1) := by decide +kernel
theorem dX4_play_72 : decode cX4_play 72 = .ok (.ireturn, 1) := by decide +kernel
theorem dX4_letThrow_0 : decode cX4_letThrow 0 = .ok (.aload_n 1, 1) := by decide +kernel
theorem dX4_letThrow_1 : decode cX4_letThrow 1 = .ok (.iconst 0, 1) := by decide +kernel
theorem dX4_letThrow_2 : decode cX4_letThrow 2 = .ok (.invokevirtual 51, 3) := by decide +kernel
theorem dX4_letThrow_5 : decode cX4_letThrow 5 = .ok (.ifCond .ne 4, 3) := by decide +kernel
theorem dX4_letThrow_8 : decode cX4_letThrow 8 = .ok (.return_, 1) := by decide +kernel
theorem dX4_letThrow_9 : decode cX4_letThrow 9 = .ok (.aload_n 0, 1) := by decide +kernel
theorem dX4_letThrow_10 : decode cX4_letThrow 10 = .ok (.dup, 1) := by decide +kernel
theorem dX4_letThrow_11 : decode cX4_letThrow 11 = .ok (.getfield 30, 3) := by decide +kernel
theorem dX4_letThrow_14 : decode cX4_letThrow 14 = .ok (.iconst 1, 1) := by decide +kernel
theorem dX4_letThrow_15 : decode cX4_letThrow 15 = .ok (.iadd, 1) := by decide +kernel
theorem dX4_letThrow_16 : decode cX4_letThrow 16 = .ok (.putfield 30, 3) := by decide +kernel
theorem dX4_letThrow_19 : decode cX4_letThrow 19 = .ok (.aload_n 1, 1) := by decide +kernel
theorem dX4_letThrow_20 : decode cX4_letThrow 20 = .ok (.aload_n 1, 1) := by decide +kernel
theorem dX4_letThrow_21 : decode cX4_letThrow 21 = .ok (.getfield 55, 3) := by decide +kernel
theorem dX4_letThrow_24 : decode cX4_letThrow 24 = .ok (.invokevirtual 58, 3) := by decide +kernel
theorem dX4_letThrow_27 : decode cX4_letThrow 27 = .ok (.istore_n 3, 1) := by decide +kernel
theorem dX4_letThrow_28 : decode cX4_letThrow 28 = .ok (.aload_n 1, 1) := by decide +kernel
theorem dX4_letThrow_29 : decode cX4_letThrow 29 = .ok (.aload_n 1, 1) := by decide +kernel
theorem dX4_letThrow_30 : decode cX4_letThrow 30 = .ok (.getfield 55, 3) := by decide +kernel
theorem dX4_letThrow_33 : decode cX4_letThrow 33 = .ok (.invokevirtual 62, 3) := by decide +kernel
theorem dX4_letThrow_36 : decode cX4_letThrow 36 = .ok (.istore 4, 2) := by decide +kernel
theorem dX4_letThrow_38 : decode cX4_letThrow 38 = .ok (.iload 4, 2) := by decide +kernel
theorem dX4_letThrow_40 : decode cX4_letThrow 40 = .ok (.ifCond .eq 7, 3) := by decide +kernel
theorem dX4_letThrow_43 : decode cX4_letThrow 43 = .ok (.aload_n 2, 1) := by decide +kernel
theorem dX4_letThrow_44 : decode cX4_letThrow 44 = .ok (.goto 4, 3) := by decide +kernel
theorem dX4_letThrow_47 : decode cX4_letThrow 47 = .ok (.aload_n 1, 1) := by decide +kernel
theorem dX4_letThrow_48 : decode cX4_letThrow 48 = .ok (.astore 5, 2) := by decide +kernel
theorem dX4_letThrow_50 : decode cX4_letThrow 50 = .ok (.iload_n 3, 1) := by decide +kernel
theorem dX4_letThrow_51 : decode cX4_letThrow 51 = .ok (.ifCond .ne 26, 3) := by decide +kernel
theorem dX4_letThrow_54 : decode cX4_letThrow 54 = .ok (.aload_n 1, 1) := by decide +kernel
theorem dX4_letThrow_55 : decode cX4_letThrow 55 = .ok (.dup, 1) := by decide +kernel
theorem dX4_letThrow_56 : decode cX4_letThrow 56 = .ok (.getfield 65, 3) := by decide +kernel
theorem dX4_letThrow_59 : decode cX4_letThrow 59 = .ok (.iconst 1, 1) := by decide +kernel
theorem dX4_letThrow_60 : decode cX4_letThrow 60 = .ok (.iadd, 1) := by decide +kernel
theorem dX4_letThrow_61 : decode cX4_letThrow 61 = .ok (.putfield 65, 3) := by decide +kernel
theorem dX4_letThrow_64 : decode cX4_letThrow 64 = .ok (.aload_n 0, 1) := by decide +kernel
theorem dX4_letThrow_65 : decode cX4_letThrow 65 = .ok (.dup, 1) := by decide +kernel
theorem dX4_letThrow_66 : decode cX4_letThrow 66 = .ok (.getfield 23, 3) := by decide +kernel
theorem dX4_letThrow_69 : decode cX4_letThrow 69 = .ok (.iconst 1, 1) := by decide +kernel
theorem dX4_letThrow_70 : decode cX4_letThrow 70 = .ok (.iadd, 1) := by decide +kernel
theorem dX4_letThrow_71 : decode cX4_letThrow 71 = .ok (.putfield 23, 3) := by decide +kernel
theorem dX4_letThrow_74 : decode cX4_letThrow 74 = .ok (.goto 55, 3) := by decide +kernel
theorem dX4_letThrow_77 : decode cX4_letThrow 77 = .ok (.aload 5, 2) := by decide +kernel
theorem dX4_letThrow_79 : decode cX4_letThrow 79 = .ok (.iload_n 3, 1) := by decide +kernel
theorem dX4_letThrow_80 : decode cX4_letThrow 80 = .ok (.invokevirtual 51, 3) := by decide +kernel
theorem dX4_letThrow_83 : decode cX4_letThrow 83 = .ok (.ifCond .eq 26, 3) := by decide +kernel
theorem dX4_letThrow_86 : decode cX4_letThrow 86 = .ok (.aload_n 1, 1) := by decide +kernel
theorem dX4_letThrow_87 : decode cX4_letThrow 87 = .ok (.dup, 1) := by decide +kernel
theorem dX4_letThrow_88 : decode cX4_letThrow 88 = .ok (.getfield 68, 3) := by decide +kernel
theorem dX4_letThrow_91 : decode cX4_letThrow 91 = .ok (.iconst 1, 1) := by decide +kernel
theorem dX4_letThrow_92 : decode cX4_letThrow 92 = .ok (.iadd, 1) := by decide +kernel
theorem dX4_letThrow_93 : decode cX4_letThrow 93 = .ok (.putfield 68, 3) := by decide +kernel
theorem dX4_letThrow_96 : decode cX4_letThrow 96 = .ok (.aload_n 0, 1) := by decide +kernel
theorem dX4_letThrow_97 : decode cX4_letThrow 97 = .ok (.dup, 1) := by decide +kernel
theorem dX4_letThrow_98 : decode cX4_letThrow 98 = .ok (.getfield 23, 3) := by decide +kernel
theorem dX4_letThrow_101 : decode cX4_letThrow 101 = .ok (.iconst 1, 1) := by decide +kernel
theorem dX4_letThrow_102 : decode cX4_letThrow 102 = .ok (.iadd, 1) := by decide +kernel
theorem dX4_letThrow_103 : decode cX4_letThrow 103 = .ok (.putfield 23, 3) := by decide +kernel
theorem dX4_letThrow_106 : decode cX4_letThrow 106 = .ok (.goto 23, 3) := by decide +kernel
theorem dX4_letThrow_109 : decode cX4_letThrow 109 = .ok (.aload 5, 2) := by decide +kernel
theorem dX4_letThrow_111 : decode cX4_letThrow 111 = .ok (.iload_n 3, 1) := by decide +kernel
theorem dX4_letThrow_112 : decode cX4_letThrow 112 = .ok (.invokevirtual 71, 3) := by decide +kernel
theorem dX4_letThrow_115 : decode cX4_letThrow 115 = .ok (.aload_n 0, 1) := by decide +kernel
theorem dX4_letThrow_116 : decode cX4_letThrow 116 = .ok (.dup, 1) := by decide +kernel
theorem dX4_letThrow_117 : decode cX4_letThrow 117 = .ok (.getfield 33, 3) := by decide +kernel
theorem dX4_letThrow_120 : decode cX4_letThrow 120 = .ok (.iload 4, 2) := by decide +kernel
theorem dX4_letThrow_122 : decode cX4_letThrow 122 = .ok (.invokestatic 74, 3) := by decide +kernel
theorem dX4_letThrow_125 : decode cX4_letThrow 125 = .ok (.iadd, 1) := by decide +kernel
theorem dX4_letThrow_126 : decode cX4_letThrow 126 = .ok (.putfield 33, 3) := by decide +kernel
theorem dX4_letThrow_129 : decode cX4_letThrow 129 = .ok (.return_, 1) := by decide +kernel
theorem dX4_standsLike_0 : decode cX4_standsLike 0 = .ok (.aload_n 0, 1) := by decide +kernel
theorem dX4_standsLike_1 : decode cX4_standsLike 1 = .ok (.getfield 10, 3) := by decide +kernel
theorem dX4_standsLike_4 : decode cX4_standsLike 4 = .ok (.aload_n 1, 1) := by decide +kernel
theorem dX4_standsLike_5 : decode cX4_standsLike 5 = .ok (.getfield 10, 3) := by decide +kernel
theorem dX4_standsLike_8 : decode cX4_standsLike 8 = .ok (.invokevirtual 80, 3) := by decide +kernel
theorem dX4_standsLike_11 : decode cX4_standsLike 11 = .ok (.ifCond .eq 21, 3) := by decide +kernel
theorem dX4_standsLike_14 : decode cX4_standsLike 14 = .ok (.aload_n 0, 1) := by decide +kernel
theorem dX4_standsLike_15 : decode cX4_standsLike 15 = .ok (.getfield 16, 3) := by decide +kernel
theorem dX4_standsLike_18 : decode cX4_standsLike 18 = .ok (.aload_n 1, 1) := by decide +kernel
theorem dX4_standsLike_19 : decode cX4_standsLike 19 = .ok (.getfield 16, 3) := by decide +kernel
theorem dX4_standsLike_22 : decode cX4_standsLike 22 = .ok (.invokevirtual 80, 3) := by decide +kernel
theorem dX4_standsLike_25 : decode cX4_standsLike 25 = .ok (.ifCond .eq 7, 3) := by decide +kernel
theorem dX4_standsLike_28 : decode cX4_standsLike 28 = .ok (.iconst 1, 1) := by decide +kernel
theorem dX4_standsLike_29 : decode cX4_standsLike 29 = .ok (.goto 4, 3) := by decide +kernel
theorem dX4_standsLike_32 : decode cX4_standsLike 32 = .ok (.iconst 0, 1) := by decide +kernel
theorem dX4_standsLike_33 : decode cX4_standsLike 33 = .ok (.ireturn, 1) := by decide +kernel
theorem dX5_init_0 : decode cX5_init 0 = .ok (.aload_n 0, 1) := by decide +kernel
theorem dX5_init_1 : decode cX5_init 1 = .ok (.invokespecial 1, 3) := by decide +kernel
theorem dX5_init_4 : decode cX5_init 4 = .ok (.aload_n 0, 1) := by decide +kernel
theorem dX5_init_5 : decode cX5_init 5 = .ok (.new 7, 3) := by decide +kernel
theorem dX5_init_8 : decode cX5_init 8 = .ok (.dup, 1) := by decide +kernel
theorem dX5_init_9 : decode cX5_init 9 = .ok (.invokespecial 9, 3) := by decide +kernel
theorem dX5_init_12 : decode cX5_init 12 = .ok (.putfield 10, 3) := by decide +kernel
theorem dX5_init_15 : decode cX5_init 15 = .ok (.return_, 1) := by decide +kernel
theorem dX6_init_0 : decode cX6_init 0 = .ok (.aload_n 0, 1) := by decide +kernel
theorem dX6_init_1 : decode cX6_init 1 = .ok (.invokespecial 3, 3) := by decide +kernel
theorem dX6_init_4 : decode cX6_init 4 = .ok (.aload_n 0, 1) := by decide +kernel
theorem dX6_init_5 : decode cX6_init 5 = .ok (.sipush 256, 3) := by decide +kernel
theorem dX6_init_8 : decode cX6_init 8 = .ok (.newarray .int, 2) := by decide +kernel
theorem dX6_init_10 : decode cX6_init 10 = .ok (.putfield 9, 3) := by decide +kernel
theorem dX6_init_13 : decode cX6_init 13 = .ok (.aload_n 0, 1) := by decide +kernel
theorem dX6_init_14 : decode cX6_init 14 = .ok (.sipush 256, 3) := by decide +kernel
theorem dX6_init_17 : decode cX6_init 17 = .ok (.newarray .int, 2) := by decide +kernel
theorem dX6_init_19 : decode cX6_init 19 = .ok (.putfield 15, 3) := by decide +kernel
theorem dX6_init_22 : decode cX6_init 22 = .ok (.aload_n 0, 1) := by decide +kernel
theorem dX6_init_23 : decode cX6_init 23 = .ok (.sipush 256, 3) := by decide +kernel
theorem dX6_init_26 : decode cX6_init 26 = .ok (.newarray .int, 2) := by decide +kernel
theorem dX6_init_28 : decode cX6_init 28 = .ok (.putfield 18, 3) := by decide +kernel
theorem dX6_init_31 : decode cX6_init 31 = .ok (.aload_n 0, 1) := by decide +kernel
theorem dX6_init_32 : decode cX6_init 32 = .ok (.sipush 256, 3) := by decide +kernel
theorem dX6_init_35 : decode cX6_init 35 = .ok (.newarray .int, 2) := by decide +kernel
theorem dX6_init_37 : decode cX6_init 37 = .ok (.putfield 21, 3) := by decide +kernel
theorem dX6_init_40 : decode cX6_init 40 = .ok (.return_, 1) := by decide +kernel
