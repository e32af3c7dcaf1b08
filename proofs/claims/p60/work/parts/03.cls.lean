/-! names, fields, methods: printed by the kit's program (claim/NAMES.whole.lean.txt), the decode rows left out -/
def RX0 : String := "KiteQuarrel$Crossing"
def TX0 : u_T := fun k => match k with
  | 0 => ("KiteQuarrel$Crossing", "x", "I", false)
  | 1 => ("KiteQuarrel$Crossing", "y", "I", false)
  | 2 => ("KiteQuarrel$Crossing", "firstHeight", "I", false)
  | _ => ("KiteQuarrel$Crossing", "secondHeight", "I", false)
def tyX0 : Nat → FieldType := fun k => match k with
  | 0 => .int
  | 1 => .int
  | 2 => .int
  | _ => .int
abbrev wsX00 : List Cond := u_ws RX0 TX0 4
theorem nmX0 : ∀ a, a < 4 → ∀ b, b < 4 → a ≠ b → (TX0 a).2.1 ≠ (TX0 b).2.1 := by decide +kernel
theorem tyX0_ok : ∀ k, k < 4 → parseFieldDescriptor (TX0 k).2.2.1 = some (tyX0 k) := by decide +kernel
abbrev cX0_init : ByteArray := prog_2_method_1_code
def yX0_init : MethodName := ⟨RX0, "<init>", "()V"⟩
abbrev cX0_isBetween : ByteArray := prog_2_method_2_code
def yX0_isBetween : MethodName := ⟨RX0, "isBetween", "(LKiteQuarrel$Kite;LKiteQuarrel$Kite;)Z"⟩
abbrev cX0_heightOfLine : ByteArray := prog_2_method_3_code
def yX0_heightOfLine : MethodName := ⟨RX0, "heightOfLine", "(II)I"⟩
abbrev cX0_heightsApart : ByteArray := prog_2_method_4_code
def yX0_heightsApart : MethodName := ⟨RX0, "heightsApart", "()I"⟩
def RX1 : String := "KiteQuarrel$Event"
def TX1 : u_T := fun k => match k with
  | 0 => ("KiteQuarrel$Event", "time", "I", false)
  | 1 => ("KiteQuarrel$Event", "kind", "I", false)
  | 2 => ("KiteQuarrel$Event", "kite", "I", false)
  | 3 => ("KiteQuarrel$Event", "other", "I", false)
  | 4 => ("KiteQuarrel$Event", "x", "I", false)
  | _ => ("KiteQuarrel$Event", "y", "I", false)
def tyX1 : Nat → FieldType := fun k => match k with
  | 0 => .int
  | 1 => .int
  | 2 => .int
  | 3 => .int
  | 4 => .int
  | _ => .int
abbrev wsX10 : List Cond := u_ws RX1 TX1 6
theorem nmX1 : ∀ a, a < 6 → ∀ b, b < 6 → a ≠ b → (TX1 a).2.1 ≠ (TX1 b).2.1 := by decide +kernel
theorem tyX1_ok : ∀ k, k < 6 → parseFieldDescriptor (TX1 k).2.2.1 = some (tyX1 k) := by decide +kernel
abbrev cX1_init : ByteArray := prog_3_method_1_code
def yX1_init : MethodName := ⟨RX1, "<init>", "()V"⟩
abbrev cX1_copyFrom : ByteArray := prog_3_method_2_code
def yX1_copyFrom : MethodName := ⟨RX1, "copyFrom", "(LKiteQuarrel$Event;)V"⟩
def RX2 : String := "KiteQuarrel$Field"
def TX2 : u_T := fun k => match k with
  | 0 => ("KiteQuarrel$Field", "kites", "[LKiteQuarrel$Kite;", true)
  | 1 => ("KiteQuarrel$Field", "winds", "[LKiteQuarrel$Wind;", true)
  | 2 => ("KiteQuarrel$Field", "events", "[LKiteQuarrel$Event;", true)
  | 3 => ("KiteQuarrel$Field", "settings", "[I", true)
  | 4 => ("KiteQuarrel$Field", "crossing", "LKiteQuarrel$Crossing;", true)
  | 5 => ("KiteQuarrel$Field", "kiteCount", "I", false)
  | 6 => ("KiteQuarrel$Field", "windCount", "I", false)
  | 7 => ("KiteQuarrel$Field", "eventCount", "I", false)
  | 8 => ("KiteQuarrel$Field", "firstEvent", "I", false)
  | 9 => ("KiteQuarrel$Field", "time", "I", false)
  | _ => ("KiteQuarrel$Field", "cuts", "I", false)
def tyX2 : Nat → FieldType := fun k => match k with
  | 0 => .array (.object "KiteQuarrel$Kite")
  | 1 => .array (.object "KiteQuarrel$Wind")
  | 2 => .array (.object "KiteQuarrel$Event")
  | 3 => .array .int
  | 4 => .object "KiteQuarrel$Crossing"
  | 5 => .int
  | 6 => .int
  | 7 => .int
  | 8 => .int
  | 9 => .int
  | _ => .int
abbrev wsX20 : List Cond := u_ws RX2 TX2 11
theorem nmX2 : ∀ a, a < 11 → ∀ b, b < 11 → a ≠ b → (TX2 a).2.1 ≠ (TX2 b).2.1 := by decide +kernel
theorem tyX2_ok : ∀ k, k < 11 → parseFieldDescriptor (TX2 k).2.2.1 = some (tyX2 k) := by decide +kernel
abbrev cX2_init : ByteArray := prog_4_method_1_code
def yX2_init : MethodName := ⟨RX2, "<init>", "()V"⟩
abbrev cX2_clear : ByteArray := prog_4_method_2_code
def yX2_clear : MethodName := ⟨RX2, "clear", "()V"⟩
abbrev cX2_addDefaultWind : ByteArray := prog_4_method_3_code
def yX2_addDefaultWind : MethodName := ⟨RX2, "addDefaultWind", "()V"⟩
abbrev cX2_copyFrom : ByteArray := prog_4_method_4_code
def yX2_copyFrom : MethodName := ⟨RX2, "copyFrom", "(LKiteQuarrel$Field;)V"⟩
abbrev cX2_kitesInState : ByteArray := prog_4_method_5_code
def yX2_kitesInState : MethodName := ⟨RX2, "kitesInState", "(I)I"⟩
abbrev cX2_windNumberAt : ByteArray := prog_4_method_6_code
def yX2_windNumberAt : MethodName := ⟨RX2, "windNumberAt", "(I)I"⟩
abbrev cX2_linesCross : ByteArray := prog_4_method_7_code
def yX2_linesCross : MethodName := ⟨RX2, "linesCross", "(II)Z"⟩
abbrev cX2_linesRub : ByteArray := prog_4_method_8_code
def yX2_linesRub : MethodName := ⟨RX2, "linesRub", "(II)Z"⟩
abbrev cX2_pairs : ByteArray := prog_4_method_9_code
def yX2_pairs : MethodName := ⟨RX2, "pairs", "(Z)I"⟩
abbrev cX2_pickerAt : ByteArray := prog_4_method_10_code
def yX2_pickerAt : MethodName := ⟨RX2, "pickerAt", "(III)I"⟩
abbrev cX2_eventAt : ByteArray := prog_4_method_11_code
def yX2_eventAt : MethodName := ⟨RX2, "eventAt", "(I)LKiteQuarrel$Event;"⟩
abbrev cX2_tellOfKite : ByteArray := prog_4_method_12_code
def yX2_tellOfKite : MethodName := ⟨RX2, "tellOfKite", "(III)V"⟩
abbrev cX2_tell : ByteArray := prog_4_method_13_code
def yX2_tell : MethodName := ⟨RX2, "tell", "(IIIII)V"⟩
abbrev cX2_passTicks : ByteArray := prog_4_method_14_code
def yX2_passTicks : MethodName := ⟨RX2, "passTicks", "(I)V"⟩
abbrev cX2_tick : ByteArray := prog_4_method_15_code
def yX2_tick : MethodName := ⟨RX2, "tick", "()V"⟩
abbrev cX2_fly : ByteArray := prog_4_method_16_code
def yX2_fly : MethodName := ⟨RX2, "fly", "(I)V"⟩
abbrev cX2_rubAllLines : ByteArray := prog_4_method_17_code
def yX2_rubAllLines : MethodName := ⟨RX2, "rubAllLines", "()V"⟩
abbrev cX2_wearLine : ByteArray := prog_4_method_18_code
def yX2_wearLine : MethodName := ⟨RX2, "wearLine", "(II)V"⟩
abbrev cX2_cutWornLines : ByteArray := prog_4_method_19_code
def yX2_cutWornLines : MethodName := ⟨RX2, "cutWornLines", "()V"⟩
abbrev cX2_drift : ByteArray := prog_4_method_20_code
def yX2_drift : MethodName := ⟨RX2, "drift", "(I)V"⟩
abbrev cX2_pickUpFallenKites : ByteArray := prog_4_method_21_code
def yX2_pickUpFallenKites : MethodName := ⟨RX2, "pickUpFallenKites", "()V"⟩
def RX3 : String := "KiteQuarrel$History"
def TX3 : u_T := fun k => match k with
  | 0 => ("KiteQuarrel$History", "kept", "[LKiteQuarrel$Field;", true)
  | 1 => ("KiteQuarrel$History", "first", "I", false)
  | _ => ("KiteQuarrel$History", "size", "I", false)
def tyX3 : Nat → FieldType := fun k => match k with
  | 0 => .array (.object "KiteQuarrel$Field")
  | 1 => .int
  | _ => .int
abbrev wsX30 : List Cond := u_ws RX3 TX3 3
theorem nmX3 : ∀ a, a < 3 → ∀ b, b < 3 → a ≠ b → (TX3 a).2.1 ≠ (TX3 b).2.1 := by decide +kernel
theorem tyX3_ok : ∀ k, k < 3 → parseFieldDescriptor (TX3 k).2.2.1 = some (tyX3 k) := by decide +kernel
abbrev cX3_init : ByteArray := prog_5_method_1_code
def yX3_init : MethodName := ⟨RX3, "<init>", "()V"⟩
abbrev cX3_clear : ByteArray := prog_5_method_2_code
def yX3_clear : MethodName := ⟨RX3, "clear", "()V"⟩
abbrev cX3_remember : ByteArray := prog_5_method_3_code
def yX3_remember : MethodName := ⟨RX3, "remember", "(LKiteQuarrel$Field;)V"⟩
abbrev cX3_takeBack : ByteArray := prog_5_method_4_code
def yX3_takeBack : MethodName := ⟨RX3, "takeBack", "(LKiteQuarrel$Field;)V"⟩
def RX4 : String := "KiteQuarrel$Input"
def TX4 : u_T := fun k => match k with
  | 0 => ("KiteQuarrel$Input", "bytes", "[B", true)
  | _ => ("KiteQuarrel$Input", "length", "I", false)
def tyX4 : Nat → FieldType := fun k => match k with
  | 0 => .array .byte
  | _ => .int
abbrev wsX40 : List Cond := u_ws RX4 TX4 2
theorem nmX4 : ∀ a, a < 2 → ∀ b, b < 2 → a ≠ b → (TX4 a).2.1 ≠ (TX4 b).2.1 := by decide +kernel
theorem tyX4_ok : ∀ k, k < 2 → parseFieldDescriptor (TX4 k).2.2.1 = some (tyX4 k) := by decide +kernel
abbrev cX4_init : ByteArray := prog_6_method_1_code
def yX4_init : MethodName := ⟨RX4, "<init>", "()V"⟩
abbrev cX4_addFour : ByteArray := prog_6_method_2_code
def yX4_addFour : MethodName := ⟨RX4, "addFour", "(I)V"⟩
def RX5 : String := "KiteQuarrel$Kite"
def TX5 : u_T := fun k => match k with
  | 0 => ("KiteQuarrel$Kite", "state", "I", false)
  | 1 => ("KiteQuarrel$Kite", "x", "I", false)
  | 2 => ("KiteQuarrel$Kite", "y", "I", false)
  | 3 => ("KiteQuarrel$Kite", "height", "I", false)
  | 4 => ("KiteQuarrel$Kite", "flyerX", "I", false)
  | 5 => ("KiteQuarrel$Kite", "flyerY", "I", false)
  | 6 => ("KiteQuarrel$Kite", "out", "I", false)
  | 7 => ("KiteQuarrel$Kite", "reel", "I", false)
  | 8 => ("KiteQuarrel$Kite", "sharp", "I", false)
  | 9 => ("KiteQuarrel$Kite", "tough", "I", false)
  | 10 => ("KiteQuarrel$Kite", "wear", "I", false)
  | 11 => ("KiteQuarrel$Kite", "points", "I", false)
  | 12 => ("KiteQuarrel$Kite", "pickedBy", "I", false)
  | 13 => ("KiteQuarrel$Kite", "cutBy", "I", false)
  | 14 => ("KiteQuarrel$Kite", "mostWear", "I", false)
  | _ => ("KiteQuarrel$Kite", "mostWearBy", "I", false)
def tyX5 : Nat → FieldType := fun k => match k with
  | 0 => .int
  | 1 => .int
  | 2 => .int
  | 3 => .int
  | 4 => .int
  | 5 => .int
  | 6 => .int
  | 7 => .int
  | 8 => .int
  | 9 => .int
  | 10 => .int
  | 11 => .int
  | 12 => .int
  | 13 => .int
  | 14 => .int
  | _ => .int
abbrev wsX50 : List Cond := u_ws RX5 TX5 16
theorem nmX5 : ∀ a, a < 16 → ∀ b, b < 16 → a ≠ b → (TX5 a).2.1 ≠ (TX5 b).2.1 := by decide +kernel
theorem tyX5_ok : ∀ k, k < 16 → parseFieldDescriptor (TX5 k).2.2.1 = some (tyX5 k) := by decide +kernel
abbrev cX5_init : ByteArray := prog_7_method_1_code
def yX5_init : MethodName := ⟨RX5, "<init>", "()V"⟩
abbrev cX5_copyFrom : ByteArray := prog_7_method_2_code
def yX5_copyFrom : MethodName := ⟨RX5, "copyFrom", "(LKiteQuarrel$Kite;)V"⟩
abbrev cX5_startAt : ByteArray := prog_7_method_3_code
def yX5_startAt : MethodName := ⟨RX5, "startAt", "(II)V"⟩
abbrev cX5_goDownAtFlyer : ByteArray := prog_7_method_5_code
def yX5_goDownAtFlyer : MethodName := ⟨RX5, "goDownAtFlyer", "()V"⟩
abbrev cX5_number : ByteArray := prog_7_method_6_code
def yX5_number : MethodName := ⟨RX5, "number", "(I)I"⟩
abbrev cX5_distanceTo : ByteArray := prog_7_method_8_code
def yX5_distanceTo : MethodName := ⟨RX5, "distanceTo", "(III)I"⟩
abbrev cX5_spanNow : ByteArray := prog_7_method_9_code
def yX5_spanNow : MethodName := ⟨RX5, "spanNow", "()I"⟩
abbrev cX5_slackNow : ByteArray := prog_7_method_10_code
def yX5_slackNow : MethodName := ⟨RX5, "slackNow", "()I"⟩
abbrev cX5_wearBrought : ByteArray := prog_7_method_11_code
def yX5_wearBrought : MethodName := ⟨RX5, "wearBrought", "()I"⟩
abbrev cX5_blow : ByteArray := prog_7_method_12_code
def yX5_blow : MethodName := ⟨RX5, "blow", "(LKiteQuarrel$Wind;)V"⟩
abbrev cX5_pullIn : ByteArray := prog_7_method_13_code
def yX5_pullIn : MethodName := ⟨RX5, "pullIn", "()V"⟩
def RX6 : String := "KiteQuarrel$Names"
def TX6 : u_T := fun k => match k with
  | 0 => ("KiteQuarrel$Names", "letters", "[[B", true)
  | 1 => ("KiteQuarrel$Names", "lengths", "[I", true)
  | _ => ("KiteQuarrel$Names", "size", "I", false)
def tyX6 : Nat → FieldType := fun k => match k with
  | 0 => .array (.array .byte)
  | 1 => .array .int
  | _ => .int
abbrev wsX60 : List Cond := u_ws RX6 TX6 3
theorem nmX6 : ∀ a, a < 3 → ∀ b, b < 3 → a ≠ b → (TX6 a).2.1 ≠ (TX6 b).2.1 := by decide +kernel
theorem tyX6_ok : ∀ k, k < 3 → parseFieldDescriptor (TX6 k).2.2.1 = some (tyX6 k) := by decide +kernel
abbrev cX6_init : ByteArray := prog_8_method_1_code
def yX6_init : MethodName := ⟨RX6, "<init>", "()V"⟩
abbrev cX6_clear : ByteArray := prog_8_method_2_code
def yX6_clear : MethodName := ⟨RX6, "clear", "()V"⟩
abbrev cX6_copyFrom : ByteArray := prog_8_method_3_code
def yX6_copyFrom : MethodName := ⟨RX6, "copyFrom", "(LKiteQuarrel$Names;)V"⟩
abbrev cX6_addWord : ByteArray := prog_8_method_4_code
def yX6_addWord : MethodName := ⟨RX6, "addWord", "([BII)V"⟩
abbrev cX6_numberOf : ByteArray := prog_8_method_5_code
def yX6_numberOf : MethodName := ⟨RX6, "numberOf", "([BII)I"⟩
abbrev cX6_isSame : ByteArray := prog_8_method_6_code
def yX6_isSame : MethodName := ⟨RX6, "isSame", "(I[BI)Z"⟩
def RX7 : String := "KiteQuarrel$Output"
def TX7 : u_T := fun k => match k with
  | 0 => ("KiteQuarrel$Output", "bytes", "[B", true)
  | _ => ("KiteQuarrel$Output", "length", "I", false)
def tyX7 : Nat → FieldType := fun k => match k with
  | 0 => .array .byte
  | _ => .int
abbrev wsX70 : List Cond := u_ws RX7 TX7 2
theorem nmX7 : ∀ a, a < 2 → ∀ b, b < 2 → a ≠ b → (TX7 a).2.1 ≠ (TX7 b).2.1 := by decide +kernel
theorem tyX7_ok : ∀ k, k < 2 → parseFieldDescriptor (TX7 k).2.2.1 = some (tyX7 k) := by decide +kernel
abbrev cX7_init : ByteArray := prog_9_method_1_code
def yX7_init : MethodName := ⟨RX7, "<init>", "()V"⟩
def RX8 : String := "KiteQuarrel$Setup"
def TX8 : u_T := fun k => match k with
  | 0 => ("KiteQuarrel$Setup", "field", "LKiteQuarrel$Field;", true)
  | 1 => ("KiteQuarrel$Setup", "names", "LKiteQuarrel$Names;", true)
  | 2 => ("KiteQuarrel$Setup", "tokens", "LKiteQuarrel$Tokens;", true)
  | 3 => ("KiteQuarrel$Setup", "settingsTold", "I", false)
  | 4 => ("KiteQuarrel$Setup", "number", "I", false)
  | 5 => ("KiteQuarrel$Setup", "code", "I", false)
  | _ => ("KiteQuarrel$Setup", "offset", "I", false)
def tyX8 : Nat → FieldType := fun k => match k with
  | 0 => .object "KiteQuarrel$Field"
  | 1 => .object "KiteQuarrel$Names"
  | 2 => .object "KiteQuarrel$Tokens"
  | 3 => .int
  | 4 => .int
  | 5 => .int
  | _ => .int
abbrev wsX80 : List Cond := u_ws RX8 TX8 7
theorem nmX8 : ∀ a, a < 7 → ∀ b, b < 7 → a ≠ b → (TX8 a).2.1 ≠ (TX8 b).2.1 := by decide +kernel
theorem tyX8_ok : ∀ k, k < 7 → parseFieldDescriptor (TX8 k).2.2.1 = some (tyX8 k) := by decide +kernel
abbrev cX8_init : ByteArray := prog_10_method_1_code
def yX8_init : MethodName := ⟨RX8, "<init>", "(LKiteQuarrel$Input;)V"⟩
abbrev cX8_readText : ByteArray := prog_10_method_2_code
def yX8_readText : MethodName := ⟨RX8, "readText", "()Z"⟩
abbrev cX8_readStatement : ByteArray := prog_10_method_3_code
def yX8_readStatement : MethodName := ⟨RX8, "readStatement", "(I)Z"⟩
abbrev cX8_readKite : ByteArray := prog_10_method_4_code
def yX8_readKite : MethodName := ⟨RX8, "readKite", "()Z"⟩
abbrev cX8_readName : ByteArray := prog_10_method_5_code
def yX8_readName : MethodName := ⟨RX8, "readName", "()Z"⟩
abbrev cX8_readOption : ByteArray := prog_10_method_6_code
def yX8_readOption : MethodName := ⟨RX8, "readOption", "(IIII)Z"⟩
abbrev cX8_readWind : ByteArray := prog_10_method_7_code
def yX8_readWind : MethodName := ⟨RX8, "readWind", "()Z"⟩
abbrev cX8_readSpeed : ByteArray := prog_10_method_8_code
def yX8_readSpeed : MethodName := ⟨RX8, "readSpeed", "()Z"⟩
abbrev cX8_readSetting : ByteArray := prog_10_method_9_code
def yX8_readSetting : MethodName := ⟨RX8, "readSetting", "(I)Z"⟩
abbrev cX8_readNumber : ByteArray := prog_10_method_10_code
def yX8_readNumber : MethodName := ⟨RX8, "readNumber", "(II)Z"⟩
abbrev cX8_readSemicolon : ByteArray := prog_10_method_11_code
def yX8_readSemicolon : MethodName := ⟨RX8, "readSemicolon", "()Z"⟩
abbrev cX8_fail : ByteArray := prog_10_method_12_code
def yX8_fail : MethodName := ⟨RX8, "fail", "(I)Z"⟩
abbrev cX8_quotedWord : ByteArray := prog_10_method_13_code
def yX8_quotedWord : MethodName := ⟨RX8, "quotedWord", "()I"⟩
abbrev cX8_quoted : ByteArray := prog_10_method_14_code
def yX8_quoted : MethodName := ⟨RX8, "quoted", "(I)Ljava/lang/String;"⟩
def RX9 : String := "KiteQuarrel$Tokens"
def TX9 : u_T := fun k => match k with
  | 0 => ("KiteQuarrel$Tokens", "text", "LKiteQuarrel$Input;", true)
  | 1 => ("KiteQuarrel$Tokens", "kind", "I", false)
  | 2 => ("KiteQuarrel$Tokens", "start", "I", false)
  | _ => ("KiteQuarrel$Tokens", "length", "I", false)
def tyX9 : Nat → FieldType := fun k => match k with
  | 0 => .object "KiteQuarrel$Input"
  | 1 => .int
  | 2 => .int
  | _ => .int
abbrev wsX90 : List Cond := u_ws RX9 TX9 4
theorem nmX9 : ∀ a, a < 4 → ∀ b, b < 4 → a ≠ b → (TX9 a).2.1 ≠ (TX9 b).2.1 := by decide +kernel
theorem tyX9_ok : ∀ k, k < 4 → parseFieldDescriptor (TX9 k).2.2.1 = some (tyX9 k) := by decide +kernel
abbrev cX9_init : ByteArray := prog_11_method_1_code
def yX9_init : MethodName := ⟨RX9, "<init>", "(LKiteQuarrel$Input;)V"⟩
abbrev cX9_readFirst : ByteArray := prog_11_method_2_code
def yX9_readFirst : MethodName := ⟨RX9, "readFirst", "()V"⟩
abbrev cX9_readNext : ByteArray := prog_11_method_3_code
def yX9_readNext : MethodName := ⟨RX9, "readNext", "()V"⟩
abbrev cX9_kindOf : ByteArray := prog_11_method_4_code
def yX9_kindOf : MethodName := ⟨RX9, "kindOf", "(B)I"⟩
abbrev cX9_isNumber : ByteArray := prog_11_method_5_code
def yX9_isNumber : MethodName := ⟨RX9, "isNumber", "()Z"⟩
abbrev cX9_value : ByteArray := prog_11_method_6_code
def yX9_value : MethodName := ⟨RX9, "value", "()I"⟩
abbrev cX9_isWord : ByteArray := prog_11_method_7_code
def yX9_isWord : MethodName := ⟨RX9, "isWord", "(Ljava/lang/String;)Z"⟩
def RX10 : String := "KiteQuarrel$Wind"
def TX10 : u_T := fun k => match k with
  | 0 => ("KiteQuarrel$Wind", "lowest", "I", false)
  | 1 => ("KiteQuarrel$Wind", "x", "I", false)
  | _ => ("KiteQuarrel$Wind", "y", "I", false)
def tyX10 : Nat → FieldType := fun k => match k with
  | 0 => .int
  | 1 => .int
  | _ => .int
abbrev wsX100 : List Cond := u_ws RX10 TX10 3
theorem nmX10 : ∀ a, a < 3 → ∀ b, b < 3 → a ≠ b → (TX10 a).2.1 ≠ (TX10 b).2.1 := by decide +kernel
theorem tyX10_ok : ∀ k, k < 3 → parseFieldDescriptor (TX10 k).2.2.1 = some (tyX10 k) := by decide +kernel
abbrev cX10_init : ByteArray := prog_12_method_1_code
def yX10_init : MethodName := ⟨RX10, "<init>", "()V"⟩
abbrev cX10_copyFrom : ByteArray := prog_12_method_2_code
def yX10_copyFrom : MethodName := ⟨RX10, "copyFrom", "(LKiteQuarrel$Wind;)V"⟩
abbrev cX10_become : ByteArray := prog_12_method_3_code
def yX10_become : MethodName := ⟨RX10, "become", "(III)V"⟩
abbrev cX10_force : ByteArray := prog_12_method_4_code
def yX10_force : MethodName := ⟨RX10, "force", "()I"⟩
def RX11 : String := "KiteQuarrel"
def TX11 : u_T := fun k => match k with
  | 0 => ("KiteQuarrel", "input", "LKiteQuarrel$Input;", true)
  | 1 => ("KiteQuarrel", "output", "LKiteQuarrel$Output;", true)
  | 2 => ("KiteQuarrel", "setup", "LKiteQuarrel$Setup;", true)
  | 3 => ("KiteQuarrel", "names", "LKiteQuarrel$Names;", true)
  | 4 => ("KiteQuarrel", "field", "LKiteQuarrel$Field;", true)
  | 5 => ("KiteQuarrel", "forecast", "LKiteQuarrel$Field;", true)
  | 6 => ("KiteQuarrel", "saved", "LKiteQuarrel$Field;", true)
  | 7 => ("KiteQuarrel", "history", "LKiteQuarrel$History;", true)
  | 8 => ("KiteQuarrel", "isSaved", "Z", false)
  | 9 => ("KiteQuarrel", "latestCode", "I", false)
  | _ => ("KiteQuarrel", "latestOffset", "I", false)
def tyX11 : Nat → FieldType := fun k => match k with
  | 0 => .object "KiteQuarrel$Input"
  | 1 => .object "KiteQuarrel$Output"
  | 2 => .object "KiteQuarrel$Setup"
  | 3 => .object "KiteQuarrel$Names"
  | 4 => .object "KiteQuarrel$Field"
  | 5 => .object "KiteQuarrel$Field"
  | 6 => .object "KiteQuarrel$Field"
  | 7 => .object "KiteQuarrel$History"
  | 8 => .boolean
  | 9 => .int
  | _ => .int
abbrev wsX110 : List Cond := u_ws RX11 TX11 11
theorem nmX11 : ∀ a, a < 11 → ∀ b, b < 11 → a ≠ b → (TX11 a).2.1 ≠ (TX11 b).2.1 := by decide +kernel
theorem tyX11_ok : ∀ k, k < 11 → parseFieldDescriptor (TX11 k).2.2.1 = some (tyX11 k) := by decide +kernel
abbrev cX11_init : ByteArray := prog_1_method_1_code
def yX11_init : MethodName := ⟨RX11, "<init>", "()V"⟩
abbrev cX11_feed : ByteArray := prog_1_method_2_code
def yX11_feed : MethodName := ⟨RX11, "feed", "(IIIII)I"⟩
abbrev cX11_truncate : ByteArray := prog_1_method_3_code
def yX11_truncate : MethodName := ⟨RX11, "truncate", "(I)Z"⟩
abbrev cX11_parse : ByteArray := prog_1_method_4_code
def yX11_parse : MethodName := ⟨RX11, "parse", "()I"⟩
abbrev cX11_count : ByteArray := prog_1_method_7_code
def yX11_count : MethodName := ⟨RX11, "count", "(I)I"⟩
abbrev cX11_setting : ByteArray := prog_1_method_8_code
def yX11_setting : MethodName := ⟨RX11, "setting", "(I)I"⟩
abbrev cX11_kite : ByteArray := prog_1_method_10_code
def yX11_kite : MethodName := ⟨RX11, "kite", "(II)I"⟩
abbrev cX11_span : ByteArray := prog_1_method_13_code
def yX11_span : MethodName := ⟨RX11, "span", "(I)I"⟩
abbrev cX11_slack : ByteArray := prog_1_method_14_code
def yX11_slack : MethodName := ⟨RX11, "slack", "(I)I"⟩
abbrev cX11_crosses : ByteArray := prog_1_method_15_code
def yX11_crosses : MethodName := ⟨RX11, "crosses", "(II)Z"⟩
abbrev cX11_crossing : ByteArray := prog_1_method_16_code
def yX11_crossing : MethodName := ⟨RX11, "crossing", "(III)I"⟩
abbrev cX11_rubs : ByteArray := prog_1_method_17_code
def yX11_rubs : MethodName := ⟨RX11, "rubs", "(I)I"⟩
abbrev cX11_wearNow : ByteArray := prog_1_method_18_code
def yX11_wearNow : MethodName := ⟨RX11, "wearNow", "(I)I"⟩
abbrev cX11_highest : ByteArray := prog_1_method_20_code
def yX11_highest : MethodName := ⟨RX11, "highest", "()I"⟩
abbrev cX11_gap : ByteArray := prog_1_method_24_code
def yX11_gap : MethodName := ⟨RX11, "gap", "(II)I"⟩
abbrev cX11_threat : ByteArray := prog_1_method_27_code
def yX11_threat : MethodName := ⟨RX11, "threat", "(I)I"⟩
abbrev cX11_sum : ByteArray := prog_1_method_28_code
def yX11_sum : MethodName := ⟨RX11, "sum", "(I)I"⟩
abbrev cX11_inBox : ByteArray := prog_1_method_30_code
def yX11_inBox : MethodName := ⟨RX11, "inBox", "(IIII)I"⟩
abbrev cX11_kiteIn : ByteArray := prog_1_method_34_code
def yX11_kiteIn : MethodName := ⟨RX11, "kiteIn", "(III)I"⟩
abbrev cX11_cutsIn : ByteArray := prog_1_method_37_code
def yX11_cutsIn : MethodName := ⟨RX11, "cutsIn", "(I)I"⟩
abbrev cX11_landsIn : ByteArray := prog_1_method_38_code
def yX11_landsIn : MethodName := ⟨RX11, "landsIn", "(II)I"⟩
abbrev cX11_bestReel : ByteArray := prog_1_method_41_code
def yX11_bestReel : MethodName := ⟨RX11, "bestReel", "(II)I"⟩
abbrev cX11_run : ByteArray := prog_1_method_43_code
def yX11_run : MethodName := ⟨RX11, "run", "(I)I"⟩
abbrev cX11_launch : ByteArray := prog_1_method_44_code
def yX11_launch : MethodName := ⟨RX11, "launch", "(I)I"⟩
abbrev cX11_reel : ByteArray := prog_1_method_45_code
def yX11_reel : MethodName := ⟨RX11, "reel", "(II)I"⟩
abbrev cX11_letGo : ByteArray := prog_1_method_46_code
def yX11_letGo : MethodName := ⟨RX11, "letGo", "(I)I"⟩
abbrev cX11_pull : ByteArray := prog_1_method_47_code
def yX11_pull : MethodName := ⟨RX11, "pull", "(II)I"⟩
abbrev cX11_walk : ByteArray := prog_1_method_48_code
def yX11_walk : MethodName := ⟨RX11, "walk", "(III)I"⟩
abbrev cX11_setWind : ByteArray := prog_1_method_50_code
def yX11_setWind : MethodName := ⟨RX11, "setWind", "(III)I"⟩
abbrev cX11_undo : ByteArray := prog_1_method_52_code
def yX11_undo : MethodName := ⟨RX11, "undo", "()I"⟩
abbrev cX11_saveState : ByteArray := prog_1_method_57_code
def yX11_saveState : MethodName := ⟨RX11, "saveState", "()I"⟩
abbrev cX11_restoreState : ByteArray := prog_1_method_58_code
def yX11_restoreState : MethodName := ⟨RX11, "restoreState", "()I"⟩
abbrev cX11_checkKite : ByteArray := prog_1_method_59_code
def yX11_checkKite : MethodName := ⟨RX11, "checkKite", "(I)V"⟩
abbrev cX11_checkWind : ByteArray := prog_1_method_60_code
def yX11_checkWind : MethodName := ⟨RX11, "checkWind", "(I)V"⟩
abbrev cX11_checkRange : ByteArray := prog_1_method_61_code
def yX11_checkRange : MethodName := ⟨RX11, "checkRange", "(III)V"⟩
abbrev cX11_checkState : ByteArray := prog_1_method_62_code
def yX11_checkState : MethodName := ⟨RX11, "checkState", "(Z)V"⟩
abbrev cX11_reelFor : ByteArray := prog_1_method_63_code
def yX11_reelFor : MethodName := ⟨RX11, "reelFor", "(IIII)I"⟩
abbrev cX11_isIn : ByteArray := prog_1_method_66_code
def yX11_isIn : MethodName := ⟨RX11, "isIn", "(III)Z"⟩
abbrev cX11_bounded : ByteArray := prog_1_method_67_code
def yX11_bounded : MethodName := ⟨RX11, "bounded", "(III)I"⟩
def RX12 : String := "KiteQuarrelModel"
def TX12 : u_T := fun k => match k with
  | _ => ("", "", "", false)
def tyX12 : Nat → FieldType := fun k => match k with
  | _ => .int
abbrev wsX120 : List Cond := u_ws RX12 TX12 0
theorem nmX12 : ∀ a, a < 0 → ∀ b, b < 0 → a ≠ b → (TX12 a).2.1 ≠ (TX12 b).2.1 := by decide +kernel
theorem tyX12_ok : ∀ k, k < 0 → parseFieldDescriptor (TX12 k).2.2.1 = some (tyX12 k) := by decide +kernel
def RJ5 : String := "java/lang/AbstractStringBuilder"
def TJ5 : u_T := fun k => match k with
  | _ => ("", "", "", false)
def tyJ5 : Nat → FieldType := fun k => match k with
  | _ => .int
abbrev wsJ50 : List Cond := u_ws RJ5 TJ5 0
theorem nmJ5 : ∀ a, a < 0 → ∀ b, b < 0 → a ≠ b → (TJ5 a).2.1 ≠ (TJ5 b).2.1 := by decide +kernel
theorem tyJ5_ok : ∀ k, k < 0 → parseFieldDescriptor (TJ5 k).2.2.1 = some (tyJ5 k) := by decide +kernel
abbrev cJ5_init_a7421 : ByteArray := prog_15_method_3_code
def yJ5_init_a7421 : MethodName := ⟨RJ5, "<init>", "(Ljava/lang/String;)V"⟩
abbrev cJ5_length_8abf5 : ByteArray := prog_15_method_6_code
def yJ5_length_8abf5 : MethodName := ⟨RJ5, "length", "()I"⟩
abbrev cJ5_ensureCapacityInternal_d00df : ByteArray := prog_15_method_9_code
def yJ5_ensureCapacityInternal_d00df : MethodName := ⟨RJ5, "ensureCapacityInternal", "(I)V"⟩
abbrev cJ5_newCapacity_0f7a4 : ByteArray := prog_15_method_10_code
def yJ5_newCapacity_0f7a4 : MethodName := ⟨RJ5, "newCapacity", "(I)I"⟩
abbrev cJ5_inflate_da8c8 : ByteArray := prog_15_method_11_code
def yJ5_inflate_da8c8 : MethodName := ⟨RJ5, "inflate", "()V"⟩
abbrev cJ5_append_cf1ce : ByteArray := prog_15_method_22_code
def yJ5_append_cf1ce : MethodName := ⟨RJ5, "append", "(Ljava/lang/String;)Ljava/lang/AbstractStringBuilder;"⟩
abbrev cJ5_appendNull_278bc : ByteArray := prog_15_method_26_code
def yJ5_appendNull_278bc : MethodName := ⟨RJ5, "appendNull", "()Ljava/lang/AbstractStringBuilder;"⟩
abbrev cJ5_append_3fe6f : ByteArray := prog_15_method_31_code
def yJ5_append_3fe6f : MethodName := ⟨RJ5, "append", "(C)Ljava/lang/AbstractStringBuilder;"⟩
abbrev cJ5_append_c97b9 : ByteArray := prog_15_method_32_code
def yJ5_append_c97b9 : MethodName := ⟨RJ5, "append", "(I)Ljava/lang/AbstractStringBuilder;"⟩
abbrev cJ5_getValue_6d5f1 : ByteArray := prog_15_method_64_code
def yJ5_getValue_6d5f1 : MethodName := ⟨RJ5, "getValue", "()[B"⟩
abbrev cJ5_isLatin1_aae02 : ByteArray := prog_15_method_68_code
def yJ5_isLatin1_aae02 : MethodName := ⟨RJ5, "isLatin1", "()Z"⟩
abbrev cJ5_inflateIfNeededFor_a7421 : ByteArray := prog_15_method_71_code
def yJ5_inflateIfNeededFor_a7421 : MethodName := ⟨RJ5, "inflateIfNeededFor", "(Ljava/lang/String;)V"⟩
abbrev cJ5_putStringAt_47b60 : ByteArray := prog_15_method_73_code
def yJ5_putStringAt_47b60 : MethodName := ⟨RJ5, "putStringAt", "(ILjava/lang/String;)V"⟩
def RJx8e188 : String := "java/lang/Cloneable"
def TJx8e188 : u_T := fun k => match k with
  | _ => ("", "", "", false)
def tyJx8e188 : Nat → FieldType := fun k => match k with
  | _ => .int
abbrev wsJx8e1880 : List Cond := u_ws RJx8e188 TJx8e188 0
theorem nmJx8e188 : ∀ a, a < 0 → ∀ b, b < 0 → a ≠ b → (TJx8e188 a).2.1 ≠ (TJx8e188 b).2.1 := by decide +kernel
theorem tyJx8e188_ok : ∀ k, k < 0 → parseFieldDescriptor (TJx8e188 k).2.2.1 = some (tyJx8e188 k) := by decide +kernel
def RJ6 : String := "java/lang/Integer"
def TJ6 : u_T := fun k => match k with
  | _ => ("", "", "", false)
def tyJ6 : Nat → FieldType := fun k => match k with
  | _ => .int
abbrev wsJ60 : List Cond := u_ws RJ6 TJ6 0
theorem nmJ6 : ∀ a, a < 0 → ∀ b, b < 0 → a ≠ b → (TJ6 a).2.1 ≠ (TJ6 b).2.1 := by decide +kernel
theorem tyJ6_ok : ∀ k, k < 0 → parseFieldDescriptor (TJ6 k).2.2.1 = some (tyJ6 k) := by decide +kernel
abbrev cJ6_getChars_ba4f3 : ByteArray := prog_21_method_12_code
def yJ6_getChars_ba4f3 : MethodName := ⟨RJ6, "getChars", "(II[B)I"⟩
abbrev cJ6_stringSize_0f7a4 : ByteArray := prog_21_method_13_code
def yJ6_stringSize_0f7a4 : MethodName := ⟨RJ6, "stringSize", "(I)I"⟩
def RJ9 : String := "java/lang/Math"
def TJ9 : u_T := fun k => match k with
  | _ => ("", "", "", false)
def tyJ9 : Nat → FieldType := fun k => match k with
  | _ => .int
abbrev wsJ90 : List Cond := u_ws RJ9 TJ9 0
theorem nmJ9 : ∀ a, a < 0 → ∀ b, b < 0 → a ≠ b → (TJ9 a).2.1 ≠ (TJ9 b).2.1 := by decide +kernel
theorem tyJ9_ok : ∀ k, k < 0 → parseFieldDescriptor (TJ9 k).2.2.1 = some (tyJ9 k) := by decide +kernel
abbrev cJ9_floorDiv_7cf53 : ByteArray := prog_22_method_47_code
def yJ9_floorDiv_7cf53 : MethodName := ⟨RJ9, "floorDiv", "(II)I"⟩
abbrev cJ9_abs_0f7a4 : ByteArray := prog_22_method_59_code
def yJ9_abs_0f7a4 : MethodName := ⟨RJ9, "abs", "(I)I"⟩
abbrev cJ9_max_7cf53 : ByteArray := prog_22_method_65_code
def yJ9_max_7cf53 : MethodName := ⟨RJ9, "max", "(II)I"⟩
abbrev cJ9_min_7cf53 : ByteArray := prog_22_method_69_code
def yJ9_min_7cf53 : MethodName := ⟨RJ9, "min", "(II)I"⟩
def RJ0 : String := "java/lang/String"
def TJ0 : u_T := fun k => match k with
  | 0 => ("java/lang/String", "value", "[B", true)
  | 1 => ("java/lang/String", "coder", "B", true)
  | 2 => ("java/lang/String", "hash", "I", false)
  | _ => ("java/lang/String", "hashIsZero", "Z", false)
def tyJ0 : Nat → FieldType := fun k => match k with
  | 0 => .array .byte
  | 1 => .byte
  | 2 => .int
  | _ => .boolean
abbrev wsJ00 : List Cond := u_ws RJ0 TJ0 4
theorem nmJ0 : ∀ a, a < 4 → ∀ b, b < 4 → a ≠ b → (TJ0 a).2.1 ≠ (TJ0 b).2.1 := by decide +kernel
theorem tyJ0_ok : ∀ k, k < 4 → parseFieldDescriptor (TJ0 k).2.2.1 = some (tyJ0 k) := by decide +kernel
abbrev cJ0_init_81219 : ByteArray := prog_24_method_53_code
def yJ0_init_81219 : MethodName := ⟨RJ0, "<init>", "(Ljava/lang/StringBuilder;)V"⟩
abbrev cJ0_length_8abf5 : ByteArray := prog_24_method_54_code
def yJ0_length_8abf5 : MethodName := ⟨RJ0, "length", "()I"⟩
abbrev cJ0_charAt_5068e : ByteArray := prog_24_method_56_code
def yJ0_charAt_5068e : MethodName := ⟨RJ0, "charAt", "(I)C"⟩
abbrev cJ0_getBytes_840e7 : ByteArray := prog_24_method_147_code
def yJ0_getBytes_840e7 : MethodName := ⟨RJ0, "getBytes", "([BIB)V"⟩
abbrev cJ0_init_db425 : ByteArray := prog_24_method_150_code
def yJ0_init_db425 : MethodName := ⟨RJ0, "<init>", "(Ljava/lang/AbstractStringBuilder;Ljava/lang/Void;)V"⟩
abbrev cJ0_coder_7d493 : ByteArray := prog_24_method_152_code
def yJ0_coder_7d493 : MethodName := ⟨RJ0, "coder", "()B"⟩
abbrev cJ0_isLatin1_aae02 : ByteArray := prog_24_method_154_code
def yJ0_isLatin1_aae02 : MethodName := ⟨RJ0, "isLatin1", "()Z"⟩
abbrev cJ0_checkIndex_df160 : ByteArray := prog_24_method_155_code
def yJ0_checkIndex_df160 : MethodName := ⟨RJ0, "checkIndex", "(II)V"⟩
abbrev cJ0_checkBoundsOffCount_cabcc : ByteArray := prog_24_method_157_code
def yJ0_checkBoundsOffCount_cabcc : MethodName := ⟨RJ0, "checkBoundsOffCount", "(III)I"⟩
abbrev cJ0_checkBoundsBeginEnd_23922 : ByteArray := prog_24_method_158_code
def yJ0_checkBoundsBeginEnd_23922 : MethodName := ⟨RJ0, "checkBoundsBeginEnd", "(III)V"⟩
def RJ4 : String := "java/lang/StringBuilder"
def TJ4 : u_T := fun k => match k with
  | 0 => ("java/lang/AbstractStringBuilder", "value", "[B", false)
  | 1 => ("java/lang/AbstractStringBuilder", "coder", "B", false)
  | 2 => ("java/lang/AbstractStringBuilder", "maybeLatin1", "Z", false)
  | _ => ("java/lang/AbstractStringBuilder", "count", "I", false)
def tyJ4 : Nat → FieldType := fun k => match k with
  | 0 => .array .byte
  | 1 => .byte
  | 2 => .boolean
  | _ => .int
abbrev wsJ40 : List Cond := u_ws RJ4 TJ4 4
theorem nmJ4 : ∀ a, a < 4 → ∀ b, b < 4 → a ≠ b → (TJ4 a).2.1 ≠ (TJ4 b).2.1 := by decide +kernel
theorem tyJ4_ok : ∀ k, k < 4 → parseFieldDescriptor (TJ4 k).2.2.1 = some (tyJ4 k) := by decide +kernel
abbrev cJ4_init_a7421 : ByteArray := prog_25_method_3_code
def yJ4_init_a7421 : MethodName := ⟨RJ4, "<init>", "(Ljava/lang/String;)V"⟩
abbrev cJ4_append_15ec4 : ByteArray := prog_25_method_7_code
def yJ4_append_15ec4 : MethodName := ⟨RJ4, "append", "(Ljava/lang/String;)Ljava/lang/StringBuilder;"⟩
abbrev cJ4_append_cf468 : ByteArray := prog_25_method_14_code
def yJ4_append_cf468 : MethodName := ⟨RJ4, "append", "(C)Ljava/lang/StringBuilder;"⟩
abbrev cJ4_append_bf812 : ByteArray := prog_25_method_15_code
def yJ4_append_bf812 : MethodName := ⟨RJ4, "append", "(I)Ljava/lang/StringBuilder;"⟩
abbrev cJ4_toString_0e30d : ByteArray := prog_25_method_42_code
def yJ4_toString_0e30d : MethodName := ⟨RJ4, "toString", "()Ljava/lang/String;"⟩
abbrev cJ4_append_cf1ce : ByteArray := prog_25_method_80_code
def yJ4_append_cf1ce : MethodName := ⟨RJ4, "append", "(Ljava/lang/String;)Ljava/lang/AbstractStringBuilder;"⟩
abbrev cJ4_length_8abf5 : ByteArray := prog_25_method_93_code
def yJ4_length_8abf5 : MethodName := ⟨RJ4, "length", "()I"⟩
def RJ1 : String := "java/lang/StringLatin1"
def TJ1 : u_T := fun k => match k with
  | _ => ("", "", "", false)
def tyJ1 : Nat → FieldType := fun k => match k with
  | _ => .int
abbrev wsJ10 : List Cond := u_ws RJ1 TJ1 0
theorem nmJ1 : ∀ a, a < 0 → ∀ b, b < 0 → a ≠ b → (TJ1 a).2.1 ≠ (TJ1 b).2.1 := by decide +kernel
theorem tyJ1_ok : ∀ k, k < 0 → parseFieldDescriptor (TJ1 k).2.2.1 = some (tyJ1 k) := by decide +kernel
abbrev cJ1_charAt_3b067 : ByteArray := prog_26_method_2_code
def yJ1_charAt_3b067 : MethodName := ⟨RJ1, "charAt", "([BI)C"⟩
abbrev cJ1_canEncode_fc78d : ByteArray := prog_26_method_3_code
def yJ1_canEncode_fc78d : MethodName := ⟨RJ1, "canEncode", "(C)Z"⟩
abbrev cJ1_inflate_0e8fd : ByteArray := prog_26_method_50_code
def yJ1_inflate_0e8fd : MethodName := ⟨RJ1, "inflate", "([BI[BII)V"⟩
def RJ2 : String := "java/lang/StringUTF16"
def TJ2 : u_T := fun k => match k with
  | _ => ("", "", "", false)
def tyJ2 : Nat → FieldType := fun k => match k with
  | _ => .int
abbrev wsJ20 : List Cond := u_ws RJ2 TJ2 0
theorem nmJ2 : ∀ a, a < 0 → ∀ b, b < 0 → a ≠ b → (TJ2 a).2.1 ≠ (TJ2 b).2.1 := by decide +kernel
theorem tyJ2_ok : ∀ k, k < 0 → parseFieldDescriptor (TJ2 k).2.2.1 = some (tyJ2 k) := by decide +kernel
abbrev cJ2_newBytesFor_77867 : ByteArray := prog_27_method_2_code
def yJ2_newBytesFor_77867 : MethodName := ⟨RJ2, "newBytesFor", "(I)[B"⟩
abbrev cJ2_newBytesLength_0f7a4 : ByteArray := prog_27_method_3_code
def yJ2_newBytesLength_0f7a4 : MethodName := ⟨RJ2, "newBytesLength", "(I)I"⟩
abbrev cJ2_putChar_b72d1 : ByteArray := prog_27_method_4_code
def yJ2_putChar_b72d1 : MethodName := ⟨RJ2, "putChar", "([BII)V"⟩
abbrev cJ2_getChar_3b067 : ByteArray := prog_27_method_5_code
def yJ2_getChar_3b067 : MethodName := ⟨RJ2, "getChar", "([BI)C"⟩
abbrev cJ2_length_9d52b : ByteArray := prog_27_method_6_code
def yJ2_length_9d52b : MethodName := ⟨RJ2, "length", "([B)I"⟩
abbrev cJ2_coderFromArrayLen_85cad : ByteArray := prog_27_method_15_code
def yJ2_coderFromArrayLen_85cad : MethodName := ⟨RJ2, "coderFromArrayLen", "([BI)B"⟩
abbrev cJ2_compress_39247 : ByteArray := prog_27_method_17_code
def yJ2_compress_39247 : MethodName := ⟨RJ2, "compress", "([BII)[B"⟩
abbrev cJ2_compress_5af95 : ByteArray := prog_27_method_22_code
def yJ2_compress_5af95 : MethodName := ⟨RJ2, "compress", "([BI[BII)I"⟩
abbrev cJ2_putCharSB_b72d1 : ByteArray := prog_27_method_71_code
def yJ2_putCharSB_b72d1 : MethodName := ⟨RJ2, "putCharSB", "([BII)V"⟩
abbrev cJ2_getChars_46870 : ByteArray := prog_27_method_77_code
def yJ2_getChars_46870 : MethodName := ⟨RJ2, "getChars", "(III[B)I"⟩
abbrev cJ2_putCharsAt_cd4e5 : ByteArray := prog_27_method_81_code
def yJ2_putCharsAt_cd4e5 : MethodName := ⟨RJ2, "putCharsAt", "([BICCCC)I"⟩
abbrev cJ2_charAt_3b067 : ByteArray := prog_27_method_83_code
def yJ2_charAt_3b067 : MethodName := ⟨RJ2, "charAt", "([BI)C"⟩
abbrev cJ2_inflate_0e8fd : ByteArray := prog_27_method_86_code
def yJ2_inflate_0e8fd : MethodName := ⟨RJ2, "inflate", "([BI[BII)V"⟩
abbrev cJ2_getChars_ba4f3 : ByteArray := prog_27_method_89_code
def yJ2_getChars_ba4f3 : MethodName := ⟨RJ2, "getChars", "(II[B)I"⟩
abbrev cJ2_checkIndex_2214a : ByteArray := prog_27_method_91_code
def yJ2_checkIndex_2214a : MethodName := ⟨RJ2, "checkIndex", "(I[B)V"⟩
abbrev cJ2_checkBoundsBeginEnd_d044e : ByteArray := prog_27_method_93_code
def yJ2_checkBoundsBeginEnd_d044e : MethodName := ⟨RJ2, "checkBoundsBeginEnd", "(II[B)V"⟩
abbrev cJ2_checkBoundsOffCount_d044e : ByteArray := prog_27_method_94_code
def yJ2_checkBoundsOffCount_d044e : MethodName := ⟨RJ2, "checkBoundsOffCount", "(II[B)V"⟩
def RJ10 : String := "java/lang/System"
def TJ10 : u_T := fun k => match k with
  | _ => ("", "", "", false)
def tyJ10 : Nat → FieldType := fun k => match k with
  | _ => .int
abbrev wsJ100 : List Cond := u_ws RJ10 TJ10 0
theorem nmJ10 : ∀ a, a < 0 → ∀ b, b < 0 → a ≠ b → (TJ10 a).2.1 ≠ (TJ10 b).2.1 := by decide +kernel
theorem tyJ10_ok : ∀ k, k < 0 → parseFieldDescriptor (TJ10 k).2.2.1 = some (tyJ10 k) := by decide +kernel
def RJ7 : String := "java/util/Arrays"
def TJ7 : u_T := fun k => match k with
  | _ => ("", "", "", false)
def tyJ7 : Nat → FieldType := fun k => match k with
  | _ => .int
abbrev wsJ70 : List Cond := u_ws RJ7 TJ7 0
theorem nmJ7 : ∀ a, a < 0 → ∀ b, b < 0 → a ≠ b → (TJ7 a).2.1 ≠ (TJ7 b).2.1 := by decide +kernel
theorem tyJ7_ok : ∀ k, k < 0 → parseFieldDescriptor (TJ7 k).2.2.1 = some (tyJ7 k) := by decide +kernel
abbrev cJ7_copyOf_9075b : ByteArray := prog_30_method_121_code
def yJ7_copyOf_9075b : MethodName := ⟨RJ7, "copyOf", "([BI)[B"⟩
abbrev cJ7_checkLength_df160 : ByteArray := prog_30_method_131_code
def yJ7_checkLength_df160 : MethodName := ⟨RJ7, "checkLength", "(II)V"⟩
abbrev cJ7_copyOfRange_39247 : ByteArray := prog_30_method_132_code
def yJ7_copyOfRange_39247 : MethodName := ⟨RJ7, "copyOfRange", "([BII)[B"⟩
abbrev cJ7_copyOfRangeByte_39247 : ByteArray := prog_30_method_133_code
def yJ7_copyOfRangeByte_39247 : MethodName := ⟨RJ7, "copyOfRangeByte", "([BII)[B"⟩
def RJ8 : String := "jdk/internal/util/ArraysSupport"
def TJ8 : u_T := fun k => match k with
  | _ => ("", "", "", false)
def tyJ8 : Nat → FieldType := fun k => match k with
  | _ => .int
abbrev wsJ80 : List Cond := u_ws RJ8 TJ8 0
theorem nmJ8 : ∀ a, a < 0 → ∀ b, b < 0 → a ≠ b → (TJ8 a).2.1 ≠ (TJ8 b).2.1 := by decide +kernel
theorem tyJ8_ok : ∀ k, k < 0 → parseFieldDescriptor (TJ8 k).2.2.1 = some (tyJ8 k) := by decide +kernel
abbrev cJ8_newLength_cabcc : ByteArray := prog_31_method_27_code
def yJ8_newLength_cabcc : MethodName := ⟨RJ8, "newLength", "(III)I"⟩
abbrev cJ8_hugeLength_7cf53 : ByteArray := prog_31_method_28_code
def yJ8_hugeLength_7cf53 : MethodName := ⟨RJ8, "hugeLength", "(II)I"⟩
def RJ3 : String := "jdk/internal/util/Preconditions"
def TJ3 : u_T := fun k => match k with
  | _ => ("", "", "", false)
def tyJ3 : Nat → FieldType := fun k => match k with
  | _ => .int
abbrev wsJ30 : List Cond := u_ws RJ3 TJ3 0
theorem nmJ3 : ∀ a, a < 0 → ∀ b, b < 0 → a ≠ b → (TJ3 a).2.1 ≠ (TJ3 b).2.1 := by decide +kernel
theorem tyJ3_ok : ∀ k, k < 0 → parseFieldDescriptor (TJ3 k).2.2.1 = some (tyJ3 k) := by decide +kernel
abbrev cJ3_checkIndex_8e157 : ByteArray := prog_32_method_11_code
def yJ3_checkIndex_8e157 : MethodName := ⟨RJ3, "checkIndex", "(IILjava/util/function/BiFunction;)I"⟩
abbrev cJ3_checkFromToIndex_8c36e : ByteArray := prog_32_method_12_code
def yJ3_checkFromToIndex_8c36e : MethodName := ⟨RJ3, "checkFromToIndex", "(IIILjava/util/function/BiFunction;)I"⟩
abbrev cJ3_checkFromIndexSize_8c36e : ByteArray := prog_32_method_13_code
def yJ3_checkFromIndexSize_8c36e : MethodName := ⟨RJ3, "checkFromIndexSize", "(IIILjava/util/function/BiFunction;)I"⟩
def RL : String := "KiteQuarrelLaw"
abbrev cL_cell : ByteArray := method_2_code
def yL_cell : MethodName := ⟨RL, "cell", "([II)I"⟩
abbrev cL_draw : ByteArray := method_3_code
def yL_draw : MethodName := ⟨RL, "draw", "([IIII)I"⟩
abbrev cL_fed : ByteArray := method_4_code
def yL_fed : MethodName := ⟨RL, "fed", "(LKiteQuarrel;Ljava/lang/String;)V"⟩
abbrev cL_parsed : ByteArray := method_5_code
def yL_parsed : MethodName := ⟨RL, "parsed", "(LKiteQuarrel;Ljava/lang/String;)I"⟩
abbrev cL_setup : ByteArray := method_6_code
def yL_setup : MethodName := ⟨RL, "setup", "([II)Ljava/lang/String;"⟩
abbrev cL_isSound : ByteArray := method_7_code
def yL_isSound : MethodName := ⟨RL, "isSound", "(LKiteQuarrel;Z)Z"⟩
abbrev cL_acts : ByteArray := method_8_code
def yL_acts : MethodName := ⟨RL, "acts", "(LKiteQuarrel;[III)V"⟩
abbrev cL_law : ByteArray := code
def yL_law : MethodName := ⟨RL, "law", "([I)Z"⟩
abbrev vwCl : List vw_C := [(RX0, TX0, 4), (RX1, TX1, 6), (RX2, TX2, 11), (RX3, TX3, 3), (RX4, TX4, 2), (RX5, TX5, 16), (RX6, TX6, 3), (RX7, TX7, 2), (RX8, TX8, 7), (RX9, TX9, 4), (RX10, TX10, 3), (RX11, TX11, 11), (RJ4, TJ4, 4), (RJ0, TJ0, 4)]
