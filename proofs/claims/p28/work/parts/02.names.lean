def RX0 : String := "HourClock$Elements"
def TX0 : u_T := fun k => match k with
  | 0 => ("HourClock$Elements", "count", "I", false)
  | 1 => ("HourClock$Elements", "length", "[I", true)
  | 2 => ("HourClock$Elements", "time", "[I", true)
  | 3 => ("HourClock$Elements", "rank", "[I", true)
  | 4 => ("HourClock$Elements", "state", "[I", true)
  | _ => ("HourClock$Elements", "begun", "[I", true)
def tyX0 : Nat → FieldType := fun k => match k with
  | 0 => .int
  | 1 => .array .int
  | 2 => .array .int
  | 3 => .array .int
  | 4 => .array .int
  | _ => .array .int
abbrev wsX00 : List Cond := u_ws RX0 TX0 6
theorem nmX0 : ∀ a, a < 6 → ∀ b, b < 6 → a ≠ b → (TX0 a).2.1 ≠ (TX0 b).2.1 := by decide +kernel
theorem tyX0_ok : ∀ k, k < 6 → parseFieldDescriptor (TX0 k).2.2.1 = some (tyX0 k) := by decide +kernel
abbrev cX0_init : ByteArray := prog_2_method_1_code
def yX0_init : MethodName := ⟨RX0, "<init>", "()V"⟩
abbrev cX0_copyFrom : ByteArray := prog_2_method_2_code
def yX0_copyFrom : MethodName := ⟨RX0, "copyFrom", "(LHourClock$Elements;)V"⟩
abbrev cX0_add : ByteArray := prog_2_method_3_code
def yX0_add : MethodName := ⟨RX0, "add", "(III)V"⟩
abbrev cX0_allWait : ByteArray := prog_2_method_4_code
def yX0_allWait : MethodName := ⟨RX0, "allWait", "()V"⟩
abbrev cX0_has : ByteArray := prog_2_method_5_code
def yX0_has : MethodName := ⟨RX0, "has", "(I)Z"⟩
abbrev cX0_is : ByteArray := prog_2_method_6_code
def yX0_is : MethodName := ⟨RX0, "is", "(II)Z"⟩
abbrev cX0_waits : ByteArray := prog_2_method_7_code
def yX0_waits : MethodName := ⟨RX0, "waits", "(I)Z"⟩
abbrev cX0_isFixed : ByteArray := prog_2_method_8_code
def yX0_isFixed : MethodName := ⟨RX0, "isFixed", "(I)Z"⟩
abbrev cX0_begunAt : ByteArray := prog_2_method_9_code
def yX0_begunAt : MethodName := ⟨RX0, "begunAt", "(I)I"⟩
abbrev cX0_lateness : ByteArray := prog_2_method_10_code
def yX0_lateness : MethodName := ⟨RX0, "lateness", "(I)I"⟩
abbrev cX0_countThatAre : ByteArray := prog_2_method_11_code
def yX0_countThatAre : MethodName := ⟨RX0, "countThatAre", "(I)I"⟩
abbrev cX0_nextFixed : ByteArray := prog_2_method_12_code
def yX0_nextFixed : MethodName := ⟨RX0, "nextFixed", "(I)I"⟩
abbrev cX0_timeOrHourEnd : ByteArray := prog_2_method_13_code
def yX0_timeOrHourEnd : MethodName := ⟨RX0, "timeOrHourEnd", "(I)I"⟩
abbrev cX0_goal : ByteArray := prog_2_method_14_code
def yX0_goal : MethodName := ⟨RX0, "goal", "()I"⟩
abbrev cX0_inSection : ByteArray := prog_2_method_15_code
def yX0_inSection : MethodName := ⟨RX0, "inSection", "(I)Z"⟩
abbrev cX0_firstThatWaits : ByteArray := prog_2_method_16_code
def yX0_firstThatWaits : MethodName := ⟨RX0, "firstThatWaits", "()I"⟩
abbrev cX0_waitingLength : ByteArray := prog_2_method_17_code
def yX0_waitingLength : MethodName := ⟨RX0, "waitingLength", "(II)I"⟩
abbrev cX0_sectionLength : ByteArray := prog_2_method_18_code
def yX0_sectionLength : MethodName := ⟨RX0, "sectionLength", "()I"⟩
abbrev cX0_leastOfSection : ByteArray := prog_2_method_19_code
def yX0_leastOfSection : MethodName := ⟨RX0, "leastOfSection", "()I"⟩
abbrev cX0_latestBegin : ByteArray := prog_2_method_20_code
def yX0_latestBegin : MethodName := ⟨RX0, "latestBegin", "(I)I"⟩
abbrev cX0_tell : ByteArray := prog_2_method_21_code
def yX0_tell : MethodName := ⟨RX0, "tell", "(II)I"⟩
def RX1 : String := "HourClock$Fillers"
def TX1 : u_T := fun k => match k with
  | 0 => ("HourClock$Fillers", "count", "I", false)
  | 1 => ("HourClock$Fillers", "length", "[I", true)
  | 2 => ("HourClock$Fillers", "state", "[I", true)
  | 3 => ("HourClock$Fillers", "begun", "[I", true)
  | _ => ("HourClock$Fillers", "walk", "LHourClock$SetWalk;", true)
def tyX1 : Nat → FieldType := fun k => match k with
  | 0 => .int
  | 1 => .array .int
  | 2 => .array .int
  | 3 => .array .int
  | _ => .object "HourClock$SetWalk"
abbrev wsX10 : List Cond := u_ws RX1 TX1 5
theorem nmX1 : ∀ a, a < 5 → ∀ b, b < 5 → a ≠ b → (TX1 a).2.1 ≠ (TX1 b).2.1 := by decide +kernel
theorem tyX1_ok : ∀ k, k < 5 → parseFieldDescriptor (TX1 k).2.2.1 = some (tyX1 k) := by decide +kernel
abbrev cX1_init : ByteArray := prog_3_method_1_code
def yX1_init : MethodName := ⟨RX1, "<init>", "()V"⟩
abbrev cX1_copyFrom : ByteArray := prog_3_method_2_code
def yX1_copyFrom : MethodName := ⟨RX1, "copyFrom", "(LHourClock$Fillers;)V"⟩
abbrev cX1_add : ByteArray := prog_3_method_3_code
def yX1_add : MethodName := ⟨RX1, "add", "(I)V"⟩
abbrev cX1_allWait : ByteArray := prog_3_method_4_code
def yX1_allWait : MethodName := ⟨RX1, "allWait", "()V"⟩
abbrev cX1_has : ByteArray := prog_3_method_5_code
def yX1_has : MethodName := ⟨RX1, "has", "(I)Z"⟩
abbrev cX1_countThatWait : ByteArray := prog_3_method_6_code
def yX1_countThatWait : MethodName := ⟨RX1, "countThatWait", "()I"⟩
abbrev cX1_chooseFor : ByteArray := prog_3_method_7_code
def yX1_chooseFor : MethodName := ⟨RX1, "chooseFor", "(I)I"⟩
abbrev cX1_tell : ByteArray := prog_3_method_9_code
def yX1_tell : MethodName := ⟨RX1, "tell", "(II)I"⟩
def RX2 : String := "HourClock$Hour"
def TX2 : u_T := fun k => match k with
  | 0 => ("HourClock$Hour", "elements", "LHourClock$Elements;", true)
  | 1 => ("HourClock$Hour", "fillers", "LHourClock$Fillers;", true)
  | 2 => ("HourClock$Hour", "log", "LHourClock$Log;", true)
  | 3 => ("HourClock$Hour", "second", "I", false)
  | 4 => ("HourClock$Hour", "over", "Z", false)
  | 5 => ("HourClock$Hour", "silentSeconds", "I", false)
  | 6 => ("HourClock$Hour", "greatestLateness", "I", false)
  | 7 => ("HourClock$Hour", "hoursBegun", "I", false)
  | 8 => ("HourClock$Hour", "airKind", "I", false)
  | 9 => ("HourClock$Hour", "airNumber", "I", false)
  | _ => ("HourClock$Hour", "airEnd", "I", false)
def tyX2 : Nat → FieldType := fun k => match k with
  | 0 => .object "HourClock$Elements"
  | 1 => .object "HourClock$Fillers"
  | 2 => .object "HourClock$Log"
  | 3 => .int
  | 4 => .boolean
  | 5 => .int
  | 6 => .int
  | 7 => .int
  | 8 => .int
  | 9 => .int
  | _ => .int
abbrev wsX20 : List Cond := u_ws RX2 TX2 11
theorem nmX2 : ∀ a, a < 11 → ∀ b, b < 11 → a ≠ b → (TX2 a).2.1 ≠ (TX2 b).2.1 := by decide +kernel
theorem tyX2_ok : ∀ k, k < 11 → parseFieldDescriptor (TX2 k).2.2.1 = some (tyX2 k) := by decide +kernel
abbrev cX2_init : ByteArray := prog_4_method_1_code
def yX2_init : MethodName := ⟨RX2, "<init>", "()V"⟩
abbrev cX2_copyFrom : ByteArray := prog_4_method_2_code
def yX2_copyFrom : MethodName := ⟨RX2, "copyFrom", "(LHourClock$Hour;)V"⟩
abbrev cX2_beginAnew : ByteArray := prog_4_method_3_code
def yX2_beginAnew : MethodName := ⟨RX2, "beginAnew", "()V"⟩
abbrev cX2_clearAir : ByteArray := prog_4_method_5_code
def yX2_clearAir : MethodName := ⟨RX2, "clearAir", "()V"⟩
abbrev cX2_runTo : ByteArray := prog_4_method_6_code
def yX2_runTo : MethodName := ⟨RX2, "runTo", "(I)V"⟩
abbrev cX2_passAir : ByteArray := prog_4_method_7_code
def yX2_passAir : MethodName := ⟨RX2, "passAir", "(I)V"⟩
abbrev cX2_endAir : ByteArray := prog_4_method_8_code
def yX2_endAir : MethodName := ⟨RX2, "endAir", "()V"⟩
abbrev cX2_findNext : ByteArray := prog_4_method_9_code
def yX2_findNext : MethodName := ⟨RX2, "findNext", "()V"⟩
abbrev cX2_dropForTime : ByteArray := prog_4_method_10_code
def yX2_dropForTime : MethodName := ⟨RX2, "dropForTime", "()V"⟩
abbrev cX2_dropElement : ByteArray := prog_4_method_11_code
def yX2_dropElement : MethodName := ⟨RX2, "dropElement", "(I)V"⟩
abbrev cX2_fillGap : ByteArray := prog_4_method_12_code
def yX2_fillGap : MethodName := ⟨RX2, "fillGap", "(I)V"⟩
abbrev cX2_beginElement : ByteArray := prog_4_method_13_code
def yX2_beginElement : MethodName := ⟨RX2, "beginElement", "(I)V"⟩
abbrev cX2_putOnAir : ByteArray := prog_4_method_14_code
def yX2_putOnAir : MethodName := ⟨RX2, "putOnAir", "(III)V"⟩
abbrev cX2_canHaveLength : ByteArray := prog_4_method_15_code
def yX2_canHaveLength : MethodName := ⟨RX2, "canHaveLength", "(II)Z"⟩
abbrev cX2_giveLength : ByteArray := prog_4_method_16_code
def yX2_giveLength : MethodName := ⟨RX2, "giveLength", "(II)V"⟩
abbrev cX2_tell : ByteArray := prog_4_method_17_code
def yX2_tell : MethodName := ⟨RX2, "tell", "(I)I"⟩
def RX3 : String := "HourClock$Log"
def TX3 : u_T := fun k => match k with
  | 0 => ("HourClock$Log", "count", "I", false)
  | 1 => ("HourClock$Log", "second", "[I", true)
  | 2 => ("HourClock$Log", "kind", "[I", true)
  | _ => ("HourClock$Log", "number", "[I", true)
def tyX3 : Nat → FieldType := fun k => match k with
  | 0 => .int
  | 1 => .array .int
  | 2 => .array .int
  | _ => .array .int
abbrev wsX30 : List Cond := u_ws RX3 TX3 4
theorem nmX3 : ∀ a, a < 4 → ∀ b, b < 4 → a ≠ b → (TX3 a).2.1 ≠ (TX3 b).2.1 := by decide +kernel
theorem tyX3_ok : ∀ k, k < 4 → parseFieldDescriptor (TX3 k).2.2.1 = some (tyX3 k) := by decide +kernel
abbrev cX3_init : ByteArray := prog_5_method_1_code
def yX3_init : MethodName := ⟨RX3, "<init>", "()V"⟩
abbrev cX3_copyFrom : ByteArray := prog_5_method_2_code
def yX3_copyFrom : MethodName := ⟨RX3, "copyFrom", "(LHourClock$Log;)V"⟩
abbrev cX3_add : ByteArray := prog_5_method_3_code
def yX3_add : MethodName := ⟨RX3, "add", "(III)V"⟩
abbrev cX3_has : ByteArray := prog_5_method_4_code
def yX3_has : MethodName := ⟨RX3, "has", "(I)Z"⟩
abbrev cX3_tell : ByteArray := prog_5_method_5_code
def yX3_tell : MethodName := ⟨RX3, "tell", "(II)I"⟩
def RX4 : String := "HourClock$SetWalk"
def TX4 : u_T := fun k => match k with
  | 0 => ("HourClock$SetWalk", "filler", "[I", true)
  | 1 => ("HourClock$SetWalk", "length", "[I", true)
  | 2 => ("HourClock$SetWalk", "count", "I", false)
  | 3 => ("HourClock$SetWalk", "set", "I", false)
  | 4 => ("HourClock$SetWalk", "sum", "I", false)
  | _ => ("HourClock$SetWalk", "size", "I", false)
def tyX4 : Nat → FieldType := fun k => match k with
  | 0 => .array .int
  | 1 => .array .int
  | 2 => .int
  | 3 => .int
  | 4 => .int
  | _ => .int
abbrev wsX40 : List Cond := u_ws RX4 TX4 6
theorem nmX4 : ∀ a, a < 6 → ∀ b, b < 6 → a ≠ b → (TX4 a).2.1 ≠ (TX4 b).2.1 := by decide +kernel
theorem tyX4_ok : ∀ k, k < 6 → parseFieldDescriptor (TX4 k).2.2.1 = some (tyX4 k) := by decide +kernel
abbrev cX4_init : ByteArray := prog_6_method_1_code
def yX4_init : MethodName := ⟨RX4, "<init>", "()V"⟩
abbrev cX4_begin : ByteArray := prog_6_method_2_code
def yX4_begin : MethodName := ⟨RX4, "begin", "(LHourClock$Fillers;)I"⟩
abbrev cX4_go : ByteArray := prog_6_method_3_code
def yX4_go : MethodName := ⟨RX4, "go", "(I)V"⟩
def RX5 : String := "HourClock$Text"
def TX5 : u_T := fun k => match k with
  | 0 => ("HourClock$Text", "bytes", "[I", true)
  | 1 => ("HourClock$Text", "length", "I", false)
  | 2 => ("HourClock$Text", "at", "I", false)
  | _ => ("HourClock$Text", "error", "I", false)
def tyX5 : Nat → FieldType := fun k => match k with
  | 0 => .array .int
  | 1 => .int
  | 2 => .int
  | _ => .int
abbrev wsX50 : List Cond := u_ws RX5 TX5 4
theorem nmX5 : ∀ a, a < 4 → ∀ b, b < 4 → a ≠ b → (TX5 a).2.1 ≠ (TX5 b).2.1 := by decide +kernel
theorem tyX5_ok : ∀ k, k < 4 → parseFieldDescriptor (TX5 k).2.2.1 = some (tyX5 k) := by decide +kernel
abbrev cX5_init : ByteArray := prog_7_method_1_code
def yX5_init : MethodName := ⟨RX5, "<init>", "()V"⟩
def RX6 : String := "HourClock"
def TX6 : u_T := fun k => match k with
  | 0 => ("HourClock", "now", "LHourClock$Hour;", true)
  | 1 => ("HourClock", "scratch", "LHourClock$Hour;", true)
  | 2 => ("HourClock", "saved", "[LHourClock$Hour;", true)
  | 3 => ("HourClock", "savedCount", "I", false)
  | _ => ("HourClock", "text", "LHourClock$Text;", true)
def tyX6 : Nat → FieldType := fun k => match k with
  | 0 => .object "HourClock$Hour"
  | 1 => .object "HourClock$Hour"
  | 2 => .array (.object "HourClock$Hour")
  | 3 => .int
  | _ => .object "HourClock$Text"
abbrev wsX60 : List Cond := u_ws RX6 TX6 5
theorem nmX6 : ∀ a, a < 5 → ∀ b, b < 5 → a ≠ b → (TX6 a).2.1 ≠ (TX6 b).2.1 := by decide +kernel
theorem tyX6_ok : ∀ k, k < 5 → parseFieldDescriptor (TX6 k).2.2.1 = some (tyX6 k) := by decide +kernel
abbrev cX6_init : ByteArray := prog_1_method_1_code
def yX6_init : MethodName := ⟨RX6, "<init>", "()V"⟩
abbrev cX6_addElement : ByteArray := prog_1_method_2_code
def yX6_addElement : MethodName := ⟨RX6, "addElement", "(III)I"⟩
abbrev cX6_addFiller : ByteArray := prog_1_method_3_code
def yX6_addFiller : MethodName := ⟨RX6, "addFiller", "(I)I"⟩
abbrev cX6_stretch : ByteArray := prog_1_method_4_code
def yX6_stretch : MethodName := ⟨RX6, "stretch", "(II)I"⟩
abbrev cX6_drop : ByteArray := prog_1_method_5_code
def yX6_drop : MethodName := ⟨RX6, "drop", "(I)I"⟩
abbrev cX6_pass : ByteArray := prog_1_method_6_code
def yX6_pass : MethodName := ⟨RX6, "pass", "(I)I"⟩
abbrev cX6_finish : ByteArray := prog_1_method_7_code
def yX6_finish : MethodName := ⟨RX6, "finish", "()I"⟩
abbrev cX6_again : ByteArray := prog_1_method_8_code
def yX6_again : MethodName := ⟨RX6, "again", "()I"⟩
abbrev cX6_element : ByteArray := prog_1_method_9_code
def yX6_element : MethodName := ⟨RX6, "element", "(II)I"⟩
abbrev cX6_filler : ByteArray := prog_1_method_10_code
def yX6_filler : MethodName := ⟨RX6, "filler", "(II)I"⟩
abbrev cX6_value : ByteArray := prog_1_method_11_code
def yX6_value : MethodName := ⟨RX6, "value", "(I)I"⟩
abbrev cX6_entry : ByteArray := prog_1_method_12_code
def yX6_entry : MethodName := ⟨RX6, "entry", "(II)I"⟩
abbrev cX6_backTime : ByteArray := prog_1_method_13_code
def yX6_backTime : MethodName := ⟨RX6, "backTime", "(I)I"⟩
abbrev cX6_sounding : ByteArray := prog_1_method_21_code
def yX6_sounding : MethodName := ⟨RX6, "sounding", "()D"⟩
abbrev cX6_save : ByteArray := prog_1_method_27_code
def yX6_save : MethodName := ⟨RX6, "save", "()V"⟩
abbrev cX6_forgetOldest : ByteArray := prog_1_method_28_code
def yX6_forgetOldest : MethodName := ⟨RX6, "forgetOldest", "()V"⟩
def RX7 : String := "HourClockModel"
def TX7 : u_T := fun k => match k with
  | _ => ("", "", "", false)
def tyX7 : Nat → FieldType := fun k => match k with
  | _ => .int
abbrev wsX70 : List Cond := u_ws RX7 TX7 0
theorem nmX7 : ∀ a, a < 0 → ∀ b, b < 0 → a ≠ b → (TX7 a).2.1 ≠ (TX7 b).2.1 := by decide +kernel
theorem tyX7_ok : ∀ k, k < 0 → parseFieldDescriptor (TX7 k).2.2.1 = some (tyX7 k) := by decide +kernel
def RJ6 : String := "java/lang/Integer"
def TJ6 : u_T := fun k => match k with
  | _ => ("", "", "", false)
def tyJ6 : Nat → FieldType := fun k => match k with
  | _ => .int
abbrev wsJ60 : List Cond := u_ws RJ6 TJ6 0
theorem nmJ6 : ∀ a, a < 0 → ∀ b, b < 0 → a ≠ b → (TJ6 a).2.1 ≠ (TJ6 b).2.1 := by decide +kernel
theorem tyJ6_ok : ∀ k, k < 0 → parseFieldDescriptor (TJ6 k).2.2.1 = some (tyJ6 k) := by decide +kernel
abbrev cJ6_numberOfTrailingZeros_0f7a4 : ByteArray := prog_14_method_48_code
def yJ6_numberOfTrailingZeros_0f7a4 : MethodName := ⟨RJ6, "numberOfTrailingZeros", "(I)I"⟩
def RJ9 : String := "java/lang/Math"
def TJ9 : u_T := fun k => match k with
  | _ => ("", "", "", false)
def tyJ9 : Nat → FieldType := fun k => match k with
  | _ => .int
abbrev wsJ90 : List Cond := u_ws RJ9 TJ9 0
theorem nmJ9 : ∀ a, a < 0 → ∀ b, b < 0 → a ≠ b → (TJ9 a).2.1 ≠ (TJ9 b).2.1 := by decide +kernel
theorem tyJ9_ok : ∀ k, k < 0 → parseFieldDescriptor (TJ9 k).2.2.1 = some (tyJ9 k) := by decide +kernel
abbrev cJ9_max_7cf53 : ByteArray := prog_15_method_65_code
def yJ9_max_7cf53 : MethodName := ⟨RJ9, "max", "(II)I"⟩
abbrev cJ9_min_7cf53 : ByteArray := prog_15_method_69_code
def yJ9_min_7cf53 : MethodName := ⟨RJ9, "min", "(II)I"⟩
def RJ0 : String := "java/lang/String"
def TJ0 : u_T := fun k => match k with
  | _ => ("", "", "", false)
def tyJ0 : Nat → FieldType := fun k => match k with
  | _ => .int
abbrev wsJ00 : List Cond := u_ws RJ0 TJ0 0
theorem nmJ0 : ∀ a, a < 0 → ∀ b, b < 0 → a ≠ b → (TJ0 a).2.1 ≠ (TJ0 b).2.1 := by decide +kernel
theorem tyJ0_ok : ∀ k, k < 0 → parseFieldDescriptor (TJ0 k).2.2.1 = some (tyJ0 k) := by decide +kernel
def RJ10 : String := "java/lang/System"
def TJ10 : u_T := fun k => match k with
  | _ => ("", "", "", false)
def tyJ10 : Nat → FieldType := fun k => match k with
  | _ => .int
abbrev wsJ100 : List Cond := u_ws RJ10 TJ10 0
theorem nmJ10 : ∀ a, a < 0 → ∀ b, b < 0 → a ≠ b → (TJ10 a).2.1 ≠ (TJ10 b).2.1 := by decide +kernel
theorem tyJ10_ok : ∀ k, k < 0 → parseFieldDescriptor (TJ10 k).2.2.1 = some (tyJ10 k) := by decide +kernel
def RL : String := "HourClockLaw"
abbrev cL_cell : ByteArray := method_2_code
def yL_cell : MethodName := ⟨RL, "cell", "([II)I"⟩
abbrev cL_low : ByteArray := method_3_code
def yL_low : MethodName := ⟨RL, "low", "(II)I"⟩
abbrev cL_fixed : ByteArray := method_4_code
def yL_fixed : MethodName := ⟨RL, "fixed", "([I[II)I"⟩
abbrev cL_timeAt : ByteArray := method_5_code
def yL_timeAt : MethodName := ⟨RL, "timeAt", "([I[II)I"⟩
abbrev cL_sum : ByteArray := method_6_code
def yL_sum : MethodName := ⟨RL, "sum", "([III)I"⟩
abbrev cL_total : ByteArray := method_7_code
def yL_total : MethodName := ⟨RL, "total", "([I[II)I"⟩
abbrev cL_choice : ByteArray := method_8_code
def yL_choice : MethodName := ⟨RL, "choice", "([I[II)I"⟩
abbrev cL_notes : ByteArray := method_9_code
def yL_notes : MethodName := ⟨RL, "notes", "([I[III)V"⟩
abbrev cL_begins : ByteArray := method_10_code
def yL_begins : MethodName := ⟨RL, "begins", "([I[I[II)V"⟩
abbrev cL_next : ByteArray := method_11_code
def yL_next : MethodName := ⟨RL, "next", "([I[I[I[I)V"⟩
abbrev cL_done : ByteArray := method_12_code
def yL_done : MethodName := ⟨RL, "done", "([I[I[I)V"⟩
abbrev cL_goes : ByteArray := method_13_code
def yL_goes : MethodName := ⟨RL, "goes", "([I[I[I[II)I"⟩
abbrev cL_inStatus : ByteArray := method_14_code
def yL_inStatus : MethodName := ⟨RL, "inStatus", "([I[II)I"⟩
abbrev cL_acts : ByteArray := method_15_code
def yL_acts : MethodName := ⟨RL, "acts", "(LHourClock;[I[I[I[II)Z"⟩
abbrev cL_adds : ByteArray := method_16_code
def yL_adds : MethodName := ⟨RL, "adds", "(LHourClock;III)I"⟩
abbrev cL_fills : ByteArray := method_17_code
def yL_fills : MethodName := ⟨RL, "fills", "(LHourClock;I)I"⟩
abbrev cL_stretches : ByteArray := method_18_code
def yL_stretches : MethodName := ⟨RL, "stretches", "(LHourClock;II)I"⟩
abbrev cL_drops : ByteArray := method_19_code
def yL_drops : MethodName := ⟨RL, "drops", "(LHourClock;I)I"⟩
abbrev cL_passes : ByteArray := method_20_code
def yL_passes : MethodName := ⟨RL, "passes", "(LHourClock;I)I"⟩
abbrev cL_agains : ByteArray := method_21_code
def yL_agains : MethodName := ⟨RL, "agains", "(LHourClock;)I"⟩
abbrev cL_elementOf : ByteArray := method_22_code
def yL_elementOf : MethodName := ⟨RL, "elementOf", "(LHourClock;II)I"⟩
abbrev cL_fillerOf : ByteArray := method_23_code
def yL_fillerOf : MethodName := ⟨RL, "fillerOf", "(LHourClock;II)I"⟩
abbrev cL_valueOf : ByteArray := method_24_code
def yL_valueOf : MethodName := ⟨RL, "valueOf", "(LHourClock;I)I"⟩
abbrev cL_entryOf : ByteArray := method_25_code
def yL_entryOf : MethodName := ⟨RL, "entryOf", "(LHourClock;II)I"⟩
abbrev cL_backOf : ByteArray := method_26_code
def yL_backOf : MethodName := ⟨RL, "backOf", "(LHourClock;I)I"⟩
abbrev cL_isSo : ByteArray := method_27_code
def yL_isSo : MethodName := ⟨RL, "isSo", "(LHourClock;[I[I[I[I)Z"⟩
abbrev cL_law : ByteArray := code
def yL_law : MethodName := ⟨RL, "law", "([I)Z"⟩
abbrev vwCl : List vw_C := [(RX0, TX0, 6), (RX1, TX1, 5), (RX2, TX2, 11), (RX3, TX3, 4), (RX4, TX4, 6), (RX5, TX5, 4), (RX6, TX6, 5)]
