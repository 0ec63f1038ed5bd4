/-! ===== BEGIN words of one list among another's, by their places ===== -/
theorem goodIn_r {big : List Cond} (ws : List Cond) (ps : List Nat) (hp : ws = ps.filterMap (fun i => big[i]?)) (h : ws.all goodWord = true) : GoodIn big ws := by
  intro w hw
  have h1 := List.all_eq_true.mp h w hw
  rw [hp] at hw
  obtain ⟨i, -, hi⟩ := List.mem_filterMap.mp hw
  have hm : w ∈ big := by first | exact List.mem_of_getElem? hi | exact List.getElem?_mem hi
  exact ⟨hm, good_of_word h1⟩
theorem goodIn_app {big a b : List Cond} (ha : GoodIn big a) (hb : GoodIn big b) : GoodIn big (a ++ b) := fun w h => (List.mem_append.mp h).elim (ha w) (hb w)
theorem goodIn_ca {big a b : List Cond} {c : Cond} (ha : GoodIn big (c :: a)) (hb : GoodIn big b) : GoodIn big (c :: (a ++ b)) := fun w h => (List.mem_cons.mp h).elim (fun e => ha w (List.mem_cons.mpr (Or.inl e))) (fun h => (List.mem_append.mp h).elim (fun h => ha w (List.mem_cons.mpr (Or.inr h))) (hb w))
theorem goodIn_sub {big ws : List Cond} (hm : ∀ w ∈ ws, w ∈ big) (h : ws.all goodWord = true) : GoodIn big ws := fun w hw => ⟨hm w hw, good_of_word (List.all_eq_true.mp h w hw)⟩
/-! ===== END ===== -/

/-! ===== BEGIN printed: names, fields, word lists, decode rows ===== -/
def RX0 : String := "MeterSeals$Meter"
def TX0 : u_T := fun k => match k with
  | 0 => ("MeterSeals$Meter", "table", "LMeterSeals$Table;", true)
  | 1 => ("MeterSeals$Meter", "rows", "LMeterSeals$Rows;", true)
  | 2 => ("MeterSeals$Meter", "sealed", "Z", false)
  | _ => ("MeterSeals$Meter", "lastSecond", "J", false)
def tyX0 : Nat → FieldType := fun k => match k with
  | 0 => .object "MeterSeals$Table"
  | 1 => .object "MeterSeals$Rows"
  | 2 => .boolean
  | _ => .long
abbrev wsX00 : List Cond := u_ws RX0 TX0 4
theorem nmX0 : ∀ a, a < 4 → ∀ b, b < 4 → a ≠ b → (TX0 a).2.1 ≠ (TX0 b).2.1 := by decide +kernel
theorem tyX0_ok : ∀ k, k < 4 → parseFieldDescriptor (TX0 k).2.2.1 = some (tyX0 k) := by decide +kernel
abbrev cX0_init : ByteArray := prog_2_method_1_code
def yX0_init : MethodName := ⟨RX0, "<init>", "(J)V"⟩
abbrev cX0_addReading : ByteArray := prog_2_method_2_code
def yX0_addReading : MethodName := ⟨RX0, "addReading", "(JJI)Z"⟩
abbrev cX0_addReset : ByteArray := prog_2_method_3_code
def yX0_addReset : MethodName := ⟨RX0, "addReset", "(J)Z"⟩
abbrev cX0_turnSeal : ByteArray := prog_2_method_4_code
def yX0_turnSeal : MethodName := ⟨RX0, "turnSeal", "(IZ)Z"⟩
abbrev cX0_fractionPart : ByteArray := prog_2_method_5_code
def yX0_fractionPart : MethodName := ⟨RX0, "fractionPart", "(II)J"⟩
abbrev cX0_allThousandths : ByteArray := prog_2_method_6_code
def yX0_allThousandths : MethodName := ⟨RX0, "allThousandths", "()J"⟩
abbrev cX0_litresAbove : ByteArray := prog_2_method_7_code
def yX0_litresAbove : MethodName := ⟨RX0, "litresAbove", "(I)J"⟩
abbrev cX0_litresBelow : ByteArray := prog_2_method_8_code
def yX0_litresBelow : MethodName := ⟨RX0, "litresBelow", "(I)J"⟩
def RX1 : String := "MeterSeals$Rows"
def TX1 : u_T := fun k => match k with
  | 0 => ("MeterSeals$Rows", "key", "J", true)
  | 1 => ("MeterSeals$Rows", "numbers", "[J", true)
  | 2 => ("MeterSeals$Rows", "stamps", "[J", true)
  | 3 => ("MeterSeals$Rows", "degrees", "[I", true)
  | 4 => ("MeterSeals$Rows", "sums", "[J", true)
  | 5 => ("MeterSeals$Rows", "marks", "[Z", true)
  | _ => ("MeterSeals$Rows", "count", "I", false)
def tyX1 : Nat → FieldType := fun k => match k with
  | 0 => .long
  | 1 => .array .long
  | 2 => .array .long
  | 3 => .array .int
  | 4 => .array .long
  | 5 => .array .boolean
  | _ => .int
abbrev wsX10 : List Cond := u_ws RX1 TX1 7
theorem nmX1 : ∀ a, a < 7 → ∀ b, b < 7 → a ≠ b → (TX1 a).2.1 ≠ (TX1 b).2.1 := by decide +kernel
theorem tyX1_ok : ∀ k, k < 7 → parseFieldDescriptor (TX1 k).2.2.1 = some (tyX1 k) := by decide +kernel
abbrev cX1_init : ByteArray := prog_3_method_1_code
def yX1_init : MethodName := ⟨RX1, "<init>", "(J)V"⟩
abbrev cX1_add : ByteArray := prog_3_method_2_code
def yX1_add : MethodName := ⟨RX1, "add", "(JJIZ)Z"⟩
abbrev cX1_holds : ByteArray := prog_3_method_3_code
def yX1_holds : MethodName := ⟨RX1, "holds", "(I)Z"⟩
abbrev cX1_isReading : ByteArray := prog_3_method_4_code
def yX1_isReading : MethodName := ⟨RX1, "isReading", "(I)Z"⟩
abbrev cX1_hasMark : ByteArray := prog_3_method_5_code
def yX1_hasMark : MethodName := ⟨RX1, "hasMark", "(I)Z"⟩
abbrev cX1_pulsesOf : ByteArray := prog_3_method_6_code
def yX1_pulsesOf : MethodName := ⟨RX1, "pulsesOf", "(I)J"⟩
abbrev cX1_degreesOf : ByteArray := prog_3_method_7_code
def yX1_degreesOf : MethodName := ⟨RX1, "degreesOf", "(I)I"⟩
abbrev cX1_addPulses : ByteArray := prog_3_method_8_code
def yX1_addPulses : MethodName := ⟨RX1, "addPulses", "(IJ)Z"⟩
abbrev cX1_firstWrong : ByteArray := prog_3_method_9_code
def yX1_firstWrong : MethodName := ⟨RX1, "firstWrong", "(I)I"⟩
abbrev cX1_dueSum : ByteArray := prog_3_method_10_code
def yX1_dueSum : MethodName := ⟨RX1, "dueSum", "(I)J"⟩
abbrev cX1_stir : ByteArray := prog_3_method_11_code
def yX1_stir : MethodName := ⟨RX1, "stir", "(JJ)J"⟩
abbrev cX1_findGap : ByteArray := prog_3_method_12_code
def yX1_findGap : MethodName := ⟨RX1, "findGap", "(II)I"⟩
abbrev cX1_wholeMinutes : ByteArray := prog_3_method_13_code
def yX1_wholeMinutes : MethodName := ⟨RX1, "wholeMinutes", "(J)I"⟩
abbrev cX1_rollByte : ByteArray := prog_3_method_14_code
def yX1_rollByte : MethodName := ⟨RX1, "rollByte", "(I)I"⟩
abbrev cX1_lineLength : ByteArray := prog_3_method_15_code
def yX1_lineLength : MethodName := ⟨RX1, "lineLength", "(I)I"⟩
abbrev cX1_lineByte : ByteArray := prog_3_method_16_code
def yX1_lineByte : MethodName := ⟨RX1, "lineByte", "(II)I"⟩
abbrev cX1_letterOf : ByteArray := prog_3_method_17_code
def yX1_letterOf : MethodName := ⟨RX1, "letterOf", "(I)C"⟩
abbrev cX1_fieldCount : ByteArray := prog_3_method_18_code
def yX1_fieldCount : MethodName := ⟨RX1, "fieldCount", "(I)I"⟩
abbrev cX1_fieldOf : ByteArray := prog_3_method_19_code
def yX1_fieldOf : MethodName := ⟨RX1, "fieldOf", "(II)J"⟩
def RX2 : String := "MeterSeals$Table"
def TX2 : u_T := fun k => match k with
  | 0 => ("MeterSeals$Table", "starts", "[I", true)
  | 1 => ("MeterSeals$Table", "aboves", "[J", true)
  | 2 => ("MeterSeals$Table", "belows", "[J", true)
  | _ => ("MeterSeals$Table", "count", "I", false)
def tyX2 : Nat → FieldType := fun k => match k with
  | 0 => .array .int
  | 1 => .array .long
  | 2 => .array .long
  | _ => .int
abbrev wsX20 : List Cond := u_ws RX2 TX2 4
theorem nmX2 : ∀ a, a < 4 → ∀ b, b < 4 → a ≠ b → (TX2 a).2.1 ≠ (TX2 b).2.1 := by decide +kernel
theorem tyX2_ok : ∀ k, k < 4 → parseFieldDescriptor (TX2 k).2.2.1 = some (tyX2 k) := by decide +kernel
abbrev cX2_init : ByteArray := prog_4_method_1_code
def yX2_init : MethodName := ⟨RX2, "<init>", "()V"⟩
abbrev cX2_put : ByteArray := prog_4_method_2_code
def yX2_put : MethodName := ⟨RX2, "put", "(IJJ)Z"⟩
abbrev cX2_aboveAt : ByteArray := prog_4_method_3_code
def yX2_aboveAt : MethodName := ⟨RX2, "aboveAt", "(I)J"⟩
abbrev cX2_belowAt : ByteArray := prog_4_method_4_code
def yX2_belowAt : MethodName := ⟨RX2, "belowAt", "(I)J"⟩
abbrev cX2_placeFor : ByteArray := prog_4_method_5_code
def yX2_placeFor : MethodName := ⟨RX2, "placeFor", "(I)I"⟩
abbrev cX2_lineAt : ByteArray := prog_4_method_6_code
def yX2_lineAt : MethodName := ⟨RX2, "lineAt", "(I)I"⟩
abbrev cX2_goesBefore : ByteArray := prog_4_method_7_code
def yX2_goesBefore : MethodName := ⟨RX2, "goesBefore", "(III)Z"⟩
def RX3 : String := "MeterSeals"
def TX3 : u_T := fun k => match k with
  | 0 => ("MeterSeals", "meters", "[LMeterSeals$Meter;", true)
  | _ => ("MeterSeals", "meterCount", "I", false)
def tyX3 : Nat → FieldType := fun k => match k with
  | 0 => .array (.object "MeterSeals$Meter")
  | _ => .int
abbrev wsX30 : List Cond := u_ws RX3 TX3 2
theorem nmX3 : ∀ a, a < 2 → ∀ b, b < 2 → a ≠ b → (TX3 a).2.1 ≠ (TX3 b).2.1 := by decide +kernel
theorem tyX3_ok : ∀ k, k < 2 → parseFieldDescriptor (TX3 k).2.2.1 = some (tyX3 k) := by decide +kernel
abbrev cX3_init : ByteArray := prog_1_method_1_code
def yX3_init : MethodName := ⟨RX3, "<init>", "()V"⟩
abbrev cX3_meter : ByteArray := prog_1_method_2_code
def yX3_meter : MethodName := ⟨RX3, "meter", "(J)I"⟩
abbrev cX3_pulses : ByteArray := prog_1_method_3_code
def yX3_pulses : MethodName := ⟨RX3, "pulses", "(IJJI)Z"⟩
abbrev cX3_row : ByteArray := prog_1_method_4_code
def yX3_row : MethodName := ⟨RX3, "row", "(IIJJ)Z"⟩
abbrev cX3_litres : ByteArray := prog_1_method_5_code
def yX3_litres : MethodName := ⟨RX3, "litres", "(III)J"⟩
abbrev cX3_rows : ByteArray := prog_1_method_6_code
def yX3_rows : MethodName := ⟨RX3, "rows", "(I)I"⟩
abbrev cX3_check : ByteArray := prog_1_method_7_code
def yX3_check : MethodName := ⟨RX3, "check", "(II)I"⟩
abbrev cX3_poke : ByteArray := prog_1_method_8_code
def yX3_poke : MethodName := ⟨RX3, "poke", "(IIJ)Z"⟩
abbrev cX3_seal : ByteArray := prog_1_method_9_code
def yX3_seal : MethodName := ⟨RX3, "seal", "(IIZ)Z"⟩
abbrev cX3_marked : ByteArray := prog_1_method_10_code
def yX3_marked : MethodName := ⟨RX3, "marked", "(II)Z"⟩
abbrev cX3_gap : ByteArray := prog_1_method_11_code
def yX3_gap : MethodName := ⟨RX3, "gap", "(III)I"⟩
abbrev cX3_rest : ByteArray := prog_1_method_12_code
def yX3_rest : MethodName := ⟨RX3, "rest", "(IJ)J"⟩
abbrev cX3_reset : ByteArray := prog_1_method_13_code
def yX3_reset : MethodName := ⟨RX3, "reset", "(IJ)Z"⟩
abbrev cX3_roll : ByteArray := prog_1_method_14_code
def yX3_roll : MethodName := ⟨RX3, "roll", "(II)I"⟩
abbrev cX3_find : ByteArray := prog_1_method_15_code
def yX3_find : MethodName := ⟨RX3, "find", "(I)LMeterSeals$Meter;"⟩
abbrev cX3_within : ByteArray := prog_1_method_16_code
def yX3_within : MethodName := ⟨RX3, "within", "(JJJ)Z"⟩
abbrev cX3_quotient : ByteArray := prog_1_method_17_code
def yX3_quotient : MethodName := ⟨RX3, "quotient", "(JJ)J"⟩
abbrev cX3_commonDivisor : ByteArray := prog_1_method_18_code
def yX3_commonDivisor : MethodName := ⟨RX3, "commonDivisor", "(JJ)J"⟩
abbrev cX3_textLength : ByteArray := prog_1_method_19_code
def yX3_textLength : MethodName := ⟨RX3, "textLength", "(J)I"⟩
abbrev cX3_textByte : ByteArray := prog_1_method_20_code
def yX3_textByte : MethodName := ⟨RX3, "textByte", "(JI)I"⟩
def RX4 : String := "MeterSealsModel"
def TX4 : u_T := fun k => match k with
  | 0 => ("MeterSealsModel", "keys", "[J", true)
  | 1 => ("MeterSealsModel", "rows", "[I", true)
  | 2 => ("MeterSealsModel", "lines", "[I", true)
  | 3 => ("MeterSealsModel", "meters", "I", false)
  | 4 => ("MeterSealsModel", "kind", "[I", true)
  | 5 => ("MeterSealsModel", "number", "[J", true)
  | 6 => ("MeterSealsModel", "second", "[J", true)
  | 7 => ("MeterSealsModel", "warm", "[I", true)
  | 8 => ("MeterSealsModel", "sum", "[J", true)
  | 9 => ("MeterSealsModel", "lineDegrees", "[I", true)
  | 10 => ("MeterSealsModel", "lineAbove", "[J", true)
  | 11 => ("MeterSealsModel", "lineBelow", "[J", true)
  | 12 => ("MeterSealsModel", "text", "[I", true)
  | 13 => ("MeterSealsModel", "length", "I", false)
  | _ => ("MeterSealsModel", "thrown", "I", false)
def tyX4 : Nat → FieldType := fun k => match k with
  | 0 => .array .long
  | 1 => .array .int
  | 2 => .array .int
  | 3 => .int
  | 4 => .array .int
  | 5 => .array .long
  | 6 => .array .long
  | 7 => .array .int
  | 8 => .array .long
  | 9 => .array .int
  | 10 => .array .long
  | 11 => .array .long
  | 12 => .array .int
  | 13 => .int
  | _ => .int
abbrev wsX40 : List Cond := u_ws RX4 TX4 15
theorem nmX4 : ∀ a, a < 15 → ∀ b, b < 15 → a ≠ b → (TX4 a).2.1 ≠ (TX4 b).2.1 := by decide +kernel
theorem tyX4_ok : ∀ k, k < 15 → parseFieldDescriptor (TX4 k).2.2.1 = some (tyX4 k) := by decide +kernel
abbrev cX4_init : ByteArray := prog_6_method_1_code
def yX4_init : MethodName := ⟨RX4, "<init>", "()V"⟩
abbrev cX4_thrown : ByteArray := prog_6_method_2_code
def yX4_thrown : MethodName := ⟨RX4, "thrown", "()I"⟩
abbrev cX4_isMeter : ByteArray := prog_6_method_3_code
def yX4_isMeter : MethodName := ⟨RX4, "isMeter", "(I)Z"⟩
abbrev cX4_isRow : ByteArray := prog_6_method_4_code
def yX4_isRow : MethodName := ⟨RX4, "isRow", "(II)Z"⟩
abbrev cX4_meter : ByteArray := prog_6_method_5_code
def yX4_meter : MethodName := ⟨RX4, "meter", "(J)I"⟩
abbrev cX4_mixed : ByteArray := prog_6_method_6_code
def yX4_mixed : MethodName := ⟨RX4, "mixed", "(JJ)J"⟩
abbrev cX4_due : ByteArray := prog_6_method_7_code
def yX4_due : MethodName := ⟨RX4, "due", "(II)J"⟩
abbrev cX4_add : ByteArray := prog_6_method_8_code
def yX4_add : MethodName := ⟨RX4, "add", "(IIJJI)V"⟩
abbrev cX4_pulses : ByteArray := prog_6_method_9_code
def yX4_pulses : MethodName := ⟨RX4, "pulses", "(IJJI)Z"⟩
abbrev cX4_reset : ByteArray := prog_6_method_10_code
def yX4_reset : MethodName := ⟨RX4, "reset", "(IJ)Z"⟩
abbrev cX4_isSet : ByteArray := prog_6_method_11_code
def yX4_isSet : MethodName := ⟨RX4, "isSet", "(II)Z"⟩
abbrev cX4_seal : ByteArray := prog_6_method_12_code
def yX4_seal : MethodName := ⟨RX4, "seal", "(IIZ)Z"⟩
abbrev cX4_row : ByteArray := prog_6_method_13_code
def yX4_row : MethodName := ⟨RX4, "row", "(IIJJ)Z"⟩
abbrev cX4_line : ByteArray := prog_6_method_14_code
def yX4_line : MethodName := ⟨RX4, "line", "(II)I"⟩
abbrev cX4_divisor : ByteArray := prog_6_method_15_code
def yX4_divisor : MethodName := ⟨RX4, "divisor", "(JJ)J"⟩
abbrev cX4_litres : ByteArray := prog_6_method_16_code
def yX4_litres : MethodName := ⟨RX4, "litres", "(III)J"⟩
abbrev cX4_rest : ByteArray := prog_6_method_17_code
def yX4_rest : MethodName := ⟨RX4, "rest", "(IJ)J"⟩
abbrev cX4_rows : ByteArray := prog_6_method_18_code
def yX4_rows : MethodName := ⟨RX4, "rows", "(I)I"⟩
abbrev cX4_check : ByteArray := prog_6_method_19_code
def yX4_check : MethodName := ⟨RX4, "check", "(II)I"⟩
abbrev cX4_poke : ByteArray := prog_6_method_20_code
def yX4_poke : MethodName := ⟨RX4, "poke", "(IIJ)Z"⟩
abbrev cX4_isMarked : ByteArray := prog_6_method_21_code
def yX4_isMarked : MethodName := ⟨RX4, "isMarked", "(II)Z"⟩
abbrev cX4_marked : ByteArray := prog_6_method_22_code
def yX4_marked : MethodName := ⟨RX4, "marked", "(II)Z"⟩
abbrev cX4_gap : ByteArray := prog_6_method_23_code
def yX4_gap : MethodName := ⟨RX4, "gap", "(III)I"⟩
abbrev cX4_put : ByteArray := prog_6_method_24_code
def yX4_put : MethodName := ⟨RX4, "put", "(I)V"⟩
abbrev cX4_say : ByteArray := prog_6_method_25_code
def yX4_say : MethodName := ⟨RX4, "say", "(J)V"⟩
abbrev cX4_print : ByteArray := prog_6_method_26_code
def yX4_print : MethodName := ⟨RX4, "print", "(II)V"⟩
abbrev cX4_roll : ByteArray := prog_6_method_27_code
def yX4_roll : MethodName := ⟨RX4, "roll", "(II)I"⟩
def RJx00060 : String := "java/lang/ArrayIndexOutOfBoundsException"
def TJx00060 : u_T := fun k => match k with
  | 0 => ("java/lang/Throwable", "cause", "Ljava/lang/Throwable;", false)
  | 1 => ("java/lang/Throwable", "stackTrace", "[Ljava/lang/StackTraceElement;", false)
  | 2 => ("java/lang/Throwable", "suppressedExceptions", "Ljava/util/List;", false)
  | 3 => ("java/lang/Throwable", "detailMessage", "Ljava/lang/String;", false)
  | 4 => ("java/lang/Throwable", "backtrace", "Ljava/lang/Object;", false)
  | _ => ("java/lang/Throwable", "depth", "I", false)
def tyJx00060 : Nat → FieldType := fun k => match k with
  | 0 => .object "java/lang/Throwable"
  | 1 => .array (.object "java/lang/StackTraceElement")
  | 2 => .object "java/util/List"
  | 3 => .object "java/lang/String"
  | 4 => .object "java/lang/Object"
  | _ => .int
abbrev wsJx000600 : List Cond := u_ws RJx00060 TJx00060 6
theorem nmJx00060 : ∀ a, a < 6 → ∀ b, b < 6 → a ≠ b → (TJx00060 a).2.1 ≠ (TJx00060 b).2.1 := by decide +kernel
theorem tyJx00060_ok : ∀ k, k < 6 → parseFieldDescriptor (TJx00060 k).2.2.1 = some (tyJx00060 k) := by decide +kernel
abbrev cJx00060_init_a7421 : ByteArray := prog_7_method_2_code
def yJx00060_init_a7421 : MethodName := ⟨RJx00060, "<init>", "(Ljava/lang/String;)V"⟩
def RJ9 : String := "java/lang/Math"
def TJ9 : u_T := fun k => match k with
  | _ => ("", "", "", false)
def tyJ9 : Nat → FieldType := fun k => match k with
  | _ => .int
abbrev wsJ90 : List Cond := u_ws RJ9 TJ9 0
theorem nmJ9 : ∀ a, a < 0 → ∀ b, b < 0 → a ≠ b → (TJ9 a).2.1 ≠ (TJ9 b).2.1 := by decide +kernel
theorem tyJ9_ok : ∀ k, k < 0 → parseFieldDescriptor (TJ9 k).2.2.1 = some (tyJ9 k) := by decide +kernel
abbrev cJ9_abs_067f4 : ByteArray := prog_10_method_61_code
def yJ9_abs_067f4 : MethodName := ⟨RJ9, "abs", "(J)J"⟩
abbrev cJ9_max_7cf53 : ByteArray := prog_10_method_65_code
def yJ9_max_7cf53 : MethodName := ⟨RJ9, "max", "(II)I"⟩
abbrev cJ9_min_f86c9 : ByteArray := prog_10_method_70_code
def yJ9_min_f86c9 : MethodName := ⟨RJ9, "min", "(JJ)J"⟩
def RJ0 : String := "java/lang/String"
def TJ0 : u_T := fun k => match k with
  | _ => ("", "", "", false)
def tyJ0 : Nat → FieldType := fun k => match k with
  | _ => .int
abbrev wsJ00 : List Cond := u_ws RJ0 TJ0 0
theorem nmJ0 : ∀ a, a < 0 → ∀ b, b < 0 → a ≠ b → (TJ0 a).2.1 ≠ (TJ0 b).2.1 := by decide +kernel
theorem tyJ0_ok : ∀ k, k < 0 → parseFieldDescriptor (TJ0 k).2.2.1 = some (tyJ0 k) := by decide +kernel
def RL : String := "MeterSealsLaw"
abbrev cL_litres : ByteArray := method_3_code
def yL_litres : MethodName := ⟨RL, "litres", "(LMeterSeals;III[J)I"⟩
abbrev cL_law : ByteArray := code
def yL_law : MethodName := ⟨RL, "law", "([I)Z"⟩
def wsX2_init : List Cond := .code yX2_init cX2_init 1 none :: ([.methodLink RX2 3 objectInit, .instanceMethod objectInit, .code objectInit ⟨#[0xb1]⟩ 1 none, .arrayClass .int, .fieldLink RX2 9 "MeterSeals$Table" "starts" "[I", .arrayClass .long, .fieldLink RX2 15 "MeterSeals$Table" "aboves" "[J", .fieldLink RX2 19 "MeterSeals$Table" "belows" "[J", .fieldLink RX2 22 "MeterSeals$Table" "count" "I"] ++ wsX20)
def wsX1_init : List Cond := .code yX1_init cX1_init 3 none :: ([.methodLink RX1 3 objectInit, .instanceMethod objectInit, .code objectInit ⟨#[0xb1]⟩ 1 none, .fieldLink RX1 9 "MeterSeals$Rows" "key" "J", .arrayClass .long, .fieldLink RX1 15 "MeterSeals$Rows" "numbers" "[J", .fieldLink RX1 19 "MeterSeals$Rows" "stamps" "[J", .arrayClass .int, .fieldLink RX1 22 "MeterSeals$Rows" "degrees" "[I", .fieldLink RX1 26 "MeterSeals$Rows" "sums" "[J", .arrayClass .boolean, .fieldLink RX1 29 "MeterSeals$Rows" "marks" "[Z", .fieldLink RX1 33 "MeterSeals$Rows" "count" "I"] ++ wsX10)
def wsX0_init_r1 : List Cond := [Cond.methodLink RX0 3 objectInit, Cond.instanceMethod objectInit, Cond.code objectInit ⟨#[0xb1]⟩ 1 none, Cond.classLink RX0 9 RX2, Cond.instantiable RX2 4, Cond.initialized RX2, Cond.fieldLink RX0 12 "MeterSeals$Meter" "table" "LMeterSeals$Table;", Cond.classLink RX0 18 RX1, Cond.instantiable RX1 7, Cond.initialized RX1, Cond.fieldLink RX0 23 "MeterSeals$Meter" "rows" "LMeterSeals$Rows;", Cond.fieldLink RX0 27 "MeterSeals$Meter" "sealed" "Z", Cond.fieldLink RX0 31 "MeterSeals$Meter" "lastSecond" "J", Cond.methodLink RX0 11 yX2_init, Cond.instanceMethod yX2_init, Cond.code yX2_init cX2_init 1 none, Cond.methodLink RX2 3 objectInit, Cond.arrayClass .int, Cond.fieldLink RX2 9 "MeterSeals$Table" "starts" "[I", Cond.arrayClass .long, Cond.fieldLink RX2 15 "MeterSeals$Table" "aboves" "[J", Cond.fieldLink RX2 19 "MeterSeals$Table" "belows" "[J", Cond.fieldLink RX2 22 "MeterSeals$Table" "count" "I", Cond.methodLink RX0 20 yX1_init]
def wsX0_init_r2 : List Cond := [Cond.instanceMethod yX1_init, Cond.code yX1_init cX1_init 3 none, Cond.methodLink RX1 3 objectInit, Cond.fieldLink RX1 9 "MeterSeals$Rows" "key" "J", Cond.fieldLink RX1 15 "MeterSeals$Rows" "numbers" "[J", Cond.fieldLink RX1 19 "MeterSeals$Rows" "stamps" "[J", Cond.fieldLink RX1 22 "MeterSeals$Rows" "degrees" "[I", Cond.fieldLink RX1 26 "MeterSeals$Rows" "sums" "[J", Cond.arrayClass .boolean, Cond.fieldLink RX1 29 "MeterSeals$Rows" "marks" "[Z", Cond.fieldLink RX1 33 "MeterSeals$Rows" "count" "I"]
def wsX0_init : List Cond := .code yX0_init cX0_init 3 none :: ((wsX0_init_r1 ++ wsX0_init_r2) ++ wsX20 ++ wsX00 ++ wsX10)
def wsX3_within : List Cond := .code yX3_within cX3_within 6 (some .boolean) :: ([])
def wsX1_holds : List Cond := .code yX1_holds cX1_holds 2 (some .boolean) :: ([.fieldLink RX1 33 "MeterSeals$Rows" "count" "I"] ++ wsX10)
def wsX1_stir : List Cond := .code yX1_stir cX1_stir 6 (some .long) :: ([.constantLong RX1 63 (1099511628211)])
def wsX1_dueSum : List Cond := .code yX1_dueSum cX1_dueSum 6 (some .long) :: ([.fieldLink RX1 9 "MeterSeals$Rows" "key" "J", .fieldLink RX1 26 "MeterSeals$Rows" "sums" "[J", .constantLong RX1 57 (3), .fieldLink RX1 15 "MeterSeals$Rows" "numbers" "[J", .fieldLink RX1 19 "MeterSeals$Rows" "stamps" "[J", .fieldLink RX1 22 "MeterSeals$Rows" "degrees" "[I", .methodLink RX1 41 yX1_holds, .instanceMethod yX1_holds, .selects RX1 yX1_holds yX1_holds, .initialized RX1, .code yX1_holds cX1_holds 2 (some .boolean), .fieldLink RX1 33 "MeterSeals$Rows" "count" "I", .methodLink RX1 59 yX1_stir, .static yX1_stir, .code yX1_stir cX1_stir 6 (some .long), .constantLong RX1 63 (1099511628211)] ++ wsX10)
def wsX1_add : List Cond := .code yX1_add cX1_add 8 (some .boolean) :: ([.fieldLink RX1 33 "MeterSeals$Rows" "count" "I", .fieldLink RX1 15 "MeterSeals$Rows" "numbers" "[J", .fieldLink RX1 19 "MeterSeals$Rows" "stamps" "[J", .fieldLink RX1 22 "MeterSeals$Rows" "degrees" "[I", .fieldLink RX1 29 "MeterSeals$Rows" "marks" "[Z", .fieldLink RX1 26 "MeterSeals$Rows" "sums" "[J", .methodLink RX1 37 yX1_dueSum, .instanceMethod yX1_dueSum, .selects RX1 yX1_dueSum yX1_dueSum, .initialized RX1, .code yX1_dueSum cX1_dueSum 6 (some .long), .fieldLink RX1 9 "MeterSeals$Rows" "key" "J", .constantLong RX1 57 (3), .methodLink RX1 41 yX1_holds, .instanceMethod yX1_holds, .selects RX1 yX1_holds yX1_holds, .code yX1_holds cX1_holds 2 (some .boolean), .methodLink RX1 59 yX1_stir, .static yX1_stir, .code yX1_stir cX1_stir 6 (some .long), .constantLong RX1 63 (1099511628211)] ++ wsX10)
def wsX0_addReading_r1 : List Cond := [Cond.fieldLink RX0 12 "MeterSeals$Meter" "table" "LMeterSeals$Table;", Cond.constantLong RX0 39 (1000000), Cond.fieldLink RX0 31 "MeterSeals$Meter" "lastSecond" "J", Cond.constantLong RX0 45 (1000000000000), Cond.constantLong RX0 47 (-50), Cond.constantLong RX0 49 (150), Cond.fieldLink RX0 23 "MeterSeals$Meter" "rows" "LMeterSeals$Rows;", Cond.fieldLink RX0 27 "MeterSeals$Meter" "sealed" "Z", Cond.static yX3_within, Cond.initialized RX3, Cond.code yX3_within cX3_within 6 (some .boolean), Cond.methodLink RX0 51 yX1_add, Cond.instanceMethod yX1_add, Cond.selects RX1 yX1_add yX1_add, Cond.initialized RX1, Cond.code yX1_add cX1_add 8 (some .boolean), Cond.fieldLink RX1 33 "MeterSeals$Rows" "count" "I", Cond.fieldLink RX1 15 "MeterSeals$Rows" "numbers" "[J", Cond.fieldLink RX1 19 "MeterSeals$Rows" "stamps" "[J", Cond.fieldLink RX1 22 "MeterSeals$Rows" "degrees" "[I", Cond.fieldLink RX1 29 "MeterSeals$Rows" "marks" "[Z", Cond.fieldLink RX1 26 "MeterSeals$Rows" "sums" "[J", Cond.methodLink RX1 37 yX1_dueSum, Cond.instanceMethod yX1_dueSum]
def wsX0_addReading_r2 : List Cond := [Cond.selects RX1 yX1_dueSum yX1_dueSum, Cond.code yX1_dueSum cX1_dueSum 6 (some .long), Cond.fieldLink RX1 9 "MeterSeals$Rows" "key" "J", Cond.constantLong RX1 57 (3), Cond.methodLink RX1 41 yX1_holds, Cond.instanceMethod yX1_holds, Cond.selects RX1 yX1_holds yX1_holds, Cond.code yX1_holds cX1_holds 2 (some .boolean), Cond.methodLink RX1 59 yX1_stir, Cond.static yX1_stir, Cond.code yX1_stir cX1_stir 6 (some .long), Cond.constantLong RX1 63 (1099511628211)]
def wsX0_addReading : List Cond := .code yX0_addReading cX0_addReading 7 (some .boolean) :: ((wsX0_addReading_r1 ++ wsX0_addReading_r2) ++ wsX00 ++ wsX20 ++ wsX10)
def wsX0_addReset_r1 : List Cond := [Cond.constantLong RX0 45 (1000000000000), Cond.fieldLink RX0 23 "MeterSeals$Meter" "rows" "LMeterSeals$Rows;", Cond.constantLong RX0 55 (-1), Cond.fieldLink RX0 27 "MeterSeals$Meter" "sealed" "Z", Cond.static yX3_within, Cond.initialized RX3, Cond.code yX3_within cX3_within 6 (some .boolean), Cond.methodLink RX0 51 yX1_add, Cond.instanceMethod yX1_add, Cond.selects RX1 yX1_add yX1_add, Cond.initialized RX1, Cond.code yX1_add cX1_add 8 (some .boolean), Cond.fieldLink RX1 33 "MeterSeals$Rows" "count" "I", Cond.fieldLink RX1 15 "MeterSeals$Rows" "numbers" "[J", Cond.fieldLink RX1 19 "MeterSeals$Rows" "stamps" "[J", Cond.fieldLink RX1 22 "MeterSeals$Rows" "degrees" "[I", Cond.fieldLink RX1 29 "MeterSeals$Rows" "marks" "[Z", Cond.fieldLink RX1 26 "MeterSeals$Rows" "sums" "[J", Cond.methodLink RX1 37 yX1_dueSum, Cond.instanceMethod yX1_dueSum, Cond.selects RX1 yX1_dueSum yX1_dueSum, Cond.code yX1_dueSum cX1_dueSum 6 (some .long), Cond.fieldLink RX1 9 "MeterSeals$Rows" "key" "J", Cond.constantLong RX1 57 (3)]
def wsX0_addReset_r2 : List Cond := [Cond.methodLink RX1 41 yX1_holds, Cond.instanceMethod yX1_holds, Cond.selects RX1 yX1_holds yX1_holds, Cond.code yX1_holds cX1_holds 2 (some .boolean), Cond.methodLink RX1 59 yX1_stir, Cond.static yX1_stir, Cond.code yX1_stir cX1_stir 6 (some .long), Cond.constantLong RX1 63 (1099511628211)]
def wsX0_addReset : List Cond := .code yX0_addReset cX0_addReset 3 (some .boolean) :: ((wsX0_addReset_r1 ++ wsX0_addReset_r2) ++ wsX00 ++ wsX10)
def wsX0_turnSeal_r1 : List Cond := [Cond.constantLong RX0 57 (999), Cond.fieldLink RX0 27 "MeterSeals$Meter" "sealed" "Z", Cond.fieldLink RX0 23 "MeterSeals$Meter" "rows" "LMeterSeals$Rows;", Cond.constantLong RX0 59 (-3), Cond.constantLong RX0 61 (-2), Cond.static yX3_within, Cond.initialized RX3, Cond.code yX3_within cX3_within 6 (some .boolean), Cond.methodLink RX0 51 yX1_add, Cond.instanceMethod yX1_add, Cond.selects RX1 yX1_add yX1_add, Cond.initialized RX1, Cond.code yX1_add cX1_add 8 (some .boolean), Cond.fieldLink RX1 33 "MeterSeals$Rows" "count" "I", Cond.fieldLink RX1 15 "MeterSeals$Rows" "numbers" "[J", Cond.fieldLink RX1 19 "MeterSeals$Rows" "stamps" "[J", Cond.fieldLink RX1 22 "MeterSeals$Rows" "degrees" "[I", Cond.fieldLink RX1 29 "MeterSeals$Rows" "marks" "[Z", Cond.fieldLink RX1 26 "MeterSeals$Rows" "sums" "[J", Cond.methodLink RX1 37 yX1_dueSum, Cond.instanceMethod yX1_dueSum, Cond.selects RX1 yX1_dueSum yX1_dueSum, Cond.code yX1_dueSum cX1_dueSum 6 (some .long), Cond.fieldLink RX1 9 "MeterSeals$Rows" "key" "J"]
def wsX0_turnSeal_r2 : List Cond := [Cond.constantLong RX1 57 (3), Cond.methodLink RX1 41 yX1_holds, Cond.instanceMethod yX1_holds, Cond.selects RX1 yX1_holds yX1_holds, Cond.code yX1_holds cX1_holds 2 (some .boolean), Cond.methodLink RX1 59 yX1_stir, Cond.static yX1_stir, Cond.code yX1_stir cX1_stir 6 (some .long), Cond.constantLong RX1 63 (1099511628211)]
def wsX0_turnSeal : List Cond := .code yX0_turnSeal cX0_turnSeal 3 (some .boolean) :: ((wsX0_turnSeal_r1 ++ wsX0_turnSeal_r2) ++ wsX00 ++ wsX10)
def wsX1_isReading : List Cond := .code yX1_isReading cX1_isReading 2 (some .boolean) :: ([.fieldLink RX1 19 "MeterSeals$Rows" "stamps" "[J", .methodLink RX1 41 yX1_holds, .instanceMethod yX1_holds, .selects RX1 yX1_holds yX1_holds, .initialized RX1, .code yX1_holds cX1_holds 2 (some .boolean), .fieldLink RX1 33 "MeterSeals$Rows" "count" "I"] ++ wsX10)
def wsX1_pulsesOf : List Cond := .code yX1_pulsesOf cX1_pulsesOf 2 (some .long) :: ([.fieldLink RX1 15 "MeterSeals$Rows" "numbers" "[J", .methodLink RX1 45 yX1_isReading, .instanceMethod yX1_isReading, .selects RX1 yX1_isReading yX1_isReading, .initialized RX1, .code yX1_isReading cX1_isReading 2 (some .boolean), .fieldLink RX1 19 "MeterSeals$Rows" "stamps" "[J", .methodLink RX1 41 yX1_holds, .instanceMethod yX1_holds, .selects RX1 yX1_holds yX1_holds, .code yX1_holds cX1_holds 2 (some .boolean), .fieldLink RX1 33 "MeterSeals$Rows" "count" "I"] ++ wsX10)
def wsX1_degreesOf : List Cond := .code yX1_degreesOf cX1_degreesOf 2 (some .int) :: ([.fieldLink RX1 22 "MeterSeals$Rows" "degrees" "[I", .methodLink RX1 41 yX1_holds, .instanceMethod yX1_holds, .selects RX1 yX1_holds yX1_holds, .initialized RX1, .code yX1_holds cX1_holds 2 (some .boolean), .fieldLink RX1 33 "MeterSeals$Rows" "count" "I"] ++ wsX10)
def wsX2_goesBefore : List Cond := .code yX2_goesBefore cX2_goesBefore 3 (some .boolean) :: ([])
def wsX2_lineAt : List Cond := .code yX2_lineAt cX2_lineAt 4 (some .int) :: ([.fieldLink RX2 22 "MeterSeals$Table" "count" "I", .fieldLink RX2 9 "MeterSeals$Table" "starts" "[I", .methodLink RX2 49 yX2_goesBefore, .static yX2_goesBefore, .initialized RX2, .code yX2_goesBefore cX2_goesBefore 3 (some .boolean)] ++ wsX20)
def wsX2_aboveAt : List Cond := .code yX2_aboveAt cX2_aboveAt 3 (some .long) :: ([.fieldLink RX2 15 "MeterSeals$Table" "aboves" "[J", .methodLink RX2 46 yX2_lineAt, .instanceMethod yX2_lineAt, .selects RX2 yX2_lineAt yX2_lineAt, .initialized RX2, .code yX2_lineAt cX2_lineAt 4 (some .int), .fieldLink RX2 22 "MeterSeals$Table" "count" "I", .fieldLink RX2 9 "MeterSeals$Table" "starts" "[I", .methodLink RX2 49 yX2_goesBefore, .static yX2_goesBefore, .code yX2_goesBefore cX2_goesBefore 3 (some .boolean)] ++ wsX20)
def wsX0_litresAbove_r1 : List Cond := [Cond.fieldLink RX0 23 "MeterSeals$Meter" "rows" "LMeterSeals$Rows;", Cond.fieldLink RX0 12 "MeterSeals$Meter" "table" "LMeterSeals$Table;", Cond.methodLink RX0 80 yX1_pulsesOf, Cond.instanceMethod yX1_pulsesOf, Cond.selects RX1 yX1_pulsesOf yX1_pulsesOf, Cond.initialized RX1, Cond.code yX1_pulsesOf cX1_pulsesOf 2 (some .long), Cond.fieldLink RX1 15 "MeterSeals$Rows" "numbers" "[J", Cond.methodLink RX1 45 yX1_isReading, Cond.instanceMethod yX1_isReading, Cond.selects RX1 yX1_isReading yX1_isReading, Cond.code yX1_isReading cX1_isReading 2 (some .boolean), Cond.fieldLink RX1 19 "MeterSeals$Rows" "stamps" "[J", Cond.methodLink RX1 41 yX1_holds, Cond.instanceMethod yX1_holds, Cond.selects RX1 yX1_holds yX1_holds, Cond.code yX1_holds cX1_holds 2 (some .boolean), Cond.fieldLink RX1 33 "MeterSeals$Rows" "count" "I", Cond.methodLink RX0 83 yX1_degreesOf, Cond.instanceMethod yX1_degreesOf, Cond.selects RX1 yX1_degreesOf yX1_degreesOf, Cond.code yX1_degreesOf cX1_degreesOf 2 (some .int), Cond.fieldLink RX1 22 "MeterSeals$Rows" "degrees" "[I", Cond.methodLink RX0 87 yX2_aboveAt]
def wsX0_litresAbove_r2 : List Cond := [Cond.instanceMethod yX2_aboveAt, Cond.selects RX2 yX2_aboveAt yX2_aboveAt, Cond.initialized RX2, Cond.code yX2_aboveAt cX2_aboveAt 3 (some .long), Cond.fieldLink RX2 15 "MeterSeals$Table" "aboves" "[J", Cond.methodLink RX2 46 yX2_lineAt, Cond.instanceMethod yX2_lineAt, Cond.selects RX2 yX2_lineAt yX2_lineAt, Cond.code yX2_lineAt cX2_lineAt 4 (some .int), Cond.fieldLink RX2 22 "MeterSeals$Table" "count" "I", Cond.fieldLink RX2 9 "MeterSeals$Table" "starts" "[I", Cond.methodLink RX2 49 yX2_goesBefore, Cond.static yX2_goesBefore, Cond.code yX2_goesBefore cX2_goesBefore 3 (some .boolean)]
def wsX0_litresAbove : List Cond := .code yX0_litresAbove cX0_litresAbove 2 (some .long) :: ((wsX0_litresAbove_r1 ++ wsX0_litresAbove_r2) ++ wsX00 ++ wsX10 ++ wsX20)
def wsX2_belowAt : List Cond := .code yX2_belowAt cX2_belowAt 3 (some .long) :: ([.fieldLink RX2 19 "MeterSeals$Table" "belows" "[J", .methodLink RX2 46 yX2_lineAt, .instanceMethod yX2_lineAt, .selects RX2 yX2_lineAt yX2_lineAt, .initialized RX2, .code yX2_lineAt cX2_lineAt 4 (some .int), .fieldLink RX2 22 "MeterSeals$Table" "count" "I", .fieldLink RX2 9 "MeterSeals$Table" "starts" "[I", .methodLink RX2 49 yX2_goesBefore, .static yX2_goesBefore, .code yX2_goesBefore cX2_goesBefore 3 (some .boolean)] ++ wsX20)
def wsX0_litresBelow_r1 : List Cond := [Cond.fieldLink RX0 23 "MeterSeals$Meter" "rows" "LMeterSeals$Rows;", Cond.fieldLink RX0 12 "MeterSeals$Meter" "table" "LMeterSeals$Table;", Cond.methodLink RX0 90 yX1_isReading, Cond.instanceMethod yX1_isReading, Cond.selects RX1 yX1_isReading yX1_isReading, Cond.initialized RX1, Cond.code yX1_isReading cX1_isReading 2 (some .boolean), Cond.fieldLink RX1 19 "MeterSeals$Rows" "stamps" "[J", Cond.methodLink RX1 41 yX1_holds, Cond.instanceMethod yX1_holds, Cond.selects RX1 yX1_holds yX1_holds, Cond.code yX1_holds cX1_holds 2 (some .boolean), Cond.fieldLink RX1 33 "MeterSeals$Rows" "count" "I", Cond.methodLink RX0 83 yX1_degreesOf, Cond.instanceMethod yX1_degreesOf, Cond.selects RX1 yX1_degreesOf yX1_degreesOf, Cond.code yX1_degreesOf cX1_degreesOf 2 (some .int), Cond.fieldLink RX1 22 "MeterSeals$Rows" "degrees" "[I", Cond.methodLink RX0 94 yX2_belowAt, Cond.instanceMethod yX2_belowAt, Cond.selects RX2 yX2_belowAt yX2_belowAt, Cond.initialized RX2, Cond.code yX2_belowAt cX2_belowAt 3 (some .long), Cond.fieldLink RX2 19 "MeterSeals$Table" "belows" "[J"]
def wsX0_litresBelow_r2 : List Cond := [Cond.methodLink RX2 46 yX2_lineAt, Cond.instanceMethod yX2_lineAt, Cond.selects RX2 yX2_lineAt yX2_lineAt, Cond.code yX2_lineAt cX2_lineAt 4 (some .int), Cond.fieldLink RX2 22 "MeterSeals$Table" "count" "I", Cond.fieldLink RX2 9 "MeterSeals$Table" "starts" "[I", Cond.methodLink RX2 49 yX2_goesBefore, Cond.static yX2_goesBefore, Cond.code yX2_goesBefore cX2_goesBefore 3 (some .boolean)]
def wsX0_litresBelow : List Cond := .code yX0_litresBelow cX0_litresBelow 2 (some .long) :: ((wsX0_litresBelow_r1 ++ wsX0_litresBelow_r2) ++ wsX00 ++ wsX10 ++ wsX20)
def wsX3_commonDivisor : List Cond := .code yX3_commonDivisor cX3_commonDivisor 11 (some .long) :: ([])
def wsX3_quotient : List Cond := .code yX3_quotient cX3_quotient 4 (some .long) :: ([])
def wsX0_fractionPart_r1 : List Cond := [Cond.methodLink RX0 63 yX0_litresAbove, Cond.instanceMethod yX0_litresAbove, Cond.selects RX0 yX0_litresAbove yX0_litresAbove, Cond.initialized RX0, Cond.code yX0_litresAbove cX0_litresAbove 2 (some .long), Cond.fieldLink RX0 23 "MeterSeals$Meter" "rows" "LMeterSeals$Rows;", Cond.fieldLink RX0 12 "MeterSeals$Meter" "table" "LMeterSeals$Table;", Cond.methodLink RX0 80 yX1_pulsesOf, Cond.instanceMethod yX1_pulsesOf, Cond.selects RX1 yX1_pulsesOf yX1_pulsesOf, Cond.initialized RX1, Cond.code yX1_pulsesOf cX1_pulsesOf 2 (some .long), Cond.fieldLink RX1 15 "MeterSeals$Rows" "numbers" "[J", Cond.methodLink RX1 45 yX1_isReading, Cond.instanceMethod yX1_isReading, Cond.selects RX1 yX1_isReading yX1_isReading, Cond.code yX1_isReading cX1_isReading 2 (some .boolean), Cond.fieldLink RX1 19 "MeterSeals$Rows" "stamps" "[J", Cond.methodLink RX1 41 yX1_holds, Cond.instanceMethod yX1_holds, Cond.selects RX1 yX1_holds yX1_holds, Cond.code yX1_holds cX1_holds 2 (some .boolean), Cond.fieldLink RX1 33 "MeterSeals$Rows" "count" "I", Cond.methodLink RX0 83 yX1_degreesOf]
def wsX0_fractionPart_r2 : List Cond := [Cond.instanceMethod yX1_degreesOf, Cond.selects RX1 yX1_degreesOf yX1_degreesOf, Cond.code yX1_degreesOf cX1_degreesOf 2 (some .int), Cond.fieldLink RX1 22 "MeterSeals$Rows" "degrees" "[I", Cond.methodLink RX0 87 yX2_aboveAt, Cond.instanceMethod yX2_aboveAt, Cond.selects RX2 yX2_aboveAt yX2_aboveAt, Cond.initialized RX2, Cond.code yX2_aboveAt cX2_aboveAt 3 (some .long), Cond.fieldLink RX2 15 "MeterSeals$Table" "aboves" "[J", Cond.methodLink RX2 46 yX2_lineAt, Cond.instanceMethod yX2_lineAt, Cond.selects RX2 yX2_lineAt yX2_lineAt, Cond.code yX2_lineAt cX2_lineAt 4 (some .int), Cond.fieldLink RX2 22 "MeterSeals$Table" "count" "I", Cond.fieldLink RX2 9 "MeterSeals$Table" "starts" "[I", Cond.methodLink RX2 49 yX2_goesBefore, Cond.static yX2_goesBefore, Cond.code yX2_goesBefore cX2_goesBefore 3 (some .boolean), Cond.methodLink RX0 67 yX0_litresBelow, Cond.instanceMethod yX0_litresBelow, Cond.selects RX0 yX0_litresBelow yX0_litresBelow, Cond.code yX0_litresBelow cX0_litresBelow 2 (some .long), Cond.methodLink RX0 90 yX1_isReading]
def wsX0_fractionPart_r3 : List Cond := [Cond.methodLink RX0 94 yX2_belowAt, Cond.instanceMethod yX2_belowAt, Cond.selects RX2 yX2_belowAt yX2_belowAt, Cond.code yX2_belowAt cX2_belowAt 3 (some .long), Cond.fieldLink RX2 19 "MeterSeals$Table" "belows" "[J", Cond.static yX3_commonDivisor, Cond.initialized RX3, Cond.code yX3_commonDivisor cX3_commonDivisor 11 (some .long), Cond.static yX3_quotient, Cond.code yX3_quotient cX3_quotient 4 (some .long)]
def wsX0_fractionPart : List Cond := .code yX0_fractionPart cX0_fractionPart 7 (some .long) :: ((wsX0_fractionPart_r1 ++ (wsX0_fractionPart_r2 ++ wsX0_fractionPart_r3)) ++ wsX00 ++ wsX10 ++ wsX20)
def wsX0_allThousandths_r1 : List Cond := [Cond.fieldLink RX0 23 "MeterSeals$Meter" "rows" "LMeterSeals$Rows;", Cond.constantLong RX0 78 (1000), Cond.methodLink RX0 63 yX0_litresAbove, Cond.instanceMethod yX0_litresAbove, Cond.selects RX0 yX0_litresAbove yX0_litresAbove, Cond.initialized RX0, Cond.code yX0_litresAbove cX0_litresAbove 2 (some .long), Cond.fieldLink RX0 12 "MeterSeals$Meter" "table" "LMeterSeals$Table;", Cond.methodLink RX0 80 yX1_pulsesOf, Cond.instanceMethod yX1_pulsesOf, Cond.selects RX1 yX1_pulsesOf yX1_pulsesOf, Cond.initialized RX1, Cond.code yX1_pulsesOf cX1_pulsesOf 2 (some .long), Cond.fieldLink RX1 15 "MeterSeals$Rows" "numbers" "[J", Cond.methodLink RX1 45 yX1_isReading, Cond.instanceMethod yX1_isReading, Cond.selects RX1 yX1_isReading yX1_isReading, Cond.code yX1_isReading cX1_isReading 2 (some .boolean), Cond.fieldLink RX1 19 "MeterSeals$Rows" "stamps" "[J", Cond.methodLink RX1 41 yX1_holds, Cond.instanceMethod yX1_holds, Cond.selects RX1 yX1_holds yX1_holds, Cond.code yX1_holds cX1_holds 2 (some .boolean), Cond.fieldLink RX1 33 "MeterSeals$Rows" "count" "I"]
def wsX0_allThousandths_r2 : List Cond := [Cond.methodLink RX0 83 yX1_degreesOf, Cond.instanceMethod yX1_degreesOf, Cond.selects RX1 yX1_degreesOf yX1_degreesOf, Cond.code yX1_degreesOf cX1_degreesOf 2 (some .int), Cond.fieldLink RX1 22 "MeterSeals$Rows" "degrees" "[I", Cond.methodLink RX0 87 yX2_aboveAt, Cond.instanceMethod yX2_aboveAt, Cond.selects RX2 yX2_aboveAt yX2_aboveAt, Cond.initialized RX2, Cond.code yX2_aboveAt cX2_aboveAt 3 (some .long), Cond.fieldLink RX2 15 "MeterSeals$Table" "aboves" "[J", Cond.methodLink RX2 46 yX2_lineAt, Cond.instanceMethod yX2_lineAt, Cond.selects RX2 yX2_lineAt yX2_lineAt, Cond.code yX2_lineAt cX2_lineAt 4 (some .int), Cond.fieldLink RX2 22 "MeterSeals$Table" "count" "I", Cond.fieldLink RX2 9 "MeterSeals$Table" "starts" "[I", Cond.methodLink RX2 49 yX2_goesBefore, Cond.static yX2_goesBefore, Cond.code yX2_goesBefore cX2_goesBefore 3 (some .boolean), Cond.methodLink RX0 67 yX0_litresBelow, Cond.instanceMethod yX0_litresBelow, Cond.selects RX0 yX0_litresBelow yX0_litresBelow, Cond.code yX0_litresBelow cX0_litresBelow 2 (some .long)]
def wsX0_allThousandths_r3 : List Cond := [Cond.methodLink RX0 90 yX1_isReading, Cond.methodLink RX0 94 yX2_belowAt, Cond.instanceMethod yX2_belowAt, Cond.selects RX2 yX2_belowAt yX2_belowAt, Cond.code yX2_belowAt cX2_belowAt 3 (some .long), Cond.fieldLink RX2 19 "MeterSeals$Table" "belows" "[J", Cond.static yX3_quotient, Cond.initialized RX3, Cond.code yX3_quotient cX3_quotient 4 (some .long)]
def wsX0_allThousandths : List Cond := .code yX0_allThousandths cX0_allThousandths 4 (some .long) :: ((wsX0_allThousandths_r1 ++ (wsX0_allThousandths_r2 ++ wsX0_allThousandths_r3)) ++ wsX00 ++ wsX10 ++ wsX20)
def wsX1_hasMark : List Cond := .code yX1_hasMark cX1_hasMark 2 (some .boolean) :: ([.fieldLink RX1 29 "MeterSeals$Rows" "marks" "[Z", .methodLink RX1 41 yX1_holds, .instanceMethod yX1_holds, .selects RX1 yX1_holds yX1_holds, .initialized RX1, .code yX1_holds cX1_holds 2 (some .boolean), .fieldLink RX1 33 "MeterSeals$Rows" "count" "I"] ++ wsX10)
def wsX1_addPulses : List Cond := .code yX1_addPulses cX1_addPulses 6 (some .boolean) :: ([.constantLong RX1 51 (1000000), .fieldLink RX1 15 "MeterSeals$Rows" "numbers" "[J", .methodLink RX1 48 yX1_pulsesOf, .instanceMethod yX1_pulsesOf, .selects RX1 yX1_pulsesOf yX1_pulsesOf, .initialized RX1, .code yX1_pulsesOf cX1_pulsesOf 2 (some .long), .methodLink RX1 45 yX1_isReading, .instanceMethod yX1_isReading, .selects RX1 yX1_isReading yX1_isReading, .code yX1_isReading cX1_isReading 2 (some .boolean), .fieldLink RX1 19 "MeterSeals$Rows" "stamps" "[J", .methodLink RX1 41 yX1_holds, .instanceMethod yX1_holds, .selects RX1 yX1_holds yX1_holds, .code yX1_holds cX1_holds 2 (some .boolean), .fieldLink RX1 33 "MeterSeals$Rows" "count" "I", .static yX3_within, .initialized RX3, .code yX3_within cX3_within 6 (some .boolean)] ++ wsX10)
def wsX1_firstWrong : List Cond := .code yX1_firstWrong cX1_firstWrong 3 (some .int) :: ([.fieldLink RX1 33 "MeterSeals$Rows" "count" "I", .fieldLink RX1 26 "MeterSeals$Rows" "sums" "[J", .methodLink RX1 37 yX1_dueSum, .instanceMethod yX1_dueSum, .selects RX1 yX1_dueSum yX1_dueSum, .initialized RX1, .code yX1_dueSum cX1_dueSum 6 (some .long), .fieldLink RX1 9 "MeterSeals$Rows" "key" "J", .constantLong RX1 57 (3), .fieldLink RX1 15 "MeterSeals$Rows" "numbers" "[J", .fieldLink RX1 19 "MeterSeals$Rows" "stamps" "[J", .fieldLink RX1 22 "MeterSeals$Rows" "degrees" "[I", .methodLink RX1 41 yX1_holds, .instanceMethod yX1_holds, .selects RX1 yX1_holds yX1_holds, .code yX1_holds cX1_holds 2 (some .boolean), .methodLink RX1 59 yX1_stir, .static yX1_stir, .code yX1_stir cX1_stir 6 (some .long), .constantLong RX1 63 (1099511628211)] ++ wsX10)
def wsX1_wholeMinutes : List Cond := .code yX1_wholeMinutes cX1_wholeMinutes 2 (some .int) :: ([.constantLong RX1 73 (60), .constantLong RX1 75 (2147483647), .methodLink RX1 77 Lib.MathLoose.min_long.x, .static Lib.MathLoose.min_long.x, .initialized "java/lang/Math", .code Lib.MathLoose.min_long.x Lib.MathLoose.min_long.code 4 (some .long)])
def wsX1_findGap : List Cond := .code yX1_findGap cX1_findGap 9 (some .int) :: ([.constantLong RX1 65 (-1), .fieldLink RX1 33 "MeterSeals$Rows" "count" "I", .fieldLink RX1 19 "MeterSeals$Rows" "stamps" "[J", .constantLong RX1 67 (3600), .methodLink RX1 45 yX1_isReading, .instanceMethod yX1_isReading, .selects RX1 yX1_isReading yX1_isReading, .initialized RX1, .code yX1_isReading cX1_isReading 2 (some .boolean), .methodLink RX1 41 yX1_holds, .instanceMethod yX1_holds, .selects RX1 yX1_holds yX1_holds, .code yX1_holds cX1_holds 2 (some .boolean), .methodLink RX1 69 yX1_wholeMinutes, .static yX1_wholeMinutes, .code yX1_wholeMinutes cX1_wholeMinutes 2 (some .int), .constantLong RX1 73 (60), .constantLong RX1 75 (2147483647), .methodLink RX1 77 Lib.MathLoose.min_long.x, .static Lib.MathLoose.min_long.x, .initialized "java/lang/Math", .code Lib.MathLoose.min_long.x Lib.MathLoose.min_long.code 4 (some .long)] ++ wsX10)
def wsX1_fieldCount : List Cond := .code yX1_fieldCount cX1_fieldCount 2 (some .int) :: ([.methodLink RX1 45 yX1_isReading, .instanceMethod yX1_isReading, .selects RX1 yX1_isReading yX1_isReading, .initialized RX1, .code yX1_isReading cX1_isReading 2 (some .boolean), .fieldLink RX1 19 "MeterSeals$Rows" "stamps" "[J", .methodLink RX1 41 yX1_holds, .instanceMethod yX1_holds, .selects RX1 yX1_holds yX1_holds, .code yX1_holds cX1_holds 2 (some .boolean), .fieldLink RX1 33 "MeterSeals$Rows" "count" "I"] ++ wsX10)
def wsX1_fieldOf : List Cond := .code yX1_fieldOf cX1_fieldOf 3 (some .long) :: ([.fieldLink RX1 15 "MeterSeals$Rows" "numbers" "[J", .fieldLink RX1 19 "MeterSeals$Rows" "stamps" "[J", .fieldLink RX1 22 "MeterSeals$Rows" "degrees" "[I", .methodLink RX1 41 yX1_holds, .instanceMethod yX1_holds, .selects RX1 yX1_holds yX1_holds, .initialized RX1, .code yX1_holds cX1_holds 2 (some .boolean), .fieldLink RX1 33 "MeterSeals$Rows" "count" "I"] ++ wsX10)
def wsX3_textLength : List Cond := .code yX3_textLength cX3_textLength 6 (some .int) :: ([.constantLong RX3 106 (10)])
def wsX1_lineLength_r1 : List Cond := [Cond.methodLink RX1 90 yX1_fieldCount, Cond.instanceMethod yX1_fieldCount, Cond.selects RX1 yX1_fieldCount yX1_fieldCount, Cond.initialized RX1, Cond.code yX1_fieldCount cX1_fieldCount 2 (some .int), Cond.methodLink RX1 45 yX1_isReading, Cond.instanceMethod yX1_isReading, Cond.selects RX1 yX1_isReading yX1_isReading, Cond.code yX1_isReading cX1_isReading 2 (some .boolean), Cond.fieldLink RX1 19 "MeterSeals$Rows" "stamps" "[J", Cond.methodLink RX1 41 yX1_holds, Cond.instanceMethod yX1_holds, Cond.selects RX1 yX1_holds yX1_holds, Cond.code yX1_holds cX1_holds 2 (some .boolean), Cond.fieldLink RX1 33 "MeterSeals$Rows" "count" "I", Cond.methodLink RX1 93 yX1_fieldOf, Cond.instanceMethod yX1_fieldOf, Cond.selects RX1 yX1_fieldOf yX1_fieldOf, Cond.code yX1_fieldOf cX1_fieldOf 3 (some .long), Cond.fieldLink RX1 15 "MeterSeals$Rows" "numbers" "[J", Cond.fieldLink RX1 22 "MeterSeals$Rows" "degrees" "[I", Cond.static yX3_textLength, Cond.initialized RX3, Cond.code yX3_textLength cX3_textLength 6 (some .int)]
def wsX1_lineLength_r2 : List Cond := [Cond.constantLong RX3 106 (10), Cond.methodLink RX1 100 yX1_hasMark, Cond.instanceMethod yX1_hasMark, Cond.selects RX1 yX1_hasMark yX1_hasMark, Cond.code yX1_hasMark cX1_hasMark 2 (some .boolean), Cond.fieldLink RX1 29 "MeterSeals$Rows" "marks" "[Z"]
def wsX1_lineLength : List Cond := .code yX1_lineLength cX1_lineLength 4 (some .int) :: ((wsX1_lineLength_r1 ++ wsX1_lineLength_r2) ++ wsX10)
def wsX1_letterOf : List Cond := .code yX1_letterOf cX1_letterOf 2 (some .char) :: ([.fieldLink RX1 19 "MeterSeals$Rows" "stamps" "[J", .constantLong RX1 65 (-1), .constantLong RX1 111 (-2), .methodLink RX1 41 yX1_holds, .instanceMethod yX1_holds, .selects RX1 yX1_holds yX1_holds, .initialized RX1, .code yX1_holds cX1_holds 2 (some .boolean), .fieldLink RX1 33 "MeterSeals$Rows" "count" "I", .methodLink RX1 45 yX1_isReading, .instanceMethod yX1_isReading, .selects RX1 yX1_isReading yX1_isReading, .code yX1_isReading cX1_isReading 2 (some .boolean)] ++ wsX10)
def wsX3_textByte : List Cond := .code yX3_textByte cX3_textByte 6 (some .int) :: ([.constantLong RX3 106 (10), .methodLink RX3 112 Lib.MathLoose.abs_long.x, .static Lib.MathLoose.abs_long.x, .initialized "java/lang/Math", .code Lib.MathLoose.abs_long.x Lib.MathLoose.abs_long.code 2 (some .long), .methodLink RX3 108 yX3_textLength, .static yX3_textLength, .initialized RX3, .code yX3_textLength cX3_textLength 6 (some .int)])
def wsX1_lineByte_r1 : List Cond := [Cond.methodLink RX1 103 yX1_letterOf, Cond.instanceMethod yX1_letterOf, Cond.selects RX1 yX1_letterOf yX1_letterOf, Cond.initialized RX1, Cond.code yX1_letterOf cX1_letterOf 2 (some .char), Cond.fieldLink RX1 19 "MeterSeals$Rows" "stamps" "[J", Cond.constantLong RX1 65 (-1), Cond.constantLong RX1 111 (-2), Cond.methodLink RX1 41 yX1_holds, Cond.instanceMethod yX1_holds, Cond.selects RX1 yX1_holds yX1_holds, Cond.code yX1_holds cX1_holds 2 (some .boolean), Cond.fieldLink RX1 33 "MeterSeals$Rows" "count" "I", Cond.methodLink RX1 45 yX1_isReading, Cond.instanceMethod yX1_isReading, Cond.selects RX1 yX1_isReading yX1_isReading, Cond.code yX1_isReading cX1_isReading 2 (some .boolean), Cond.methodLink RX1 90 yX1_fieldCount, Cond.instanceMethod yX1_fieldCount, Cond.selects RX1 yX1_fieldCount yX1_fieldCount, Cond.code yX1_fieldCount cX1_fieldCount 2 (some .int), Cond.methodLink RX1 93 yX1_fieldOf, Cond.instanceMethod yX1_fieldOf, Cond.selects RX1 yX1_fieldOf yX1_fieldOf]
def wsX1_lineByte_r2 : List Cond := [Cond.code yX1_fieldOf cX1_fieldOf 3 (some .long), Cond.fieldLink RX1 15 "MeterSeals$Rows" "numbers" "[J", Cond.fieldLink RX1 22 "MeterSeals$Rows" "degrees" "[I", Cond.static yX3_textLength, Cond.initialized RX3, Cond.code yX3_textLength cX3_textLength 6 (some .int), Cond.constantLong RX3 106 (10), Cond.static yX3_textByte, Cond.code yX3_textByte cX3_textByte 6 (some .int), Cond.methodLink RX3 112 Lib.MathLoose.abs_long.x, Cond.static Lib.MathLoose.abs_long.x, Cond.initialized "java/lang/Math", Cond.code Lib.MathLoose.abs_long.x Lib.MathLoose.abs_long.code 2 (some .long), Cond.methodLink RX3 108 yX3_textLength, Cond.methodLink RX1 100 yX1_hasMark, Cond.instanceMethod yX1_hasMark, Cond.selects RX1 yX1_hasMark yX1_hasMark, Cond.code yX1_hasMark cX1_hasMark 2 (some .boolean), Cond.fieldLink RX1 29 "MeterSeals$Rows" "marks" "[Z"]
def wsX1_lineByte : List Cond := .code yX1_lineByte cX1_lineByte 8 (some .int) :: ((wsX1_lineByte_r1 ++ wsX1_lineByte_r2) ++ wsX10)
def wsX1_rollByte_r1 : List Cond := [Cond.fieldLink RX1 33 "MeterSeals$Rows" "count" "I", Cond.methodLink RX1 82 yX1_lineLength, Cond.instanceMethod yX1_lineLength, Cond.selects RX1 yX1_lineLength yX1_lineLength, Cond.initialized RX1, Cond.code yX1_lineLength cX1_lineLength 4 (some .int), Cond.methodLink RX1 90 yX1_fieldCount, Cond.instanceMethod yX1_fieldCount, Cond.selects RX1 yX1_fieldCount yX1_fieldCount, Cond.code yX1_fieldCount cX1_fieldCount 2 (some .int), Cond.methodLink RX1 45 yX1_isReading, Cond.instanceMethod yX1_isReading, Cond.selects RX1 yX1_isReading yX1_isReading, Cond.code yX1_isReading cX1_isReading 2 (some .boolean), Cond.fieldLink RX1 19 "MeterSeals$Rows" "stamps" "[J", Cond.methodLink RX1 41 yX1_holds, Cond.instanceMethod yX1_holds, Cond.selects RX1 yX1_holds yX1_holds, Cond.code yX1_holds cX1_holds 2 (some .boolean), Cond.methodLink RX1 93 yX1_fieldOf, Cond.instanceMethod yX1_fieldOf, Cond.selects RX1 yX1_fieldOf yX1_fieldOf, Cond.code yX1_fieldOf cX1_fieldOf 3 (some .long), Cond.fieldLink RX1 15 "MeterSeals$Rows" "numbers" "[J"]
def wsX1_rollByte_r2 : List Cond := [Cond.fieldLink RX1 22 "MeterSeals$Rows" "degrees" "[I", Cond.static yX3_textLength, Cond.initialized RX3, Cond.code yX3_textLength cX3_textLength 6 (some .int), Cond.constantLong RX3 106 (10), Cond.methodLink RX1 100 yX1_hasMark, Cond.instanceMethod yX1_hasMark, Cond.selects RX1 yX1_hasMark yX1_hasMark, Cond.code yX1_hasMark cX1_hasMark 2 (some .boolean), Cond.fieldLink RX1 29 "MeterSeals$Rows" "marks" "[Z", Cond.methodLink RX1 86 yX1_lineByte, Cond.instanceMethod yX1_lineByte, Cond.selects RX1 yX1_lineByte yX1_lineByte, Cond.code yX1_lineByte cX1_lineByte 8 (some .int), Cond.methodLink RX1 103 yX1_letterOf, Cond.instanceMethod yX1_letterOf, Cond.selects RX1 yX1_letterOf yX1_letterOf, Cond.code yX1_letterOf cX1_letterOf 2 (some .char), Cond.constantLong RX1 65 (-1), Cond.constantLong RX1 111 (-2), Cond.static yX3_textByte, Cond.code yX3_textByte cX3_textByte 6 (some .int), Cond.methodLink RX3 112 Lib.MathLoose.abs_long.x, Cond.static Lib.MathLoose.abs_long.x]
def wsX1_rollByte_r3 : List Cond := [Cond.initialized "java/lang/Math", Cond.code Lib.MathLoose.abs_long.x Lib.MathLoose.abs_long.code 2 (some .long), Cond.methodLink RX3 108 yX3_textLength]
def wsX1_rollByte : List Cond := .code yX1_rollByte cX1_rollByte 5 (some .int) :: ((wsX1_rollByte_r1 ++ (wsX1_rollByte_r2 ++ wsX1_rollByte_r3)) ++ wsX10)
def wsX2_placeFor : List Cond := .code yX2_placeFor cX2_placeFor 3 (some .int) :: ([.fieldLink RX2 22 "MeterSeals$Table" "count" "I", .fieldLink RX2 9 "MeterSeals$Table" "starts" "[I"] ++ wsX20)
def wsX2_put : List Cond := .code yX2_put cX2_put 8 (some .boolean) :: ([.constantLong RX2 26 (-50), .constantLong RX2 28 (150), .constantLong RX2 34 (10000), .fieldLink RX2 9 "MeterSeals$Table" "starts" "[I", .fieldLink RX2 15 "MeterSeals$Table" "aboves" "[J", .fieldLink RX2 19 "MeterSeals$Table" "belows" "[J", .fieldLink RX2 22 "MeterSeals$Table" "count" "I", .methodLink RX2 40 Lib.Math.max.name, .static Lib.Math.max.name, .initialized "java/lang/Math", .code Lib.Math.max.name Lib.Math.max.code 2 (some .int), .static yX3_within, .initialized RX3, .code yX3_within cX3_within 6 (some .boolean), .methodLink RX2 36 yX2_placeFor, .instanceMethod yX2_placeFor, .selects RX2 yX2_placeFor yX2_placeFor, .initialized RX2, .code yX2_placeFor cX2_placeFor 3 (some .int)] ++ wsX20)
def wsX3_init : List Cond := .code yX3_init cX3_init 1 none :: ([.methodLink RX3 1 objectInit, .instanceMethod objectInit, .code objectInit ⟨#[0xb1]⟩ 1 none, .classLink RX3 9 RX0, .fieldLink RX3 11 "MeterSeals" "meters" "[LMeterSeals$Meter;", .fieldLink RX3 15 "MeterSeals" "meterCount" "I"] ++ wsX30)
def wsX3_meter_r1 : List Cond := [Cond.fieldLink RX3 15 "MeterSeals" "meterCount" "I", Cond.fieldLink RX3 11 "MeterSeals" "meters" "[LMeterSeals$Meter;", Cond.classLink RX3 9 RX0, Cond.instantiable RX0 4, Cond.initialized RX0, Cond.methodLink RX3 19 yX0_init, Cond.instanceMethod yX0_init, Cond.code yX0_init cX0_init 3 none, Cond.methodLink RX0 3 objectInit, Cond.instanceMethod objectInit, Cond.code objectInit ⟨#[0xb1]⟩ 1 none, Cond.classLink RX0 9 RX2, Cond.instantiable RX2 4, Cond.initialized RX2, Cond.fieldLink RX0 12 "MeterSeals$Meter" "table" "LMeterSeals$Table;", Cond.classLink RX0 18 RX1, Cond.instantiable RX1 7, Cond.initialized RX1, Cond.fieldLink RX0 23 "MeterSeals$Meter" "rows" "LMeterSeals$Rows;", Cond.fieldLink RX0 27 "MeterSeals$Meter" "sealed" "Z", Cond.fieldLink RX0 31 "MeterSeals$Meter" "lastSecond" "J", Cond.methodLink RX0 11 yX2_init, Cond.instanceMethod yX2_init, Cond.code yX2_init cX2_init 1 none]
def wsX3_meter_r2 : List Cond := [Cond.methodLink RX2 3 objectInit, Cond.arrayClass .int, Cond.fieldLink RX2 9 "MeterSeals$Table" "starts" "[I", Cond.arrayClass .long, Cond.fieldLink RX2 15 "MeterSeals$Table" "aboves" "[J", Cond.fieldLink RX2 19 "MeterSeals$Table" "belows" "[J", Cond.fieldLink RX2 22 "MeterSeals$Table" "count" "I", Cond.methodLink RX0 20 yX1_init, Cond.instanceMethod yX1_init, Cond.code yX1_init cX1_init 3 none, Cond.methodLink RX1 3 objectInit, Cond.fieldLink RX1 9 "MeterSeals$Rows" "key" "J", Cond.fieldLink RX1 15 "MeterSeals$Rows" "numbers" "[J", Cond.fieldLink RX1 19 "MeterSeals$Rows" "stamps" "[J", Cond.fieldLink RX1 22 "MeterSeals$Rows" "degrees" "[I", Cond.fieldLink RX1 26 "MeterSeals$Rows" "sums" "[J", Cond.arrayClass .boolean, Cond.fieldLink RX1 29 "MeterSeals$Rows" "marks" "[Z", Cond.fieldLink RX1 33 "MeterSeals$Rows" "count" "I"]
def wsX3_meter : List Cond := .code yX3_meter cX3_meter 4 (some .int) :: ((wsX3_meter_r1 ++ wsX3_meter_r2) ++ wsX30 ++ wsX00 ++ wsX20 ++ wsX10)
def wsX3_find : List Cond := .code yX3_find cX3_find 2 (some (.object "MeterSeals$Meter")) :: ([.fieldLink RX3 15 "MeterSeals" "meterCount" "I", .fieldLink RX3 11 "MeterSeals" "meters" "[LMeterSeals$Meter;"] ++ wsX30)
def wsX3_pulses_r1 : List Cond := [Cond.methodLink RX3 22 yX3_find, Cond.instanceMethod yX3_find, Cond.selects RX3 yX3_find yX3_find, Cond.initialized RX3, Cond.code yX3_find cX3_find 2 (some (.object "MeterSeals$Meter")), Cond.fieldLink RX3 15 "MeterSeals" "meterCount" "I", Cond.fieldLink RX3 11 "MeterSeals" "meters" "[LMeterSeals$Meter;", Cond.methodLink RX3 26 yX0_addReading, Cond.instanceMethod yX0_addReading, Cond.selects RX0 yX0_addReading yX0_addReading, Cond.initialized RX0, Cond.code yX0_addReading cX0_addReading 7 (some .boolean), Cond.fieldLink RX0 12 "MeterSeals$Meter" "table" "LMeterSeals$Table;", Cond.constantLong RX0 39 (1000000), Cond.fieldLink RX0 31 "MeterSeals$Meter" "lastSecond" "J", Cond.constantLong RX0 45 (1000000000000), Cond.constantLong RX0 47 (-50), Cond.constantLong RX0 49 (150), Cond.fieldLink RX0 23 "MeterSeals$Meter" "rows" "LMeterSeals$Rows;", Cond.fieldLink RX0 27 "MeterSeals$Meter" "sealed" "Z", Cond.static yX3_within, Cond.code yX3_within cX3_within 6 (some .boolean), Cond.methodLink RX0 51 yX1_add, Cond.instanceMethod yX1_add]
def wsX3_pulses_r2 : List Cond := [Cond.selects RX1 yX1_add yX1_add, Cond.initialized RX1, Cond.code yX1_add cX1_add 8 (some .boolean), Cond.fieldLink RX1 33 "MeterSeals$Rows" "count" "I", Cond.fieldLink RX1 15 "MeterSeals$Rows" "numbers" "[J", Cond.fieldLink RX1 19 "MeterSeals$Rows" "stamps" "[J", Cond.fieldLink RX1 22 "MeterSeals$Rows" "degrees" "[I", Cond.fieldLink RX1 29 "MeterSeals$Rows" "marks" "[Z", Cond.fieldLink RX1 26 "MeterSeals$Rows" "sums" "[J", Cond.methodLink RX1 37 yX1_dueSum, Cond.instanceMethod yX1_dueSum, Cond.selects RX1 yX1_dueSum yX1_dueSum, Cond.code yX1_dueSum cX1_dueSum 6 (some .long), Cond.fieldLink RX1 9 "MeterSeals$Rows" "key" "J", Cond.constantLong RX1 57 (3), Cond.methodLink RX1 41 yX1_holds, Cond.instanceMethod yX1_holds, Cond.selects RX1 yX1_holds yX1_holds, Cond.code yX1_holds cX1_holds 2 (some .boolean), Cond.methodLink RX1 59 yX1_stir, Cond.static yX1_stir, Cond.code yX1_stir cX1_stir 6 (some .long), Cond.constantLong RX1 63 (1099511628211)]
def wsX3_pulses : List Cond := .code yX3_pulses cX3_pulses 8 (some .boolean) :: ((wsX3_pulses_r1 ++ wsX3_pulses_r2) ++ wsX30 ++ wsX00 ++ wsX20 ++ wsX10)
def wsX3_row_r1 : List Cond := [Cond.methodLink RX3 22 yX3_find, Cond.instanceMethod yX3_find, Cond.selects RX3 yX3_find yX3_find, Cond.initialized RX3, Cond.code yX3_find cX3_find 2 (some (.object "MeterSeals$Meter")), Cond.fieldLink RX3 15 "MeterSeals" "meterCount" "I", Cond.fieldLink RX3 11 "MeterSeals" "meters" "[LMeterSeals$Meter;", Cond.methodLink RX3 34 yX2_put, Cond.instanceMethod yX2_put, Cond.selects RX2 yX2_put yX2_put, Cond.initialized RX2, Cond.code yX2_put cX2_put 8 (some .boolean), Cond.constantLong RX2 26 (-50), Cond.constantLong RX2 28 (150), Cond.constantLong RX2 34 (10000), Cond.fieldLink RX2 9 "MeterSeals$Table" "starts" "[I", Cond.fieldLink RX2 15 "MeterSeals$Table" "aboves" "[J", Cond.fieldLink RX2 19 "MeterSeals$Table" "belows" "[J", Cond.fieldLink RX2 22 "MeterSeals$Table" "count" "I", Cond.methodLink RX2 40 Lib.Math.max.name, Cond.static Lib.Math.max.name, Cond.initialized "java/lang/Math", Cond.code Lib.Math.max.name Lib.Math.max.code 2 (some .int), Cond.static yX3_within]
def wsX3_row_r2 : List Cond := [Cond.code yX3_within cX3_within 6 (some .boolean), Cond.methodLink RX2 36 yX2_placeFor, Cond.instanceMethod yX2_placeFor, Cond.selects RX2 yX2_placeFor yX2_placeFor, Cond.code yX2_placeFor cX2_placeFor 3 (some .int)]
def wsX3_row : List Cond := .code yX3_row cX3_row 8 (some .boolean) :: ((wsX3_row_r1 ++ wsX3_row_r2) ++ wsX00 ++ wsX30 ++ wsX20)
def wsX3_litres_r1 : List Cond := [Cond.constantLong RX3 40 (-1), Cond.classLink RX3 52 RJx00060, Cond.instantiable RJx00060 6, Cond.initialized RJx00060, Cond.methodLink RX3 22 yX3_find, Cond.instanceMethod yX3_find, Cond.selects RX3 yX3_find yX3_find, Cond.initialized RX3, Cond.code yX3_find cX3_find 2 (some (.object "MeterSeals$Meter")), Cond.fieldLink RX3 15 "MeterSeals" "meterCount" "I", Cond.fieldLink RX3 11 "MeterSeals" "meters" "[LMeterSeals$Meter;", Cond.methodLink RX3 46 yX1_holds, Cond.instanceMethod yX1_holds, Cond.selects RX1 yX1_holds yX1_holds, Cond.initialized RX1, Cond.code yX1_holds cX1_holds 2 (some .boolean), Cond.fieldLink RX1 33 "MeterSeals$Rows" "count" "I", Cond.methodLink RX3 59 yX0_fractionPart, Cond.instanceMethod yX0_fractionPart, Cond.selects RX0 yX0_fractionPart yX0_fractionPart, Cond.initialized RX0, Cond.code yX0_fractionPart cX0_fractionPart 7 (some .long), Cond.methodLink RX0 63 yX0_litresAbove, Cond.instanceMethod yX0_litresAbove]
def wsX3_litres_r2 : List Cond := [Cond.selects RX0 yX0_litresAbove yX0_litresAbove, Cond.code yX0_litresAbove cX0_litresAbove 2 (some .long), Cond.fieldLink RX0 23 "MeterSeals$Meter" "rows" "LMeterSeals$Rows;", Cond.fieldLink RX0 12 "MeterSeals$Meter" "table" "LMeterSeals$Table;", Cond.methodLink RX0 80 yX1_pulsesOf, Cond.instanceMethod yX1_pulsesOf, Cond.selects RX1 yX1_pulsesOf yX1_pulsesOf, Cond.code yX1_pulsesOf cX1_pulsesOf 2 (some .long), Cond.fieldLink RX1 15 "MeterSeals$Rows" "numbers" "[J", Cond.methodLink RX1 45 yX1_isReading, Cond.instanceMethod yX1_isReading, Cond.selects RX1 yX1_isReading yX1_isReading, Cond.code yX1_isReading cX1_isReading 2 (some .boolean), Cond.fieldLink RX1 19 "MeterSeals$Rows" "stamps" "[J", Cond.methodLink RX1 41 yX1_holds, Cond.methodLink RX0 83 yX1_degreesOf, Cond.instanceMethod yX1_degreesOf, Cond.selects RX1 yX1_degreesOf yX1_degreesOf, Cond.code yX1_degreesOf cX1_degreesOf 2 (some .int), Cond.fieldLink RX1 22 "MeterSeals$Rows" "degrees" "[I", Cond.methodLink RX0 87 yX2_aboveAt, Cond.instanceMethod yX2_aboveAt, Cond.selects RX2 yX2_aboveAt yX2_aboveAt, Cond.initialized RX2]
def wsX3_litres_r3 : List Cond := [Cond.code yX2_aboveAt cX2_aboveAt 3 (some .long), Cond.fieldLink RX2 15 "MeterSeals$Table" "aboves" "[J", Cond.methodLink RX2 46 yX2_lineAt, Cond.instanceMethod yX2_lineAt, Cond.selects RX2 yX2_lineAt yX2_lineAt, Cond.code yX2_lineAt cX2_lineAt 4 (some .int), Cond.fieldLink RX2 22 "MeterSeals$Table" "count" "I", Cond.fieldLink RX2 9 "MeterSeals$Table" "starts" "[I", Cond.methodLink RX2 49 yX2_goesBefore, Cond.static yX2_goesBefore, Cond.code yX2_goesBefore cX2_goesBefore 3 (some .boolean), Cond.methodLink RX0 67 yX0_litresBelow, Cond.instanceMethod yX0_litresBelow, Cond.selects RX0 yX0_litresBelow yX0_litresBelow, Cond.code yX0_litresBelow cX0_litresBelow 2 (some .long), Cond.methodLink RX0 90 yX1_isReading, Cond.methodLink RX0 94 yX2_belowAt, Cond.instanceMethod yX2_belowAt, Cond.selects RX2 yX2_belowAt yX2_belowAt, Cond.code yX2_belowAt cX2_belowAt 3 (some .long), Cond.fieldLink RX2 19 "MeterSeals$Table" "belows" "[J", Cond.static yX3_commonDivisor, Cond.code yX3_commonDivisor cX3_commonDivisor 11 (some .long), Cond.static yX3_quotient]
def wsX3_litres_r4 : List Cond := [Cond.code yX3_quotient cX3_quotient 4 (some .long)]
def wsX3_litres : List Cond := .code yX3_litres cX3_litres 5 (some .long) :: ((wsX3_litres_r1 ++ (wsX3_litres_r2 ++ (wsX3_litres_r3 ++ wsX3_litres_r4))) ++ wsX00 ++ wsJx000600 ++ wsX30 ++ wsX10 ++ wsX20)
def wsX3_rows : List Cond := .code yX3_rows cX3_rows 3 (some .int) :: ([.methodLink RX3 22 yX3_find, .instanceMethod yX3_find, .selects RX3 yX3_find yX3_find, .initialized RX3, .code yX3_find cX3_find 2 (some (.object "MeterSeals$Meter")), .fieldLink RX3 15 "MeterSeals" "meterCount" "I", .fieldLink RX3 11 "MeterSeals" "meters" "[LMeterSeals$Meter;"] ++ wsX00 ++ wsX10 ++ wsX30)
def wsX3_check_r1 : List Cond := [Cond.methodLink RX3 22 yX3_find, Cond.instanceMethod yX3_find, Cond.selects RX3 yX3_find yX3_find, Cond.initialized RX3, Cond.code yX3_find cX3_find 2 (some (.object "MeterSeals$Meter")), Cond.fieldLink RX3 15 "MeterSeals" "meterCount" "I", Cond.fieldLink RX3 11 "MeterSeals" "meters" "[LMeterSeals$Meter;", Cond.methodLink RX3 66 yX1_firstWrong, Cond.instanceMethod yX1_firstWrong, Cond.selects RX1 yX1_firstWrong yX1_firstWrong, Cond.initialized RX1, Cond.code yX1_firstWrong cX1_firstWrong 3 (some .int), Cond.fieldLink RX1 33 "MeterSeals$Rows" "count" "I", Cond.fieldLink RX1 26 "MeterSeals$Rows" "sums" "[J", Cond.methodLink RX1 37 yX1_dueSum, Cond.instanceMethod yX1_dueSum, Cond.selects RX1 yX1_dueSum yX1_dueSum, Cond.code yX1_dueSum cX1_dueSum 6 (some .long), Cond.fieldLink RX1 9 "MeterSeals$Rows" "key" "J", Cond.constantLong RX1 57 (3), Cond.fieldLink RX1 15 "MeterSeals$Rows" "numbers" "[J", Cond.fieldLink RX1 19 "MeterSeals$Rows" "stamps" "[J", Cond.fieldLink RX1 22 "MeterSeals$Rows" "degrees" "[I", Cond.methodLink RX1 41 yX1_holds]
def wsX3_check_r2 : List Cond := [Cond.instanceMethod yX1_holds, Cond.selects RX1 yX1_holds yX1_holds, Cond.code yX1_holds cX1_holds 2 (some .boolean), Cond.methodLink RX1 59 yX1_stir, Cond.static yX1_stir, Cond.code yX1_stir cX1_stir 6 (some .long), Cond.constantLong RX1 63 (1099511628211)]
def wsX3_check : List Cond := .code yX3_check cX3_check 4 (some .int) :: ((wsX3_check_r1 ++ wsX3_check_r2) ++ wsX00 ++ wsX30 ++ wsX10)
def wsX3_poke_r1 : List Cond := [Cond.methodLink RX3 22 yX3_find, Cond.instanceMethod yX3_find, Cond.selects RX3 yX3_find yX3_find, Cond.initialized RX3, Cond.code yX3_find cX3_find 2 (some (.object "MeterSeals$Meter")), Cond.fieldLink RX3 15 "MeterSeals" "meterCount" "I", Cond.fieldLink RX3 11 "MeterSeals" "meters" "[LMeterSeals$Meter;", Cond.methodLink RX3 70 yX1_addPulses, Cond.instanceMethod yX1_addPulses, Cond.selects RX1 yX1_addPulses yX1_addPulses, Cond.initialized RX1, Cond.code yX1_addPulses cX1_addPulses 6 (some .boolean), Cond.constantLong RX1 51 (1000000), Cond.fieldLink RX1 15 "MeterSeals$Rows" "numbers" "[J", Cond.methodLink RX1 48 yX1_pulsesOf, Cond.instanceMethod yX1_pulsesOf, Cond.selects RX1 yX1_pulsesOf yX1_pulsesOf, Cond.code yX1_pulsesOf cX1_pulsesOf 2 (some .long), Cond.methodLink RX1 45 yX1_isReading, Cond.instanceMethod yX1_isReading, Cond.selects RX1 yX1_isReading yX1_isReading, Cond.code yX1_isReading cX1_isReading 2 (some .boolean), Cond.fieldLink RX1 19 "MeterSeals$Rows" "stamps" "[J", Cond.methodLink RX1 41 yX1_holds]
def wsX3_poke_r2 : List Cond := [Cond.instanceMethod yX1_holds, Cond.selects RX1 yX1_holds yX1_holds, Cond.code yX1_holds cX1_holds 2 (some .boolean), Cond.fieldLink RX1 33 "MeterSeals$Rows" "count" "I", Cond.static yX3_within, Cond.code yX3_within cX3_within 6 (some .boolean)]
def wsX3_poke : List Cond := .code yX3_poke cX3_poke 6 (some .boolean) :: ((wsX3_poke_r1 ++ wsX3_poke_r2) ++ wsX00 ++ wsX30 ++ wsX10)
def wsX3_seal_r1 : List Cond := [Cond.methodLink RX3 22 yX3_find, Cond.instanceMethod yX3_find, Cond.selects RX3 yX3_find yX3_find, Cond.initialized RX3, Cond.code yX3_find cX3_find 2 (some (.object "MeterSeals$Meter")), Cond.fieldLink RX3 15 "MeterSeals" "meterCount" "I", Cond.fieldLink RX3 11 "MeterSeals" "meters" "[LMeterSeals$Meter;", Cond.methodLink RX3 74 yX0_turnSeal, Cond.instanceMethod yX0_turnSeal, Cond.selects RX0 yX0_turnSeal yX0_turnSeal, Cond.initialized RX0, Cond.code yX0_turnSeal cX0_turnSeal 3 (some .boolean), Cond.constantLong RX0 57 (999), Cond.fieldLink RX0 27 "MeterSeals$Meter" "sealed" "Z", Cond.fieldLink RX0 23 "MeterSeals$Meter" "rows" "LMeterSeals$Rows;", Cond.constantLong RX0 59 (-3), Cond.constantLong RX0 61 (-2), Cond.static yX3_within, Cond.code yX3_within cX3_within 6 (some .boolean), Cond.methodLink RX0 51 yX1_add, Cond.instanceMethod yX1_add, Cond.selects RX1 yX1_add yX1_add, Cond.initialized RX1, Cond.code yX1_add cX1_add 8 (some .boolean)]
def wsX3_seal_r2 : List Cond := [Cond.fieldLink RX1 33 "MeterSeals$Rows" "count" "I", Cond.fieldLink RX1 15 "MeterSeals$Rows" "numbers" "[J", Cond.fieldLink RX1 19 "MeterSeals$Rows" "stamps" "[J", Cond.fieldLink RX1 22 "MeterSeals$Rows" "degrees" "[I", Cond.fieldLink RX1 29 "MeterSeals$Rows" "marks" "[Z", Cond.fieldLink RX1 26 "MeterSeals$Rows" "sums" "[J", Cond.methodLink RX1 37 yX1_dueSum, Cond.instanceMethod yX1_dueSum, Cond.selects RX1 yX1_dueSum yX1_dueSum, Cond.code yX1_dueSum cX1_dueSum 6 (some .long), Cond.fieldLink RX1 9 "MeterSeals$Rows" "key" "J", Cond.constantLong RX1 57 (3), Cond.methodLink RX1 41 yX1_holds, Cond.instanceMethod yX1_holds, Cond.selects RX1 yX1_holds yX1_holds, Cond.code yX1_holds cX1_holds 2 (some .boolean), Cond.methodLink RX1 59 yX1_stir, Cond.static yX1_stir, Cond.code yX1_stir cX1_stir 6 (some .long), Cond.constantLong RX1 63 (1099511628211)]
def wsX3_seal : List Cond := .code yX3_seal cX3_seal 5 (some .boolean) :: ((wsX3_seal_r1 ++ wsX3_seal_r2) ++ wsX30 ++ wsX00 ++ wsX10)
def wsX3_marked : List Cond := .code yX3_marked cX3_marked 4 (some .boolean) :: ([.methodLink RX3 22 yX3_find, .instanceMethod yX3_find, .selects RX3 yX3_find yX3_find, .initialized RX3, .code yX3_find cX3_find 2 (some (.object "MeterSeals$Meter")), .fieldLink RX3 15 "MeterSeals" "meterCount" "I", .fieldLink RX3 11 "MeterSeals" "meters" "[LMeterSeals$Meter;", .methodLink RX3 78 yX1_hasMark, .instanceMethod yX1_hasMark, .selects RX1 yX1_hasMark yX1_hasMark, .initialized RX1, .code yX1_hasMark cX1_hasMark 2 (some .boolean), .fieldLink RX1 29 "MeterSeals$Rows" "marks" "[Z", .methodLink RX1 41 yX1_holds, .instanceMethod yX1_holds, .selects RX1 yX1_holds yX1_holds, .code yX1_holds cX1_holds 2 (some .boolean), .fieldLink RX1 33 "MeterSeals$Rows" "count" "I"] ++ wsX00 ++ wsX30 ++ wsX10)
def wsX3_gap_r1 : List Cond := [Cond.methodLink RX3 22 yX3_find, Cond.instanceMethod yX3_find, Cond.selects RX3 yX3_find yX3_find, Cond.initialized RX3, Cond.code yX3_find cX3_find 2 (some (.object "MeterSeals$Meter")), Cond.fieldLink RX3 15 "MeterSeals" "meterCount" "I", Cond.fieldLink RX3 11 "MeterSeals" "meters" "[LMeterSeals$Meter;", Cond.methodLink RX3 81 yX1_findGap, Cond.instanceMethod yX1_findGap, Cond.selects RX1 yX1_findGap yX1_findGap, Cond.initialized RX1, Cond.code yX1_findGap cX1_findGap 9 (some .int), Cond.constantLong RX1 65 (-1), Cond.fieldLink RX1 33 "MeterSeals$Rows" "count" "I", Cond.fieldLink RX1 19 "MeterSeals$Rows" "stamps" "[J", Cond.constantLong RX1 67 (3600), Cond.methodLink RX1 45 yX1_isReading, Cond.instanceMethod yX1_isReading, Cond.selects RX1 yX1_isReading yX1_isReading, Cond.code yX1_isReading cX1_isReading 2 (some .boolean), Cond.methodLink RX1 41 yX1_holds, Cond.instanceMethod yX1_holds, Cond.selects RX1 yX1_holds yX1_holds, Cond.code yX1_holds cX1_holds 2 (some .boolean)]
def wsX3_gap_r2 : List Cond := [Cond.methodLink RX1 69 yX1_wholeMinutes, Cond.static yX1_wholeMinutes, Cond.code yX1_wholeMinutes cX1_wholeMinutes 2 (some .int), Cond.constantLong RX1 73 (60), Cond.constantLong RX1 75 (2147483647), Cond.methodLink RX1 77 Lib.MathLoose.min_long.x, Cond.static Lib.MathLoose.min_long.x, Cond.initialized "java/lang/Math", Cond.code Lib.MathLoose.min_long.x Lib.MathLoose.min_long.code 4 (some .long)]
def wsX3_gap : List Cond := .code yX3_gap cX3_gap 5 (some .int) :: ((wsX3_gap_r1 ++ wsX3_gap_r2) ++ wsX00 ++ wsX30 ++ wsX10)
def wsX3_rest_r1 : List Cond := [Cond.constantLong RX3 85 (1000000000), Cond.constantLong RX3 91 (-9223372036854775808), Cond.constantLong RX3 97 (1000), Cond.methodLink RX3 22 yX3_find, Cond.instanceMethod yX3_find, Cond.selects RX3 yX3_find yX3_find, Cond.initialized RX3, Cond.code yX3_find cX3_find 2 (some (.object "MeterSeals$Meter")), Cond.fieldLink RX3 15 "MeterSeals" "meterCount" "I", Cond.fieldLink RX3 11 "MeterSeals" "meters" "[LMeterSeals$Meter;", Cond.methodLink RX3 87 yX3_within, Cond.static yX3_within, Cond.code yX3_within cX3_within 6 (some .boolean), Cond.methodLink RX3 93 yX0_allThousandths, Cond.instanceMethod yX0_allThousandths, Cond.selects RX0 yX0_allThousandths yX0_allThousandths, Cond.initialized RX0, Cond.code yX0_allThousandths cX0_allThousandths 4 (some .long), Cond.fieldLink RX0 23 "MeterSeals$Meter" "rows" "LMeterSeals$Rows;", Cond.constantLong RX0 78 (1000), Cond.methodLink RX0 63 yX0_litresAbove, Cond.instanceMethod yX0_litresAbove, Cond.selects RX0 yX0_litresAbove yX0_litresAbove, Cond.code yX0_litresAbove cX0_litresAbove 2 (some .long)]
def wsX3_rest_r2 : List Cond := [Cond.fieldLink RX0 12 "MeterSeals$Meter" "table" "LMeterSeals$Table;", Cond.methodLink RX0 80 yX1_pulsesOf, Cond.instanceMethod yX1_pulsesOf, Cond.selects RX1 yX1_pulsesOf yX1_pulsesOf, Cond.initialized RX1, Cond.code yX1_pulsesOf cX1_pulsesOf 2 (some .long), Cond.fieldLink RX1 15 "MeterSeals$Rows" "numbers" "[J", Cond.methodLink RX1 45 yX1_isReading, Cond.instanceMethod yX1_isReading, Cond.selects RX1 yX1_isReading yX1_isReading, Cond.code yX1_isReading cX1_isReading 2 (some .boolean), Cond.fieldLink RX1 19 "MeterSeals$Rows" "stamps" "[J", Cond.methodLink RX1 41 yX1_holds, Cond.instanceMethod yX1_holds, Cond.selects RX1 yX1_holds yX1_holds, Cond.code yX1_holds cX1_holds 2 (some .boolean), Cond.fieldLink RX1 33 "MeterSeals$Rows" "count" "I", Cond.methodLink RX0 83 yX1_degreesOf, Cond.instanceMethod yX1_degreesOf, Cond.selects RX1 yX1_degreesOf yX1_degreesOf, Cond.code yX1_degreesOf cX1_degreesOf 2 (some .int), Cond.fieldLink RX1 22 "MeterSeals$Rows" "degrees" "[I", Cond.methodLink RX0 87 yX2_aboveAt, Cond.instanceMethod yX2_aboveAt]
def wsX3_rest_r3 : List Cond := [Cond.selects RX2 yX2_aboveAt yX2_aboveAt, Cond.initialized RX2, Cond.code yX2_aboveAt cX2_aboveAt 3 (some .long), Cond.fieldLink RX2 15 "MeterSeals$Table" "aboves" "[J", Cond.methodLink RX2 46 yX2_lineAt, Cond.instanceMethod yX2_lineAt, Cond.selects RX2 yX2_lineAt yX2_lineAt, Cond.code yX2_lineAt cX2_lineAt 4 (some .int), Cond.fieldLink RX2 22 "MeterSeals$Table" "count" "I", Cond.fieldLink RX2 9 "MeterSeals$Table" "starts" "[I", Cond.methodLink RX2 49 yX2_goesBefore, Cond.static yX2_goesBefore, Cond.code yX2_goesBefore cX2_goesBefore 3 (some .boolean), Cond.methodLink RX0 67 yX0_litresBelow, Cond.instanceMethod yX0_litresBelow, Cond.selects RX0 yX0_litresBelow yX0_litresBelow, Cond.code yX0_litresBelow cX0_litresBelow 2 (some .long), Cond.methodLink RX0 90 yX1_isReading, Cond.methodLink RX0 94 yX2_belowAt, Cond.instanceMethod yX2_belowAt, Cond.selects RX2 yX2_belowAt yX2_belowAt, Cond.code yX2_belowAt cX2_belowAt 3 (some .long), Cond.fieldLink RX2 19 "MeterSeals$Table" "belows" "[J", Cond.static yX3_quotient]
def wsX3_rest_r4 : List Cond := [Cond.code yX3_quotient cX3_quotient 4 (some .long)]
def wsX3_rest : List Cond := .code yX3_rest cX3_rest 5 (some .long) :: ((wsX3_rest_r1 ++ (wsX3_rest_r2 ++ (wsX3_rest_r3 ++ wsX3_rest_r4))) ++ wsX30 ++ wsX00 ++ wsX10 ++ wsX20)
def wsX3_reset_r1 : List Cond := [Cond.methodLink RX3 22 yX3_find, Cond.instanceMethod yX3_find, Cond.selects RX3 yX3_find yX3_find, Cond.initialized RX3, Cond.code yX3_find cX3_find 2 (some (.object "MeterSeals$Meter")), Cond.fieldLink RX3 15 "MeterSeals" "meterCount" "I", Cond.fieldLink RX3 11 "MeterSeals" "meters" "[LMeterSeals$Meter;", Cond.methodLink RX3 99 yX0_addReset, Cond.instanceMethod yX0_addReset, Cond.selects RX0 yX0_addReset yX0_addReset, Cond.initialized RX0, Cond.code yX0_addReset cX0_addReset 3 (some .boolean), Cond.constantLong RX0 45 (1000000000000), Cond.fieldLink RX0 23 "MeterSeals$Meter" "rows" "LMeterSeals$Rows;", Cond.constantLong RX0 55 (-1), Cond.fieldLink RX0 27 "MeterSeals$Meter" "sealed" "Z", Cond.static yX3_within, Cond.code yX3_within cX3_within 6 (some .boolean), Cond.methodLink RX0 51 yX1_add, Cond.instanceMethod yX1_add, Cond.selects RX1 yX1_add yX1_add, Cond.initialized RX1, Cond.code yX1_add cX1_add 8 (some .boolean), Cond.fieldLink RX1 33 "MeterSeals$Rows" "count" "I"]
def wsX3_reset_r2 : List Cond := [Cond.fieldLink RX1 15 "MeterSeals$Rows" "numbers" "[J", Cond.fieldLink RX1 19 "MeterSeals$Rows" "stamps" "[J", Cond.fieldLink RX1 22 "MeterSeals$Rows" "degrees" "[I", Cond.fieldLink RX1 29 "MeterSeals$Rows" "marks" "[Z", Cond.fieldLink RX1 26 "MeterSeals$Rows" "sums" "[J", Cond.methodLink RX1 37 yX1_dueSum, Cond.instanceMethod yX1_dueSum, Cond.selects RX1 yX1_dueSum yX1_dueSum, Cond.code yX1_dueSum cX1_dueSum 6 (some .long), Cond.fieldLink RX1 9 "MeterSeals$Rows" "key" "J", Cond.constantLong RX1 57 (3), Cond.methodLink RX1 41 yX1_holds, Cond.instanceMethod yX1_holds, Cond.selects RX1 yX1_holds yX1_holds, Cond.code yX1_holds cX1_holds 2 (some .boolean), Cond.methodLink RX1 59 yX1_stir, Cond.static yX1_stir, Cond.code yX1_stir cX1_stir 6 (some .long), Cond.constantLong RX1 63 (1099511628211)]
def wsX3_reset : List Cond := .code yX3_reset cX3_reset 5 (some .boolean) :: ((wsX3_reset_r1 ++ wsX3_reset_r2) ++ wsX30 ++ wsX00 ++ wsX10)
def wsX3_roll_r1 : List Cond := [Cond.methodLink RX3 22 yX3_find, Cond.instanceMethod yX3_find, Cond.selects RX3 yX3_find yX3_find, Cond.initialized RX3, Cond.code yX3_find cX3_find 2 (some (.object "MeterSeals$Meter")), Cond.fieldLink RX3 15 "MeterSeals" "meterCount" "I", Cond.fieldLink RX3 11 "MeterSeals" "meters" "[LMeterSeals$Meter;", Cond.methodLink RX3 103 yX1_rollByte, Cond.instanceMethod yX1_rollByte, Cond.selects RX1 yX1_rollByte yX1_rollByte, Cond.initialized RX1, Cond.code yX1_rollByte cX1_rollByte 5 (some .int), Cond.fieldLink RX1 33 "MeterSeals$Rows" "count" "I", Cond.methodLink RX1 82 yX1_lineLength, Cond.instanceMethod yX1_lineLength, Cond.selects RX1 yX1_lineLength yX1_lineLength, Cond.code yX1_lineLength cX1_lineLength 4 (some .int), Cond.methodLink RX1 90 yX1_fieldCount, Cond.instanceMethod yX1_fieldCount, Cond.selects RX1 yX1_fieldCount yX1_fieldCount, Cond.code yX1_fieldCount cX1_fieldCount 2 (some .int), Cond.methodLink RX1 45 yX1_isReading, Cond.instanceMethod yX1_isReading, Cond.selects RX1 yX1_isReading yX1_isReading]
def wsX3_roll_r2 : List Cond := [Cond.code yX1_isReading cX1_isReading 2 (some .boolean), Cond.fieldLink RX1 19 "MeterSeals$Rows" "stamps" "[J", Cond.methodLink RX1 41 yX1_holds, Cond.instanceMethod yX1_holds, Cond.selects RX1 yX1_holds yX1_holds, Cond.code yX1_holds cX1_holds 2 (some .boolean), Cond.methodLink RX1 93 yX1_fieldOf, Cond.instanceMethod yX1_fieldOf, Cond.selects RX1 yX1_fieldOf yX1_fieldOf, Cond.code yX1_fieldOf cX1_fieldOf 3 (some .long), Cond.fieldLink RX1 15 "MeterSeals$Rows" "numbers" "[J", Cond.fieldLink RX1 22 "MeterSeals$Rows" "degrees" "[I", Cond.static yX3_textLength, Cond.code yX3_textLength cX3_textLength 6 (some .int), Cond.constantLong RX3 106 (10), Cond.methodLink RX1 100 yX1_hasMark, Cond.instanceMethod yX1_hasMark, Cond.selects RX1 yX1_hasMark yX1_hasMark, Cond.code yX1_hasMark cX1_hasMark 2 (some .boolean), Cond.fieldLink RX1 29 "MeterSeals$Rows" "marks" "[Z", Cond.methodLink RX1 86 yX1_lineByte, Cond.instanceMethod yX1_lineByte, Cond.selects RX1 yX1_lineByte yX1_lineByte, Cond.code yX1_lineByte cX1_lineByte 8 (some .int)]
def wsX3_roll_r3 : List Cond := [Cond.methodLink RX1 103 yX1_letterOf, Cond.instanceMethod yX1_letterOf, Cond.selects RX1 yX1_letterOf yX1_letterOf, Cond.code yX1_letterOf cX1_letterOf 2 (some .char), Cond.constantLong RX1 65 (-1), Cond.constantLong RX1 111 (-2), Cond.static yX3_textByte, Cond.code yX3_textByte cX3_textByte 6 (some .int), Cond.methodLink RX3 112 Lib.MathLoose.abs_long.x, Cond.static Lib.MathLoose.abs_long.x, Cond.initialized "java/lang/Math", Cond.code Lib.MathLoose.abs_long.x Lib.MathLoose.abs_long.code 2 (some .long), Cond.methodLink RX3 108 yX3_textLength]
def wsX3_roll : List Cond := .code yX3_roll cX3_roll 4 (some .int) :: ((wsX3_roll_r1 ++ (wsX3_roll_r2 ++ wsX3_roll_r3)) ++ wsX00 ++ wsX30 ++ wsX10)
def wsX4_init : List Cond := .code yX4_init cX4_init 1 none :: ([.methodLink RX4 1 objectInit, .instanceMethod objectInit, .code objectInit ⟨#[0xb1]⟩ 1 none, .arrayClass .long, .fieldLink RX4 9 "MeterSealsModel" "keys" "[J", .arrayClass .int, .fieldLink RX4 13 "MeterSealsModel" "rows" "[I", .fieldLink RX4 17 "MeterSealsModel" "lines" "[I", .fieldLink RX4 20 "MeterSealsModel" "kind" "[I", .fieldLink RX4 23 "MeterSealsModel" "number" "[J", .fieldLink RX4 26 "MeterSealsModel" "second" "[J", .fieldLink RX4 29 "MeterSealsModel" "warm" "[I", .fieldLink RX4 32 "MeterSealsModel" "sum" "[J", .fieldLink RX4 35 "MeterSealsModel" "lineDegrees" "[I", .fieldLink RX4 38 "MeterSealsModel" "lineAbove" "[J", .fieldLink RX4 41 "MeterSealsModel" "lineBelow" "[J", .fieldLink RX4 44 "MeterSealsModel" "text" "[I"] ++ wsX40)
def wsX4_thrown : List Cond := .code yX4_thrown cX4_thrown 1 (some .int) :: ([.fieldLink RX4 47 "MeterSealsModel" "thrown" "I"] ++ wsX40)
def wsX4_isMeter : List Cond := .code yX4_isMeter cX4_isMeter 2 (some .boolean) :: ([.fieldLink RX4 51 "MeterSealsModel" "meters" "I"] ++ wsX40)
def wsX4_isRow : List Cond := .code yX4_isRow cX4_isRow 3 (some .boolean) :: ([.fieldLink RX4 13 "MeterSealsModel" "rows" "[I", .methodLink RX4 54 yX4_isMeter, .instanceMethod yX4_isMeter, .selects RX4 yX4_isMeter yX4_isMeter, .initialized RX4, .code yX4_isMeter cX4_isMeter 2 (some .boolean), .fieldLink RX4 51 "MeterSealsModel" "meters" "I"] ++ wsX40)
def wsX4_meter : List Cond := .code yX4_meter cX4_meter 3 (some .int) :: ([.fieldLink RX4 47 "MeterSealsModel" "thrown" "I", .fieldLink RX4 51 "MeterSealsModel" "meters" "I", .fieldLink RX4 9 "MeterSealsModel" "keys" "[J"] ++ wsX40)
def wsX4_mixed : List Cond := .code yX4_mixed cX4_mixed 6 (some .long) :: ([.constantLong RX4 58 (1099511628211)])
def wsX4_due : List Cond := .code yX4_due cX4_due 6 (some .long) :: ([.constantLong RX4 60 (3), .fieldLink RX4 9 "MeterSealsModel" "keys" "[J", .fieldLink RX4 32 "MeterSealsModel" "sum" "[J", .fieldLink RX4 23 "MeterSealsModel" "number" "[J", .fieldLink RX4 20 "MeterSealsModel" "kind" "[I", .fieldLink RX4 26 "MeterSealsModel" "second" "[J", .fieldLink RX4 29 "MeterSealsModel" "warm" "[I", .methodLink RX4 62 yX4_mixed, .static yX4_mixed, .initialized RX4, .code yX4_mixed cX4_mixed 6 (some .long), .constantLong RX4 58 (1099511628211)] ++ wsX40)
def wsX4_add : List Cond := .code yX4_add cX4_add 9 none :: ([.fieldLink RX4 13 "MeterSealsModel" "rows" "[I", .fieldLink RX4 20 "MeterSealsModel" "kind" "[I", .fieldLink RX4 23 "MeterSealsModel" "number" "[J", .fieldLink RX4 26 "MeterSealsModel" "second" "[J", .fieldLink RX4 29 "MeterSealsModel" "warm" "[I", .fieldLink RX4 32 "MeterSealsModel" "sum" "[J", .methodLink RX4 66 yX4_due, .instanceMethod yX4_due, .selects RX4 yX4_due yX4_due, .initialized RX4, .code yX4_due cX4_due 6 (some .long), .constantLong RX4 60 (3), .fieldLink RX4 9 "MeterSealsModel" "keys" "[J", .methodLink RX4 62 yX4_mixed, .static yX4_mixed, .code yX4_mixed cX4_mixed 6 (some .long), .constantLong RX4 58 (1099511628211)] ++ wsX40)
def wsX4_pulses_r1 : List Cond := [Cond.fieldLink RX4 47 "MeterSealsModel" "thrown" "I", Cond.fieldLink RX4 17 "MeterSealsModel" "lines" "[I", Cond.constantLong RX4 70 (1000000), Cond.constantLong RX4 72 (1000000000000), Cond.fieldLink RX4 13 "MeterSealsModel" "rows" "[I", Cond.fieldLink RX4 20 "MeterSealsModel" "kind" "[I", Cond.fieldLink RX4 26 "MeterSealsModel" "second" "[J", Cond.methodLink RX4 54 yX4_isMeter, Cond.instanceMethod yX4_isMeter, Cond.selects RX4 yX4_isMeter yX4_isMeter, Cond.initialized RX4, Cond.code yX4_isMeter cX4_isMeter 2 (some .boolean), Cond.fieldLink RX4 51 "MeterSealsModel" "meters" "I", Cond.methodLink RX4 74 yX4_add, Cond.instanceMethod yX4_add, Cond.selects RX4 yX4_add yX4_add, Cond.code yX4_add cX4_add 9 none, Cond.fieldLink RX4 23 "MeterSealsModel" "number" "[J", Cond.fieldLink RX4 29 "MeterSealsModel" "warm" "[I", Cond.fieldLink RX4 32 "MeterSealsModel" "sum" "[J", Cond.methodLink RX4 66 yX4_due, Cond.instanceMethod yX4_due, Cond.selects RX4 yX4_due yX4_due, Cond.code yX4_due cX4_due 6 (some .long)]
def wsX4_pulses_r2 : List Cond := [Cond.constantLong RX4 60 (3), Cond.fieldLink RX4 9 "MeterSealsModel" "keys" "[J", Cond.methodLink RX4 62 yX4_mixed, Cond.static yX4_mixed, Cond.code yX4_mixed cX4_mixed 6 (some .long), Cond.constantLong RX4 58 (1099511628211)]
def wsX4_pulses : List Cond := .code yX4_pulses cX4_pulses 9 (some .boolean) :: ((wsX4_pulses_r1 ++ wsX4_pulses_r2) ++ wsX40)
def wsX4_reset_r1 : List Cond := [Cond.fieldLink RX4 47 "MeterSealsModel" "thrown" "I", Cond.constantLong RX4 72 (1000000000000), Cond.fieldLink RX4 13 "MeterSealsModel" "rows" "[I", Cond.methodLink RX4 54 yX4_isMeter, Cond.instanceMethod yX4_isMeter, Cond.selects RX4 yX4_isMeter yX4_isMeter, Cond.initialized RX4, Cond.code yX4_isMeter cX4_isMeter 2 (some .boolean), Cond.fieldLink RX4 51 "MeterSealsModel" "meters" "I", Cond.methodLink RX4 74 yX4_add, Cond.instanceMethod yX4_add, Cond.selects RX4 yX4_add yX4_add, Cond.code yX4_add cX4_add 9 none, Cond.fieldLink RX4 20 "MeterSealsModel" "kind" "[I", Cond.fieldLink RX4 23 "MeterSealsModel" "number" "[J", Cond.fieldLink RX4 26 "MeterSealsModel" "second" "[J", Cond.fieldLink RX4 29 "MeterSealsModel" "warm" "[I", Cond.fieldLink RX4 32 "MeterSealsModel" "sum" "[J", Cond.methodLink RX4 66 yX4_due, Cond.instanceMethod yX4_due, Cond.selects RX4 yX4_due yX4_due, Cond.code yX4_due cX4_due 6 (some .long), Cond.constantLong RX4 60 (3), Cond.fieldLink RX4 9 "MeterSealsModel" "keys" "[J"]
def wsX4_reset_r2 : List Cond := [Cond.methodLink RX4 62 yX4_mixed, Cond.static yX4_mixed, Cond.code yX4_mixed cX4_mixed 6 (some .long), Cond.constantLong RX4 58 (1099511628211)]
def wsX4_reset : List Cond := .code yX4_reset cX4_reset 5 (some .boolean) :: ((wsX4_reset_r1 ++ wsX4_reset_r2) ++ wsX40)
def wsX4_isSet : List Cond := .code yX4_isSet cX4_isSet 6 (some .boolean) :: ([.fieldLink RX4 20 "MeterSealsModel" "kind" "[I"] ++ wsX40)
def wsX4_seal_r1 : List Cond := [Cond.fieldLink RX4 47 "MeterSealsModel" "thrown" "I", Cond.fieldLink RX4 13 "MeterSealsModel" "rows" "[I", Cond.methodLink RX4 54 yX4_isMeter, Cond.instanceMethod yX4_isMeter, Cond.selects RX4 yX4_isMeter yX4_isMeter, Cond.initialized RX4, Cond.code yX4_isMeter cX4_isMeter 2 (some .boolean), Cond.fieldLink RX4 51 "MeterSealsModel" "meters" "I", Cond.methodLink RX4 78 yX4_isSet, Cond.instanceMethod yX4_isSet, Cond.selects RX4 yX4_isSet yX4_isSet, Cond.code yX4_isSet cX4_isSet 6 (some .boolean), Cond.fieldLink RX4 20 "MeterSealsModel" "kind" "[I", Cond.methodLink RX4 74 yX4_add, Cond.instanceMethod yX4_add, Cond.selects RX4 yX4_add yX4_add, Cond.code yX4_add cX4_add 9 none, Cond.fieldLink RX4 23 "MeterSealsModel" "number" "[J", Cond.fieldLink RX4 26 "MeterSealsModel" "second" "[J", Cond.fieldLink RX4 29 "MeterSealsModel" "warm" "[I", Cond.fieldLink RX4 32 "MeterSealsModel" "sum" "[J", Cond.methodLink RX4 66 yX4_due, Cond.instanceMethod yX4_due, Cond.selects RX4 yX4_due yX4_due]
def wsX4_seal_r2 : List Cond := [Cond.code yX4_due cX4_due 6 (some .long), Cond.constantLong RX4 60 (3), Cond.fieldLink RX4 9 "MeterSealsModel" "keys" "[J", Cond.methodLink RX4 62 yX4_mixed, Cond.static yX4_mixed, Cond.code yX4_mixed cX4_mixed 6 (some .long), Cond.constantLong RX4 58 (1099511628211)]
def wsX4_seal : List Cond := .code yX4_seal cX4_seal 5 (some .boolean) :: ((wsX4_seal_r1 ++ wsX4_seal_r2) ++ wsX40)
def wsX4_row : List Cond := .code yX4_row cX4_row 8 (some .boolean) :: ([.fieldLink RX4 47 "MeterSealsModel" "thrown" "I", .constantLong RX4 82 (10000), .fieldLink RX4 17 "MeterSealsModel" "lines" "[I", .fieldLink RX4 35 "MeterSealsModel" "lineDegrees" "[I", .fieldLink RX4 38 "MeterSealsModel" "lineAbove" "[J", .fieldLink RX4 41 "MeterSealsModel" "lineBelow" "[J", .methodLink RX4 54 yX4_isMeter, .instanceMethod yX4_isMeter, .selects RX4 yX4_isMeter yX4_isMeter, .initialized RX4, .code yX4_isMeter cX4_isMeter 2 (some .boolean), .fieldLink RX4 51 "MeterSealsModel" "meters" "I"] ++ wsX40)
def wsX4_line : List Cond := .code yX4_line cX4_line 7 (some .int) :: ([.fieldLink RX4 17 "MeterSealsModel" "lines" "[I", .fieldLink RX4 35 "MeterSealsModel" "lineDegrees" "[I"] ++ wsX40)
def wsX4_divisor : List Cond := .code yX4_divisor cX4_divisor 10 (some .long) :: ([])
def wsX4_litres_r1 : List Cond := [Cond.fieldLink RX4 47 "MeterSealsModel" "thrown" "I", Cond.constantLong RX4 84 (-1), Cond.fieldLink RX4 20 "MeterSealsModel" "kind" "[I", Cond.fieldLink RX4 29 "MeterSealsModel" "warm" "[I", Cond.fieldLink RX4 23 "MeterSealsModel" "number" "[J", Cond.fieldLink RX4 38 "MeterSealsModel" "lineAbove" "[J", Cond.fieldLink RX4 41 "MeterSealsModel" "lineBelow" "[J", Cond.methodLink RX4 54 yX4_isMeter, Cond.instanceMethod yX4_isMeter, Cond.selects RX4 yX4_isMeter yX4_isMeter, Cond.initialized RX4, Cond.code yX4_isMeter cX4_isMeter 2 (some .boolean), Cond.fieldLink RX4 51 "MeterSealsModel" "meters" "I", Cond.methodLink RX4 86 yX4_isRow, Cond.instanceMethod yX4_isRow, Cond.selects RX4 yX4_isRow yX4_isRow, Cond.code yX4_isRow cX4_isRow 3 (some .boolean), Cond.fieldLink RX4 13 "MeterSealsModel" "rows" "[I", Cond.methodLink RX4 89 yX4_line, Cond.instanceMethod yX4_line, Cond.selects RX4 yX4_line yX4_line, Cond.code yX4_line cX4_line 7 (some .int), Cond.fieldLink RX4 17 "MeterSealsModel" "lines" "[I", Cond.fieldLink RX4 35 "MeterSealsModel" "lineDegrees" "[I"]
def wsX4_litres_r2 : List Cond := [Cond.methodLink RX4 93 yX4_divisor, Cond.static yX4_divisor, Cond.code yX4_divisor cX4_divisor 10 (some .long)]
def wsX4_litres : List Cond := .code yX4_litres cX4_litres 10 (some .long) :: ((wsX4_litres_r1 ++ wsX4_litres_r2) ++ wsX40)
def wsX4_rest : List Cond := .code yX4_rest cX4_rest 8 (some .long) :: ([.fieldLink RX4 47 "MeterSealsModel" "thrown" "I", .constantLong RX4 96 (1000000000), .constantLong RX4 100 (-9223372036854775808), .fieldLink RX4 13 "MeterSealsModel" "rows" "[I", .fieldLink RX4 20 "MeterSealsModel" "kind" "[I", .fieldLink RX4 29 "MeterSealsModel" "warm" "[I", .fieldLink RX4 23 "MeterSealsModel" "number" "[J", .fieldLink RX4 38 "MeterSealsModel" "lineAbove" "[J", .constantLong RX4 102 (1000), .fieldLink RX4 41 "MeterSealsModel" "lineBelow" "[J", .methodLink RX4 54 yX4_isMeter, .instanceMethod yX4_isMeter, .selects RX4 yX4_isMeter yX4_isMeter, .initialized RX4, .code yX4_isMeter cX4_isMeter 2 (some .boolean), .fieldLink RX4 51 "MeterSealsModel" "meters" "I", .methodLink RX4 89 yX4_line, .instanceMethod yX4_line, .selects RX4 yX4_line yX4_line, .code yX4_line cX4_line 7 (some .int), .fieldLink RX4 17 "MeterSealsModel" "lines" "[I", .fieldLink RX4 35 "MeterSealsModel" "lineDegrees" "[I"] ++ wsX40)
def wsX4_rows : List Cond := .code yX4_rows cX4_rows 2 (some .int) :: ([.fieldLink RX4 47 "MeterSealsModel" "thrown" "I", .fieldLink RX4 13 "MeterSealsModel" "rows" "[I", .methodLink RX4 54 yX4_isMeter, .instanceMethod yX4_isMeter, .selects RX4 yX4_isMeter yX4_isMeter, .initialized RX4, .code yX4_isMeter cX4_isMeter 2 (some .boolean), .fieldLink RX4 51 "MeterSealsModel" "meters" "I"] ++ wsX40)
def wsX4_check : List Cond := .code yX4_check cX4_check 4 (some .int) :: ([.fieldLink RX4 47 "MeterSealsModel" "thrown" "I", .fieldLink RX4 13 "MeterSealsModel" "rows" "[I", .fieldLink RX4 32 "MeterSealsModel" "sum" "[J", .methodLink RX4 54 yX4_isMeter, .instanceMethod yX4_isMeter, .selects RX4 yX4_isMeter yX4_isMeter, .initialized RX4, .code yX4_isMeter cX4_isMeter 2 (some .boolean), .fieldLink RX4 51 "MeterSealsModel" "meters" "I", .methodLink RX4 66 yX4_due, .instanceMethod yX4_due, .selects RX4 yX4_due yX4_due, .code yX4_due cX4_due 6 (some .long), .constantLong RX4 60 (3), .fieldLink RX4 9 "MeterSealsModel" "keys" "[J", .fieldLink RX4 23 "MeterSealsModel" "number" "[J", .fieldLink RX4 20 "MeterSealsModel" "kind" "[I", .fieldLink RX4 26 "MeterSealsModel" "second" "[J", .fieldLink RX4 29 "MeterSealsModel" "warm" "[I", .methodLink RX4 62 yX4_mixed, .static yX4_mixed, .code yX4_mixed cX4_mixed 6 (some .long), .constantLong RX4 58 (1099511628211)] ++ wsX40)
def wsX4_poke : List Cond := .code yX4_poke cX4_poke 7 (some .boolean) :: ([.fieldLink RX4 47 "MeterSealsModel" "thrown" "I", .fieldLink RX4 20 "MeterSealsModel" "kind" "[I", .constantLong RX4 104 (-1000000), .constantLong RX4 70 (1000000), .fieldLink RX4 23 "MeterSealsModel" "number" "[J", .methodLink RX4 86 yX4_isRow, .instanceMethod yX4_isRow, .selects RX4 yX4_isRow yX4_isRow, .initialized RX4, .code yX4_isRow cX4_isRow 3 (some .boolean), .fieldLink RX4 13 "MeterSealsModel" "rows" "[I", .methodLink RX4 54 yX4_isMeter, .instanceMethod yX4_isMeter, .selects RX4 yX4_isMeter yX4_isMeter, .code yX4_isMeter cX4_isMeter 2 (some .boolean), .fieldLink RX4 51 "MeterSealsModel" "meters" "I"] ++ wsX40)
def wsX4_isMarked : List Cond := .code yX4_isMarked cX4_isMarked 4 (some .boolean) :: ([.fieldLink RX4 20 "MeterSealsModel" "kind" "[I", .methodLink RX4 78 yX4_isSet, .instanceMethod yX4_isSet, .selects RX4 yX4_isSet yX4_isSet, .initialized RX4, .code yX4_isSet cX4_isSet 6 (some .boolean)] ++ wsX40)
def wsX4_marked : List Cond := .code yX4_marked cX4_marked 3 (some .boolean) :: ([.fieldLink RX4 47 "MeterSealsModel" "thrown" "I", .methodLink RX4 86 yX4_isRow, .instanceMethod yX4_isRow, .selects RX4 yX4_isRow yX4_isRow, .initialized RX4, .code yX4_isRow cX4_isRow 3 (some .boolean), .fieldLink RX4 13 "MeterSealsModel" "rows" "[I", .methodLink RX4 54 yX4_isMeter, .instanceMethod yX4_isMeter, .selects RX4 yX4_isMeter yX4_isMeter, .code yX4_isMeter cX4_isMeter 2 (some .boolean), .fieldLink RX4 51 "MeterSealsModel" "meters" "I", .methodLink RX4 106 yX4_isMarked, .instanceMethod yX4_isMarked, .selects RX4 yX4_isMarked yX4_isMarked, .code yX4_isMarked cX4_isMarked 4 (some .boolean), .fieldLink RX4 20 "MeterSealsModel" "kind" "[I", .methodLink RX4 78 yX4_isSet, .instanceMethod yX4_isSet, .selects RX4 yX4_isSet yX4_isSet, .code yX4_isSet cX4_isSet 6 (some .boolean)] ++ wsX40)
def wsX4_gap : List Cond := .code yX4_gap cX4_gap 10 (some .int) :: ([.fieldLink RX4 47 "MeterSealsModel" "thrown" "I", .fieldLink RX4 13 "MeterSealsModel" "rows" "[I", .fieldLink RX4 20 "MeterSealsModel" "kind" "[I", .fieldLink RX4 26 "MeterSealsModel" "second" "[J", .constantLong RX4 109 (3600), .constantLong RX4 111 (60), .constantLong RX4 113 (2147483647), .methodLink RX4 54 yX4_isMeter, .instanceMethod yX4_isMeter, .selects RX4 yX4_isMeter yX4_isMeter, .initialized RX4, .code yX4_isMeter cX4_isMeter 2 (some .boolean), .fieldLink RX4 51 "MeterSealsModel" "meters" "I"] ++ wsX40)
def wsX4_put : List Cond := .code yX4_put cX4_put 2 none :: ([.fieldLink RX4 44 "MeterSealsModel" "text" "[I", .fieldLink RX4 115 "MeterSealsModel" "length" "I"] ++ wsX40)
def wsX4_say : List Cond := .code yX4_say cX4_say 7 none :: ([.constantLong RX4 122 (9), .constantLong RX4 124 (10), .constantLong RX4 126 (48), .methodLink RX4 118 yX4_put, .instanceMethod yX4_put, .selects RX4 yX4_put yX4_put, .initialized RX4, .code yX4_put cX4_put 2 none, .fieldLink RX4 44 "MeterSealsModel" "text" "[I", .fieldLink RX4 115 "MeterSealsModel" "length" "I"] ++ wsX40)
def wsX4_print_r1 : List Cond := [Cond.fieldLink RX4 115 "MeterSealsModel" "length" "I", Cond.fieldLink RX4 20 "MeterSealsModel" "kind" "[I", Cond.fieldLink RX4 23 "MeterSealsModel" "number" "[J", Cond.fieldLink RX4 26 "MeterSealsModel" "second" "[J", Cond.fieldLink RX4 29 "MeterSealsModel" "warm" "[I", Cond.methodLink RX4 118 yX4_put, Cond.instanceMethod yX4_put, Cond.selects RX4 yX4_put yX4_put, Cond.initialized RX4, Cond.code yX4_put cX4_put 2 none, Cond.fieldLink RX4 44 "MeterSealsModel" "text" "[I", Cond.methodLink RX4 128 yX4_say, Cond.instanceMethod yX4_say, Cond.selects RX4 yX4_say yX4_say, Cond.code yX4_say cX4_say 7 none, Cond.constantLong RX4 122 (9), Cond.constantLong RX4 124 (10), Cond.constantLong RX4 126 (48), Cond.methodLink RX4 106 yX4_isMarked, Cond.instanceMethod yX4_isMarked, Cond.selects RX4 yX4_isMarked yX4_isMarked, Cond.code yX4_isMarked cX4_isMarked 4 (some .boolean), Cond.methodLink RX4 78 yX4_isSet, Cond.instanceMethod yX4_isSet]
def wsX4_print_r2 : List Cond := [Cond.selects RX4 yX4_isSet yX4_isSet, Cond.code yX4_isSet cX4_isSet 6 (some .boolean)]
def wsX4_print : List Cond := .code yX4_print cX4_print 4 none :: ((wsX4_print_r1 ++ wsX4_print_r2) ++ wsX40)
def wsX4_roll_r1 : List Cond := [Cond.fieldLink RX4 47 "MeterSealsModel" "thrown" "I", Cond.fieldLink RX4 13 "MeterSealsModel" "rows" "[I", Cond.fieldLink RX4 115 "MeterSealsModel" "length" "I", Cond.fieldLink RX4 44 "MeterSealsModel" "text" "[I", Cond.methodLink RX4 54 yX4_isMeter, Cond.instanceMethod yX4_isMeter, Cond.selects RX4 yX4_isMeter yX4_isMeter, Cond.initialized RX4, Cond.code yX4_isMeter cX4_isMeter 2 (some .boolean), Cond.fieldLink RX4 51 "MeterSealsModel" "meters" "I", Cond.methodLink RX4 132 yX4_print, Cond.instanceMethod yX4_print, Cond.selects RX4 yX4_print yX4_print, Cond.code yX4_print cX4_print 4 none, Cond.fieldLink RX4 20 "MeterSealsModel" "kind" "[I", Cond.fieldLink RX4 23 "MeterSealsModel" "number" "[J", Cond.fieldLink RX4 26 "MeterSealsModel" "second" "[J", Cond.fieldLink RX4 29 "MeterSealsModel" "warm" "[I", Cond.methodLink RX4 118 yX4_put, Cond.instanceMethod yX4_put, Cond.selects RX4 yX4_put yX4_put, Cond.code yX4_put cX4_put 2 none, Cond.methodLink RX4 128 yX4_say, Cond.instanceMethod yX4_say]
def wsX4_roll_r2 : List Cond := [Cond.selects RX4 yX4_say yX4_say, Cond.code yX4_say cX4_say 7 none, Cond.constantLong RX4 122 (9), Cond.constantLong RX4 124 (10), Cond.constantLong RX4 126 (48), Cond.methodLink RX4 106 yX4_isMarked, Cond.instanceMethod yX4_isMarked, Cond.selects RX4 yX4_isMarked yX4_isMarked, Cond.code yX4_isMarked cX4_isMarked 4 (some .boolean), Cond.methodLink RX4 78 yX4_isSet, Cond.instanceMethod yX4_isSet, Cond.selects RX4 yX4_isSet yX4_isSet, Cond.code yX4_isSet cX4_isSet 6 (some .boolean)]
def wsX4_roll : List Cond := .code yX4_roll cX4_roll 5 (some .int) :: ((wsX4_roll_r1 ++ wsX4_roll_r2) ++ wsX40)
def wsJx00060_init_a7421 : List Cond := .code yJx00060_init_a7421 cJx00060_init_a7421 2 none :: ([])
def wsJ9_abs_067f4 : List Cond := .code yJ9_abs_067f4 cJ9_abs_067f4 2 (some .long) :: ([])
def wsJ9_max_7cf53 : List Cond := .code yJ9_max_7cf53 cJ9_max_7cf53 2 (some .int) :: ([])
def wsJ9_min_f86c9 : List Cond := .code yJ9_min_f86c9 cJ9_min_f86c9 4 (some .long) :: ([])
def wsL_litres_r1 : List Cond := [Cond.methodLink RL 7 yX3_litres, Cond.instanceMethod yX3_litres, Cond.selects RX3 yX3_litres yX3_litres, Cond.initialized RX3, Cond.code yX3_litres cX3_litres 5 (some .long), Cond.constantLong RX3 40 (-1), Cond.classLink RX3 52 RJx00060, Cond.instantiable RJx00060 6, Cond.initialized RJx00060, Cond.methodLink RX3 22 yX3_find, Cond.instanceMethod yX3_find, Cond.selects RX3 yX3_find yX3_find, Cond.code yX3_find cX3_find 2 (some (.object "MeterSeals$Meter")), Cond.fieldLink RX3 15 "MeterSeals" "meterCount" "I", Cond.fieldLink RX3 11 "MeterSeals" "meters" "[LMeterSeals$Meter;", Cond.methodLink RX3 46 yX1_holds, Cond.instanceMethod yX1_holds, Cond.selects RX1 yX1_holds yX1_holds, Cond.initialized RX1, Cond.code yX1_holds cX1_holds 2 (some .boolean), Cond.fieldLink RX1 33 "MeterSeals$Rows" "count" "I", Cond.methodLink RX3 59 yX0_fractionPart, Cond.instanceMethod yX0_fractionPart, Cond.selects RX0 yX0_fractionPart yX0_fractionPart]
def wsL_litres_r2 : List Cond := [Cond.initialized RX0, Cond.code yX0_fractionPart cX0_fractionPart 7 (some .long), Cond.methodLink RX0 63 yX0_litresAbove, Cond.instanceMethod yX0_litresAbove, Cond.selects RX0 yX0_litresAbove yX0_litresAbove, Cond.code yX0_litresAbove cX0_litresAbove 2 (some .long), Cond.fieldLink RX0 23 "MeterSeals$Meter" "rows" "LMeterSeals$Rows;", Cond.fieldLink RX0 12 "MeterSeals$Meter" "table" "LMeterSeals$Table;", Cond.methodLink RX0 80 yX1_pulsesOf, Cond.instanceMethod yX1_pulsesOf, Cond.selects RX1 yX1_pulsesOf yX1_pulsesOf, Cond.code yX1_pulsesOf cX1_pulsesOf 2 (some .long), Cond.fieldLink RX1 15 "MeterSeals$Rows" "numbers" "[J", Cond.methodLink RX1 45 yX1_isReading, Cond.instanceMethod yX1_isReading, Cond.selects RX1 yX1_isReading yX1_isReading, Cond.code yX1_isReading cX1_isReading 2 (some .boolean), Cond.fieldLink RX1 19 "MeterSeals$Rows" "stamps" "[J", Cond.methodLink RX1 41 yX1_holds, Cond.methodLink RX0 83 yX1_degreesOf, Cond.instanceMethod yX1_degreesOf, Cond.selects RX1 yX1_degreesOf yX1_degreesOf, Cond.code yX1_degreesOf cX1_degreesOf 2 (some .int), Cond.fieldLink RX1 22 "MeterSeals$Rows" "degrees" "[I"]
def wsL_litres_r3 : List Cond := [Cond.methodLink RX0 87 yX2_aboveAt, Cond.instanceMethod yX2_aboveAt, Cond.selects RX2 yX2_aboveAt yX2_aboveAt, Cond.initialized RX2, Cond.code yX2_aboveAt cX2_aboveAt 3 (some .long), Cond.fieldLink RX2 15 "MeterSeals$Table" "aboves" "[J", Cond.methodLink RX2 46 yX2_lineAt, Cond.instanceMethod yX2_lineAt, Cond.selects RX2 yX2_lineAt yX2_lineAt, Cond.code yX2_lineAt cX2_lineAt 4 (some .int), Cond.fieldLink RX2 22 "MeterSeals$Table" "count" "I", Cond.fieldLink RX2 9 "MeterSeals$Table" "starts" "[I", Cond.methodLink RX2 49 yX2_goesBefore, Cond.static yX2_goesBefore, Cond.code yX2_goesBefore cX2_goesBefore 3 (some .boolean), Cond.methodLink RX0 67 yX0_litresBelow, Cond.instanceMethod yX0_litresBelow, Cond.selects RX0 yX0_litresBelow yX0_litresBelow, Cond.code yX0_litresBelow cX0_litresBelow 2 (some .long), Cond.methodLink RX0 90 yX1_isReading, Cond.methodLink RX0 94 yX2_belowAt, Cond.instanceMethod yX2_belowAt, Cond.selects RX2 yX2_belowAt yX2_belowAt, Cond.code yX2_belowAt cX2_belowAt 3 (some .long)]
def wsL_litres_r4 : List Cond := [Cond.fieldLink RX2 19 "MeterSeals$Table" "belows" "[J", Cond.static yX3_commonDivisor, Cond.code yX3_commonDivisor cX3_commonDivisor 11 (some .long), Cond.static yX3_quotient, Cond.code yX3_quotient cX3_quotient 4 (some .long)]
def wsL_litres : List Cond := .codeWith yL_litres cL_litres 6 (some .int) [(0, 11, 14, 13)] :: ((wsL_litres_r1 ++ (wsL_litres_r2 ++ (wsL_litres_r3 ++ wsL_litres_r4))) ++ wsX00 ++ wsJx000600 ++ wsX30 ++ wsX10 ++ wsX20)
def wsL_law_r1 : List Cond := [Cond.classLink RL 8 RX3, Cond.instantiable RX3 2, Cond.initialized RX3, Cond.classLink RL 16 RX4, Cond.instantiable RX4 15, Cond.initialized RX4, Cond.arrayClass .long, Cond.constantLong RL 19 (4294967295), Cond.methodLink RL 15 yX3_init, Cond.instanceMethod yX3_init, Cond.code yX3_init cX3_init 1 none, Cond.methodLink RX3 1 objectInit, Cond.instanceMethod objectInit, Cond.code objectInit ⟨#[0xb1]⟩ 1 none, Cond.classLink RX3 9 RX0, Cond.fieldLink RX3 11 "MeterSeals" "meters" "[LMeterSeals$Meter;", Cond.fieldLink RX3 15 "MeterSeals" "meterCount" "I", Cond.methodLink RL 18 yX4_init, Cond.instanceMethod yX4_init, Cond.code yX4_init cX4_init 1 none, Cond.methodLink RX4 1 objectInit, Cond.fieldLink RX4 9 "MeterSealsModel" "keys" "[J", Cond.arrayClass .int, Cond.fieldLink RX4 13 "MeterSealsModel" "rows" "[I"]
def wsL_law_r2 : List Cond := [Cond.fieldLink RX4 17 "MeterSealsModel" "lines" "[I", Cond.fieldLink RX4 20 "MeterSealsModel" "kind" "[I", Cond.fieldLink RX4 23 "MeterSealsModel" "number" "[J", Cond.fieldLink RX4 26 "MeterSealsModel" "second" "[J", Cond.fieldLink RX4 29 "MeterSealsModel" "warm" "[I", Cond.fieldLink RX4 32 "MeterSealsModel" "sum" "[J", Cond.fieldLink RX4 35 "MeterSealsModel" "lineDegrees" "[I", Cond.fieldLink RX4 38 "MeterSealsModel" "lineAbove" "[J", Cond.fieldLink RX4 41 "MeterSealsModel" "lineBelow" "[J", Cond.fieldLink RX4 44 "MeterSealsModel" "text" "[I", Cond.methodLink RL 21 yX3_meter, Cond.instanceMethod yX3_meter, Cond.selects RX3 yX3_meter yX3_meter, Cond.code yX3_meter cX3_meter 4 (some .int), Cond.instantiable RX0 4, Cond.initialized RX0, Cond.methodLink RX3 19 yX0_init, Cond.instanceMethod yX0_init, Cond.code yX0_init cX0_init 3 none, Cond.methodLink RX0 3 objectInit, Cond.classLink RX0 9 RX2, Cond.instantiable RX2 4, Cond.initialized RX2, Cond.fieldLink RX0 12 "MeterSeals$Meter" "table" "LMeterSeals$Table;"]
def wsL_law_r3 : List Cond := [Cond.classLink RX0 18 RX1, Cond.instantiable RX1 7, Cond.initialized RX1, Cond.fieldLink RX0 23 "MeterSeals$Meter" "rows" "LMeterSeals$Rows;", Cond.fieldLink RX0 27 "MeterSeals$Meter" "sealed" "Z", Cond.fieldLink RX0 31 "MeterSeals$Meter" "lastSecond" "J", Cond.methodLink RX0 11 yX2_init, Cond.instanceMethod yX2_init, Cond.code yX2_init cX2_init 1 none, Cond.methodLink RX2 3 objectInit, Cond.fieldLink RX2 9 "MeterSeals$Table" "starts" "[I", Cond.fieldLink RX2 15 "MeterSeals$Table" "aboves" "[J", Cond.fieldLink RX2 19 "MeterSeals$Table" "belows" "[J", Cond.fieldLink RX2 22 "MeterSeals$Table" "count" "I", Cond.methodLink RX0 20 yX1_init, Cond.instanceMethod yX1_init, Cond.code yX1_init cX1_init 3 none, Cond.methodLink RX1 3 objectInit, Cond.fieldLink RX1 9 "MeterSeals$Rows" "key" "J", Cond.fieldLink RX1 15 "MeterSeals$Rows" "numbers" "[J", Cond.fieldLink RX1 19 "MeterSeals$Rows" "stamps" "[J", Cond.fieldLink RX1 22 "MeterSeals$Rows" "degrees" "[I", Cond.fieldLink RX1 26 "MeterSeals$Rows" "sums" "[J", Cond.arrayClass .boolean]
def wsL_law_r4 : List Cond := [Cond.fieldLink RX1 29 "MeterSeals$Rows" "marks" "[Z", Cond.fieldLink RX1 33 "MeterSeals$Rows" "count" "I", Cond.methodLink RL 25 yX4_meter, Cond.instanceMethod yX4_meter, Cond.selects RX4 yX4_meter yX4_meter, Cond.code yX4_meter cX4_meter 3 (some .int), Cond.fieldLink RX4 47 "MeterSealsModel" "thrown" "I", Cond.fieldLink RX4 51 "MeterSealsModel" "meters" "I", Cond.methodLink RL 26 yX3_pulses, Cond.instanceMethod yX3_pulses, Cond.selects RX3 yX3_pulses yX3_pulses, Cond.code yX3_pulses cX3_pulses 8 (some .boolean), Cond.methodLink RX3 22 yX3_find, Cond.instanceMethod yX3_find, Cond.selects RX3 yX3_find yX3_find, Cond.code yX3_find cX3_find 2 (some (.object "MeterSeals$Meter")), Cond.methodLink RX3 26 yX0_addReading, Cond.instanceMethod yX0_addReading, Cond.selects RX0 yX0_addReading yX0_addReading, Cond.code yX0_addReading cX0_addReading 7 (some .boolean), Cond.constantLong RX0 39 (1000000), Cond.constantLong RX0 45 (1000000000000), Cond.constantLong RX0 47 (-50), Cond.constantLong RX0 49 (150)]
def wsL_law_r5 : List Cond := [Cond.static yX3_within, Cond.code yX3_within cX3_within 6 (some .boolean), Cond.methodLink RX0 51 yX1_add, Cond.instanceMethod yX1_add, Cond.selects RX1 yX1_add yX1_add, Cond.code yX1_add cX1_add 8 (some .boolean), Cond.methodLink RX1 37 yX1_dueSum, Cond.instanceMethod yX1_dueSum, Cond.selects RX1 yX1_dueSum yX1_dueSum, Cond.code yX1_dueSum cX1_dueSum 6 (some .long), Cond.constantLong RX1 57 (3), Cond.methodLink RX1 41 yX1_holds, Cond.instanceMethod yX1_holds, Cond.selects RX1 yX1_holds yX1_holds, Cond.code yX1_holds cX1_holds 2 (some .boolean), Cond.methodLink RX1 59 yX1_stir, Cond.static yX1_stir, Cond.code yX1_stir cX1_stir 6 (some .long), Cond.constantLong RX1 63 (1099511628211), Cond.methodLink RL 30 yX4_pulses, Cond.instanceMethod yX4_pulses, Cond.selects RX4 yX4_pulses yX4_pulses, Cond.code yX4_pulses cX4_pulses 9 (some .boolean), Cond.constantLong RX4 70 (1000000)]
def wsL_law_r6 : List Cond := [Cond.constantLong RX4 72 (1000000000000), Cond.methodLink RX4 54 yX4_isMeter, Cond.instanceMethod yX4_isMeter, Cond.selects RX4 yX4_isMeter yX4_isMeter, Cond.code yX4_isMeter cX4_isMeter 2 (some .boolean), Cond.methodLink RX4 74 yX4_add, Cond.instanceMethod yX4_add, Cond.selects RX4 yX4_add yX4_add, Cond.code yX4_add cX4_add 9 none, Cond.methodLink RX4 66 yX4_due, Cond.instanceMethod yX4_due, Cond.selects RX4 yX4_due yX4_due, Cond.code yX4_due cX4_due 6 (some .long), Cond.constantLong RX4 60 (3), Cond.methodLink RX4 62 yX4_mixed, Cond.static yX4_mixed, Cond.code yX4_mixed cX4_mixed 6 (some .long), Cond.constantLong RX4 58 (1099511628211), Cond.methodLink RL 31 yX3_row, Cond.instanceMethod yX3_row, Cond.selects RX3 yX3_row yX3_row, Cond.code yX3_row cX3_row 8 (some .boolean), Cond.methodLink RX3 34 yX2_put, Cond.instanceMethod yX2_put]
def wsL_law_r7 : List Cond := [Cond.selects RX2 yX2_put yX2_put, Cond.code yX2_put cX2_put 8 (some .boolean), Cond.constantLong RX2 26 (-50), Cond.constantLong RX2 28 (150), Cond.constantLong RX2 34 (10000), Cond.methodLink RX2 40 Lib.Math.max.name, Cond.static Lib.Math.max.name, Cond.initialized "java/lang/Math", Cond.code Lib.Math.max.name Lib.Math.max.code 2 (some .int), Cond.methodLink RX2 36 yX2_placeFor, Cond.instanceMethod yX2_placeFor, Cond.selects RX2 yX2_placeFor yX2_placeFor, Cond.code yX2_placeFor cX2_placeFor 3 (some .int), Cond.methodLink RL 35 yX4_row, Cond.instanceMethod yX4_row, Cond.selects RX4 yX4_row yX4_row, Cond.code yX4_row cX4_row 8 (some .boolean), Cond.constantLong RX4 82 (10000), Cond.methodLink RL 36 yL_litres, Cond.static yL_litres, Cond.initialized RL, Cond.codeWith yL_litres cL_litres 6 (some .int) [(0, 11, 14, 13)], Cond.methodLink RL 7 yX3_litres, Cond.instanceMethod yX3_litres]
def wsL_law_r8 : List Cond := [Cond.selects RX3 yX3_litres yX3_litres, Cond.code yX3_litres cX3_litres 5 (some .long), Cond.constantLong RX3 40 (-1), Cond.classLink RX3 52 RJx00060, Cond.instantiable RJx00060 6, Cond.initialized RJx00060, Cond.methodLink RX3 46 yX1_holds, Cond.methodLink RX3 59 yX0_fractionPart, Cond.instanceMethod yX0_fractionPart, Cond.selects RX0 yX0_fractionPart yX0_fractionPart, Cond.code yX0_fractionPart cX0_fractionPart 7 (some .long), Cond.methodLink RX0 63 yX0_litresAbove, Cond.instanceMethod yX0_litresAbove, Cond.selects RX0 yX0_litresAbove yX0_litresAbove, Cond.code yX0_litresAbove cX0_litresAbove 2 (some .long), Cond.methodLink RX0 80 yX1_pulsesOf, Cond.instanceMethod yX1_pulsesOf, Cond.selects RX1 yX1_pulsesOf yX1_pulsesOf, Cond.code yX1_pulsesOf cX1_pulsesOf 2 (some .long), Cond.methodLink RX1 45 yX1_isReading, Cond.instanceMethod yX1_isReading, Cond.selects RX1 yX1_isReading yX1_isReading, Cond.code yX1_isReading cX1_isReading 2 (some .boolean), Cond.methodLink RX0 83 yX1_degreesOf]
def wsL_law_r9 : List Cond := [Cond.instanceMethod yX1_degreesOf, Cond.selects RX1 yX1_degreesOf yX1_degreesOf, Cond.code yX1_degreesOf cX1_degreesOf 2 (some .int), Cond.methodLink RX0 87 yX2_aboveAt, Cond.instanceMethod yX2_aboveAt, Cond.selects RX2 yX2_aboveAt yX2_aboveAt, Cond.code yX2_aboveAt cX2_aboveAt 3 (some .long), Cond.methodLink RX2 46 yX2_lineAt, Cond.instanceMethod yX2_lineAt, Cond.selects RX2 yX2_lineAt yX2_lineAt, Cond.code yX2_lineAt cX2_lineAt 4 (some .int), Cond.methodLink RX2 49 yX2_goesBefore, Cond.static yX2_goesBefore, Cond.code yX2_goesBefore cX2_goesBefore 3 (some .boolean), Cond.methodLink RX0 67 yX0_litresBelow, Cond.instanceMethod yX0_litresBelow, Cond.selects RX0 yX0_litresBelow yX0_litresBelow, Cond.code yX0_litresBelow cX0_litresBelow 2 (some .long), Cond.methodLink RX0 90 yX1_isReading, Cond.methodLink RX0 94 yX2_belowAt, Cond.instanceMethod yX2_belowAt, Cond.selects RX2 yX2_belowAt yX2_belowAt, Cond.code yX2_belowAt cX2_belowAt 3 (some .long), Cond.static yX3_commonDivisor]
def wsL_law_r10 : List Cond := [Cond.code yX3_commonDivisor cX3_commonDivisor 11 (some .long), Cond.static yX3_quotient, Cond.code yX3_quotient cX3_quotient 4 (some .long), Cond.methodLink RL 41 yX4_litres, Cond.instanceMethod yX4_litres, Cond.selects RX4 yX4_litres yX4_litres, Cond.code yX4_litres cX4_litres 10 (some .long), Cond.constantLong RX4 84 (-1), Cond.methodLink RX4 86 yX4_isRow, Cond.instanceMethod yX4_isRow, Cond.selects RX4 yX4_isRow yX4_isRow, Cond.code yX4_isRow cX4_isRow 3 (some .boolean), Cond.methodLink RX4 89 yX4_line, Cond.instanceMethod yX4_line, Cond.selects RX4 yX4_line yX4_line, Cond.code yX4_line cX4_line 7 (some .int), Cond.methodLink RX4 93 yX4_divisor, Cond.static yX4_divisor, Cond.code yX4_divisor cX4_divisor 10 (some .long), Cond.methodLink RL 42 yX4_thrown, Cond.instanceMethod yX4_thrown, Cond.selects RX4 yX4_thrown yX4_thrown, Cond.code yX4_thrown cX4_thrown 1 (some .int), Cond.methodLink RL 46 yX3_rows]
def wsL_law_r11 : List Cond := [Cond.instanceMethod yX3_rows, Cond.selects RX3 yX3_rows yX3_rows, Cond.code yX3_rows cX3_rows 3 (some .int), Cond.methodLink RL 50 yX4_rows, Cond.instanceMethod yX4_rows, Cond.selects RX4 yX4_rows yX4_rows, Cond.code yX4_rows cX4_rows 2 (some .int), Cond.methodLink RL 51 yX3_check, Cond.instanceMethod yX3_check, Cond.selects RX3 yX3_check yX3_check, Cond.code yX3_check cX3_check 4 (some .int), Cond.methodLink RX3 66 yX1_firstWrong, Cond.instanceMethod yX1_firstWrong, Cond.selects RX1 yX1_firstWrong yX1_firstWrong, Cond.code yX1_firstWrong cX1_firstWrong 3 (some .int), Cond.methodLink RL 55 yX4_check, Cond.instanceMethod yX4_check, Cond.selects RX4 yX4_check yX4_check, Cond.code yX4_check cX4_check 4 (some .int), Cond.methodLink RL 56 yX3_poke, Cond.instanceMethod yX3_poke, Cond.selects RX3 yX3_poke yX3_poke, Cond.code yX3_poke cX3_poke 6 (some .boolean), Cond.methodLink RX3 70 yX1_addPulses]
def wsL_law_r12 : List Cond := [Cond.instanceMethod yX1_addPulses, Cond.selects RX1 yX1_addPulses yX1_addPulses, Cond.code yX1_addPulses cX1_addPulses 6 (some .boolean), Cond.constantLong RX1 51 (1000000), Cond.methodLink RX1 48 yX1_pulsesOf, Cond.methodLink RL 60 yX4_poke, Cond.instanceMethod yX4_poke, Cond.selects RX4 yX4_poke yX4_poke, Cond.code yX4_poke cX4_poke 7 (some .boolean), Cond.constantLong RX4 104 (-1000000), Cond.methodLink RL 61 yX3_seal, Cond.instanceMethod yX3_seal, Cond.selects RX3 yX3_seal yX3_seal, Cond.code yX3_seal cX3_seal 5 (some .boolean), Cond.methodLink RX3 74 yX0_turnSeal, Cond.instanceMethod yX0_turnSeal, Cond.selects RX0 yX0_turnSeal yX0_turnSeal, Cond.code yX0_turnSeal cX0_turnSeal 3 (some .boolean), Cond.constantLong RX0 57 (999), Cond.constantLong RX0 59 (-3), Cond.constantLong RX0 61 (-2), Cond.methodLink RL 65 yX4_seal, Cond.instanceMethod yX4_seal, Cond.selects RX4 yX4_seal yX4_seal]
def wsL_law_r13 : List Cond := [Cond.code yX4_seal cX4_seal 5 (some .boolean), Cond.methodLink RX4 78 yX4_isSet, Cond.instanceMethod yX4_isSet, Cond.selects RX4 yX4_isSet yX4_isSet, Cond.code yX4_isSet cX4_isSet 6 (some .boolean), Cond.methodLink RL 66 yX3_marked, Cond.instanceMethod yX3_marked, Cond.selects RX3 yX3_marked yX3_marked, Cond.code yX3_marked cX3_marked 4 (some .boolean), Cond.methodLink RX3 78 yX1_hasMark, Cond.instanceMethod yX1_hasMark, Cond.selects RX1 yX1_hasMark yX1_hasMark, Cond.code yX1_hasMark cX1_hasMark 2 (some .boolean), Cond.methodLink RL 70 yX4_marked, Cond.instanceMethod yX4_marked, Cond.selects RX4 yX4_marked yX4_marked, Cond.code yX4_marked cX4_marked 3 (some .boolean), Cond.methodLink RX4 106 yX4_isMarked, Cond.instanceMethod yX4_isMarked, Cond.selects RX4 yX4_isMarked yX4_isMarked, Cond.code yX4_isMarked cX4_isMarked 4 (some .boolean), Cond.methodLink RL 71 yX3_gap, Cond.instanceMethod yX3_gap, Cond.selects RX3 yX3_gap yX3_gap]
def wsL_law_r14 : List Cond := [Cond.code yX3_gap cX3_gap 5 (some .int), Cond.methodLink RX3 81 yX1_findGap, Cond.instanceMethod yX1_findGap, Cond.selects RX1 yX1_findGap yX1_findGap, Cond.code yX1_findGap cX1_findGap 9 (some .int), Cond.constantLong RX1 65 (-1), Cond.constantLong RX1 67 (3600), Cond.methodLink RX1 69 yX1_wholeMinutes, Cond.static yX1_wholeMinutes, Cond.code yX1_wholeMinutes cX1_wholeMinutes 2 (some .int), Cond.constantLong RX1 73 (60), Cond.constantLong RX1 75 (2147483647), Cond.methodLink RX1 77 Lib.MathLoose.min_long.x, Cond.static Lib.MathLoose.min_long.x, Cond.code Lib.MathLoose.min_long.x Lib.MathLoose.min_long.code 4 (some .long), Cond.methodLink RL 75 yX4_gap, Cond.instanceMethod yX4_gap, Cond.selects RX4 yX4_gap yX4_gap, Cond.code yX4_gap cX4_gap 10 (some .int), Cond.constantLong RX4 109 (3600), Cond.constantLong RX4 111 (60), Cond.constantLong RX4 113 (2147483647), Cond.methodLink RL 76 yX3_rest, Cond.instanceMethod yX3_rest]
def wsL_law_r15 : List Cond := [Cond.selects RX3 yX3_rest yX3_rest, Cond.code yX3_rest cX3_rest 5 (some .long), Cond.constantLong RX3 85 (1000000000), Cond.constantLong RX3 91 (-9223372036854775808), Cond.constantLong RX3 97 (1000), Cond.methodLink RX3 87 yX3_within, Cond.methodLink RX3 93 yX0_allThousandths, Cond.instanceMethod yX0_allThousandths, Cond.selects RX0 yX0_allThousandths yX0_allThousandths, Cond.code yX0_allThousandths cX0_allThousandths 4 (some .long), Cond.constantLong RX0 78 (1000), Cond.methodLink RL 80 yX4_rest, Cond.instanceMethod yX4_rest, Cond.selects RX4 yX4_rest yX4_rest, Cond.code yX4_rest cX4_rest 8 (some .long), Cond.constantLong RX4 96 (1000000000), Cond.constantLong RX4 100 (-9223372036854775808), Cond.constantLong RX4 102 (1000), Cond.methodLink RL 81 yX3_reset, Cond.instanceMethod yX3_reset, Cond.selects RX3 yX3_reset yX3_reset, Cond.code yX3_reset cX3_reset 5 (some .boolean), Cond.methodLink RX3 99 yX0_addReset, Cond.instanceMethod yX0_addReset]
def wsL_law_r16 : List Cond := [Cond.selects RX0 yX0_addReset yX0_addReset, Cond.code yX0_addReset cX0_addReset 3 (some .boolean), Cond.constantLong RX0 55 (-1), Cond.methodLink RL 85 yX4_reset, Cond.instanceMethod yX4_reset, Cond.selects RX4 yX4_reset yX4_reset, Cond.code yX4_reset cX4_reset 5 (some .boolean), Cond.methodLink RL 86 yX3_roll, Cond.instanceMethod yX3_roll, Cond.selects RX3 yX3_roll yX3_roll, Cond.code yX3_roll cX3_roll 4 (some .int), Cond.methodLink RX3 103 yX1_rollByte, Cond.instanceMethod yX1_rollByte, Cond.selects RX1 yX1_rollByte yX1_rollByte, Cond.code yX1_rollByte cX1_rollByte 5 (some .int), Cond.methodLink RX1 82 yX1_lineLength, Cond.instanceMethod yX1_lineLength, Cond.selects RX1 yX1_lineLength yX1_lineLength, Cond.code yX1_lineLength cX1_lineLength 4 (some .int), Cond.methodLink RX1 90 yX1_fieldCount, Cond.instanceMethod yX1_fieldCount, Cond.selects RX1 yX1_fieldCount yX1_fieldCount, Cond.code yX1_fieldCount cX1_fieldCount 2 (some .int), Cond.methodLink RX1 93 yX1_fieldOf]
def wsL_law_r17 : List Cond := [Cond.instanceMethod yX1_fieldOf, Cond.selects RX1 yX1_fieldOf yX1_fieldOf, Cond.code yX1_fieldOf cX1_fieldOf 3 (some .long), Cond.static yX3_textLength, Cond.code yX3_textLength cX3_textLength 6 (some .int), Cond.constantLong RX3 106 (10), Cond.methodLink RX1 100 yX1_hasMark, Cond.methodLink RX1 86 yX1_lineByte, Cond.instanceMethod yX1_lineByte, Cond.selects RX1 yX1_lineByte yX1_lineByte, Cond.code yX1_lineByte cX1_lineByte 8 (some .int), Cond.methodLink RX1 103 yX1_letterOf, Cond.instanceMethod yX1_letterOf, Cond.selects RX1 yX1_letterOf yX1_letterOf, Cond.code yX1_letterOf cX1_letterOf 2 (some .char), Cond.constantLong RX1 111 (-2), Cond.static yX3_textByte, Cond.code yX3_textByte cX3_textByte 6 (some .int), Cond.methodLink RX3 112 Lib.MathLoose.abs_long.x, Cond.static Lib.MathLoose.abs_long.x, Cond.code Lib.MathLoose.abs_long.x Lib.MathLoose.abs_long.code 2 (some .long), Cond.methodLink RX3 108 yX3_textLength, Cond.methodLink RL 89 yX4_roll, Cond.instanceMethod yX4_roll]
def wsL_law_r18 : List Cond := [Cond.selects RX4 yX4_roll yX4_roll, Cond.code yX4_roll cX4_roll 5 (some .int), Cond.fieldLink RX4 115 "MeterSealsModel" "length" "I", Cond.methodLink RX4 132 yX4_print, Cond.instanceMethod yX4_print, Cond.selects RX4 yX4_print yX4_print, Cond.code yX4_print cX4_print 4 none, Cond.methodLink RX4 118 yX4_put, Cond.instanceMethod yX4_put, Cond.selects RX4 yX4_put yX4_put, Cond.code yX4_put cX4_put 2 none, Cond.methodLink RX4 128 yX4_say, Cond.instanceMethod yX4_say, Cond.selects RX4 yX4_say yX4_say, Cond.code yX4_say cX4_say 7 none, Cond.constantLong RX4 122 (9), Cond.constantLong RX4 124 (10), Cond.constantLong RX4 126 (48)]
def wsL_law : List Cond := (wsL_law_r1 ++ (wsL_law_r2 ++ (wsL_law_r3 ++ (wsL_law_r4 ++ (wsL_law_r5 ++ (wsL_law_r6 ++ (wsL_law_r7 ++ (wsL_law_r8 ++ (wsL_law_r9 ++ (wsL_law_r10 ++ (wsL_law_r11 ++ (wsL_law_r12 ++ (wsL_law_r13 ++ (wsL_law_r14 ++ (wsL_law_r15 ++ (wsL_law_r16 ++ (wsL_law_r17 ++ wsL_law_r18))))))))))))))))) ++ wsX30 ++ wsX40 ++ wsX00 ++ wsX20 ++ wsX10 ++ wsJx000600 ++ ([] : List Cond)
set_option maxRecDepth 20000 in
theorem wsL_law_r1_inT : ∀ w ∈ wsL_law_r1, w ∈ lw_tbl := fun w h => (goodIn_p wsL_law_r1 [38, 41, 437] (by decide +kernel) (by decide +kernel) w h).1
set_option maxRecDepth 20000 in
theorem wsL_law_r2_inT : ∀ w ∈ wsL_law_r2, w ∈ lw_tbl := fun w h => (goodIn_p wsL_law_r2 [54, 58] (by decide +kernel) (by decide +kernel) w h).1
set_option maxRecDepth 20000 in
theorem wsL_law_r3_inT : ∀ w ∈ wsL_law_r3, w ∈ lw_tbl := fun w h => (goodIn_p wsL_law_r3 [64, 86] (by decide +kernel) (by decide +kernel) w h).1
set_option maxRecDepth 20000 in
theorem wsL_law_r4_inT : ∀ w ∈ wsL_law_r4, w ∈ lw_tbl := fun w h => (goodIn_p wsL_law_r4 [492, 131, 135, 139] (by decide +kernel) (by decide +kernel) w h).1
set_option maxRecDepth 20000 in
theorem wsL_law_r5_inT : ∀ w ∈ wsL_law_r5, w ∈ lw_tbl := fun w h => (goodIn_p wsL_law_r5 [143, 150, 154, 158, 162, 496] (by decide +kernel) (by decide +kernel) w h).1
set_option maxRecDepth 20000 in
theorem wsL_law_r6_inT : ∀ w ∈ wsL_law_r6, w ∈ lw_tbl := fun w h => (goodIn_p wsL_law_r6 [500, 506, 510, 514, 167] (by decide +kernel) (by decide +kernel) w h).1
set_option maxRecDepth 20000 in
theorem wsL_law_r7_inT : ∀ w ∈ wsL_law_r7, w ∈ lw_tbl := fun w h => (goodIn_p wsL_law_r7 [171, 182, 179, 531] (by decide +kernel) (by decide +kernel) w h).1
set_option maxRecDepth 20000 in
theorem wsL_law_r8_inT : ∀ w ∈ wsL_law_r8, w ∈ lw_tbl := fun w h => (goodIn_p wsL_law_r8 [352, 429, 264, 206, 210] (by decide +kernel) (by decide +kernel) w h).1
set_option maxRecDepth 20000 in
theorem wsL_law_r9_inT : ∀ w ∈ wsL_law_r9, w ∈ lw_tbl := fun w h => (goodIn_p wsL_law_r9 [269, 273, 277, 280, 285, 290] (by decide +kernel) (by decide +kernel) w h).1
set_option maxRecDepth 20000 in
theorem wsL_law_r10_inT : ∀ w ∈ wsL_law_r10, w ∈ lw_tbl := fun w h => (goodIn_p wsL_law_r10 [432, 293, 536, 541, 545, 548, 488] (by decide +kernel) (by decide +kernel) w h).1
set_option maxRecDepth 20000 in
theorem wsL_law_r11_inT : ∀ w ∈ wsL_law_r11, w ∈ lw_tbl := fun w h => (goodIn_p wsL_law_r11 [186, 559, 190, 194, 563, 198] (by decide +kernel) (by decide +kernel) w h).1
set_option maxRecDepth 20000 in
theorem wsL_law_r12_inT : ∀ w ∈ wsL_law_r12, w ∈ lw_tbl := fun w h => (goodIn_p wsL_law_r12 [202, 567, 216, 220] (by decide +kernel) (by decide +kernel) w h).1
set_option maxRecDepth 20000 in
theorem wsL_law_r13_inT : ∀ w ∈ wsL_law_r13, w ∈ lw_tbl := fun w h => (goodIn_p wsL_law_r13 [523, 527, 227, 231, 572, 576] (by decide +kernel) (by decide +kernel) w h).1
set_option maxRecDepth 20000 in
theorem wsL_law_r14_inT : ∀ w ∈ wsL_law_r14, w ∈ lw_tbl := fun w h => (goodIn_p wsL_law_r14 [235, 239, 244, 249, 580] (by decide +kernel) (by decide +kernel) w h).1
set_option maxRecDepth 20000 in
theorem wsL_law_r15_inT : ∀ w ∈ wsL_law_r15, w ∈ lw_tbl := fun w h => (goodIn_p wsL_law_r15 [253, 260, 552, 298] (by decide +kernel) (by decide +kernel) w h).1
set_option maxRecDepth 20000 in
theorem wsL_law_r16_inT : ∀ w ∈ wsL_law_r16, w ∈ lw_tbl := fun w h => (goodIn_p wsL_law_r16 [302, 519, 307, 311, 315, 319] (by decide +kernel) (by decide +kernel) w h).1
set_option maxRecDepth 20000 in
theorem wsL_law_r17_inT : ∀ w ∈ wsL_law_r17, w ∈ lw_tbl := fun w h => (goodIn_p wsL_law_r17 [323, 326, 332, 336, 340, 344] (by decide +kernel) (by decide +kernel) w h).1
set_option maxRecDepth 20000 in
theorem wsL_law_r18_inT : ∀ w ∈ wsL_law_r18, w ∈ lw_tbl := fun w h => (goodIn_p wsL_law_r18 [587, 591, 595, 599] (by decide +kernel) (by decide +kernel) w h).1
set_option maxRecDepth 20000 in
theorem wsX30_inT : ∀ w ∈ wsX30, w ∈ lw_tbl := fun w h => (goodIn_p wsX30 [] (by decide +kernel) (by decide +kernel) w h).1
set_option maxRecDepth 20000 in
theorem wsX40_inT : ∀ w ∈ wsX40, w ∈ lw_tbl := fun w h => (goodIn_p wsX40 [] (by decide +kernel) (by decide +kernel) w h).1
set_option maxRecDepth 20000 in
theorem wsX00_inT : ∀ w ∈ wsX00, w ∈ lw_tbl := fun w h => (goodIn_p wsX00 [] (by decide +kernel) (by decide +kernel) w h).1
set_option maxRecDepth 20000 in
theorem wsX20_inT : ∀ w ∈ wsX20, w ∈ lw_tbl := fun w h => (goodIn_p wsX20 [] (by decide +kernel) (by decide +kernel) w h).1
set_option maxRecDepth 20000 in
theorem wsX10_inT : ∀ w ∈ wsX10, w ∈ lw_tbl := fun w h => (goodIn_p wsX10 [] (by decide +kernel) (by decide +kernel) w h).1
set_option maxRecDepth 20000 in
theorem wsJx000600_inT : ∀ w ∈ wsJx000600, w ∈ lw_tbl := fun w h => (goodIn_p wsJx000600 [] (by decide +kernel) (by decide +kernel) w h).1
theorem wsL_law_in : ∀ w ∈ wsL_law, w ∈ lw_tbl := by
  show ∀ w ∈ (wsL_law_r1 ++ (wsL_law_r2 ++ (wsL_law_r3 ++ (wsL_law_r4 ++ (wsL_law_r5 ++ (wsL_law_r6 ++ (wsL_law_r7 ++ (wsL_law_r8 ++ (wsL_law_r9 ++ (wsL_law_r10 ++ (wsL_law_r11 ++ (wsL_law_r12 ++ (wsL_law_r13 ++ (wsL_law_r14 ++ (wsL_law_r15 ++ (wsL_law_r16 ++ (wsL_law_r17 ++ wsL_law_r18))))))))))))))))) ++ wsX30 ++ wsX40 ++ wsX00 ++ wsX20 ++ wsX10 ++ wsJx000600 ++ ([] : List Cond), w ∈ lw_tbl
  exact List.forall_mem_append.mpr ⟨List.forall_mem_append.mpr ⟨List.forall_mem_append.mpr ⟨List.forall_mem_append.mpr ⟨List.forall_mem_append.mpr ⟨List.forall_mem_append.mpr ⟨List.forall_mem_append.mpr ⟨List.forall_mem_append.mpr ⟨wsL_law_r1_inT, List.forall_mem_append.mpr ⟨wsL_law_r2_inT, List.forall_mem_append.mpr ⟨wsL_law_r3_inT, List.forall_mem_append.mpr ⟨wsL_law_r4_inT, List.forall_mem_append.mpr ⟨wsL_law_r5_inT, List.forall_mem_append.mpr ⟨wsL_law_r6_inT, List.forall_mem_append.mpr ⟨wsL_law_r7_inT, List.forall_mem_append.mpr ⟨wsL_law_r8_inT, List.forall_mem_append.mpr ⟨wsL_law_r9_inT, List.forall_mem_append.mpr ⟨wsL_law_r10_inT, List.forall_mem_append.mpr ⟨wsL_law_r11_inT, List.forall_mem_append.mpr ⟨wsL_law_r12_inT, List.forall_mem_append.mpr ⟨wsL_law_r13_inT, List.forall_mem_append.mpr ⟨wsL_law_r14_inT, List.forall_mem_append.mpr ⟨wsL_law_r15_inT, List.forall_mem_append.mpr ⟨wsL_law_r16_inT, List.forall_mem_append.mpr ⟨wsL_law_r17_inT, wsL_law_r18_inT⟩⟩⟩⟩⟩⟩⟩⟩⟩⟩⟩⟩⟩⟩⟩⟩⟩, wsX30_inT⟩, wsX40_inT⟩, wsX00_inT⟩, wsX20_inT⟩, wsX10_inT⟩, wsJx000600_inT⟩, fun _ h => absurd h List.not_mem_nil⟩
theorem inlX0 : ∀ w ∈ wsX00, w ∈ wsL_law := fun _ h => List.mem_append_left _ (List.mem_append_left _ (List.mem_append_left _ (List.mem_append_left _ (List.mem_append_right _ h))))
theorem inX0 : ∀ w ∈ wsX00, w ∈ lw_tbl := fun w h => wsL_law_in w (inlX0 w h)
theorem inlX1 : ∀ w ∈ wsX10, w ∈ wsL_law := fun _ h => List.mem_append_left _ (List.mem_append_left _ (List.mem_append_right _ h))
theorem inX1 : ∀ w ∈ wsX10, w ∈ lw_tbl := fun w h => wsL_law_in w (inlX1 w h)
theorem inlX2 : ∀ w ∈ wsX20, w ∈ wsL_law := fun _ h => List.mem_append_left _ (List.mem_append_left _ (List.mem_append_left _ (List.mem_append_right _ h)))
theorem inX2 : ∀ w ∈ wsX20, w ∈ lw_tbl := fun w h => wsL_law_in w (inlX2 w h)
theorem inlX3 : ∀ w ∈ wsX30, w ∈ wsL_law := fun _ h => List.mem_append_left _ (List.mem_append_left _ (List.mem_append_left _ (List.mem_append_left _ (List.mem_append_left _ (List.mem_append_left _ (List.mem_append_right _ h))))))
theorem inX3 : ∀ w ∈ wsX30, w ∈ lw_tbl := fun w h => wsL_law_in w (inlX3 w h)
theorem inlX4 : ∀ w ∈ wsX40, w ∈ wsL_law := fun _ h => List.mem_append_left _ (List.mem_append_left _ (List.mem_append_left _ (List.mem_append_left _ (List.mem_append_left _ (List.mem_append_right _ h)))))
theorem inX4 : ∀ w ∈ wsX40, w ∈ lw_tbl := fun w h => wsL_law_in w (inlX4 w h)
theorem inlJx00060 : ∀ w ∈ wsJx000600, w ∈ wsL_law := fun _ h => List.mem_append_left _ (List.mem_append_right _ h)
theorem inJx00060 : ∀ w ∈ wsJx000600, w ∈ lw_tbl := fun w h => wsL_law_in w (inlJx00060 w h)
theorem inJ9 : ∀ w ∈ wsJ90, w ∈ lw_tbl := by decide +kernel
theorem inJ0 : ∀ w ∈ wsJ00, w ∈ lw_tbl := by decide +kernel
set_option maxRecDepth 20000 in
theorem ggX0_init_X2_init : GoodIn wsX0_init wsX2_init := goodIn_r _ [16, 17, 2, 3, 18, 19, 20, 21, 22, 23, 36, 37, 38, 39] (by decide +kernel) (by decide +kernel)
set_option maxRecDepth 20000 in
theorem gX0_init_X2_init : GoodIn wsX0_init (wsX2_init) := ggX0_init_X2_init
set_option maxRecDepth 20000 in
theorem ggX0_init_X1_init : GoodIn wsX0_init wsX1_init := goodIn_r _ [26, 27, 2, 3, 28, 20, 29, 30, 18, 31, 32, 33, 34, 35, 44, 45, 46, 47, 48, 49, 50] (by decide +kernel) (by decide +kernel)
set_option maxRecDepth 20000 in
theorem gX0_init_X1_init : GoodIn wsX0_init (wsX1_init) := ggX0_init_X1_init
theorem dX0_init_0 : decode cX0_init 0 = .ok (.aload_n 0, 1) := by decide +kernel
theorem dX0_init_1 : decode cX0_init 1 = .ok (.invokespecial 3, 3) := by decide +kernel
theorem dX0_init_4 : decode cX0_init 4 = .ok (.aload_n 0, 1) := by decide +kernel
theorem dX0_init_5 : decode cX0_init 5 = .ok (.new 9, 3) := by decide +kernel
theorem dX0_init_8 : decode cX0_init 8 = .ok (.dup, 1) := by decide +kernel
theorem dX0_init_9 : decode cX0_init 9 = .ok (.invokespecial 11, 3) := by decide +kernel
theorem dX0_init_12 : decode cX0_init 12 = .ok (.putfield 12, 3) := by decide +kernel
theorem dX0_init_15 : decode cX0_init 15 = .ok (.aload_n 0, 1) := by decide +kernel
theorem dX0_init_16 : decode cX0_init 16 = .ok (.new 18, 3) := by decide +kernel
theorem dX0_init_19 : decode cX0_init 19 = .ok (.dup, 1) := by decide +kernel
theorem dX0_init_20 : decode cX0_init 20 = .ok (.lload_n 1, 1) := by decide +kernel
theorem dX0_init_21 : decode cX0_init 21 = .ok (.invokespecial 20, 3) := by decide +kernel
theorem dX0_init_24 : decode cX0_init 24 = .ok (.putfield 23, 3) := by decide +kernel
theorem dX0_init_27 : decode cX0_init 27 = .ok (.aload_n 0, 1) := by decide +kernel
theorem dX0_init_28 : decode cX0_init 28 = .ok (.iconst 1, 1) := by decide +kernel
theorem dX0_init_29 : decode cX0_init 29 = .ok (.putfield 27, 3) := by decide +kernel
theorem dX0_init_32 : decode cX0_init 32 = .ok (.aload_n 0, 1) := by decide +kernel
theorem dX0_init_33 : decode cX0_init 33 = .ok (.lconst 0, 1) := by decide +kernel
theorem dX0_init_34 : decode cX0_init 34 = .ok (.putfield 31, 3) := by decide +kernel
theorem dX0_init_37 : decode cX0_init 37 = .ok (.return_, 1) := by decide +kernel
set_option maxRecDepth 20000 in
theorem ggX0_addReading_X3_within : GoodIn wsX0_addReading wsX3_within := goodIn_r _ [11] (by decide +kernel) (by decide +kernel)
set_option maxRecDepth 20000 in
theorem gX0_addReading_X3_within_n41 : GoodIn wsX0_addReading (wsX3_within) := ggX0_addReading_X3_within
set_option maxRecDepth 20000 in
theorem ggX0_addReading_X1_add : GoodIn wsX0_addReading wsX1_add := goodIn_r _ [16, 17, 18, 19, 20, 21, 22, 23, 24, 25, 15, 26, 27, 28, 29, 30, 31, 32, 33, 34, 35, 36, 45, 46, 47, 48, 49, 50, 51] (by decide +kernel) (by decide +kernel)
set_option maxRecDepth 20000 in
theorem gX0_addReading_X1_add : GoodIn wsX0_addReading (wsV RX0 51 RX1 yX1_add wsX1_add) := goodIn_app (goodIn_of _ (by decide +kernel)) ggX0_addReading_X1_add
theorem dX0_addReading_0 : decode cX0_addReading 0 = .ok (.aload_n 0, 1) := by decide +kernel
theorem dX0_addReading_1 : decode cX0_addReading 1 = .ok (.getfield 12, 3) := by decide +kernel
theorem dX0_addReading_4 : decode cX0_addReading 4 = .ok (.getfield 35, 3) := by decide +kernel
theorem dX0_addReading_7 : decode cX0_addReading 7 = .ok (.ifCond .le 47, 3) := by decide +kernel
theorem dX0_addReading_10 : decode cX0_addReading 10 = .ok (.lload_n 1, 1) := by decide +kernel
theorem dX0_addReading_11 : decode cX0_addReading 11 = .ok (.lconst 0, 1) := by decide +kernel
theorem dX0_addReading_12 : decode cX0_addReading 12 = .ok (.ldc2_w 39, 3) := by decide +kernel
theorem dX0_addReading_15 : decode cX0_addReading 15 = .ok (.invokestatic 41, 3) := by decide +kernel
theorem dX0_addReading_18 : decode cX0_addReading 18 = .ok (.ifCond .eq 36, 3) := by decide +kernel
theorem dX0_addReading_21 : decode cX0_addReading 21 = .ok (.lload_n 3, 1) := by decide +kernel
theorem dX0_addReading_22 : decode cX0_addReading 22 = .ok (.aload_n 0, 1) := by decide +kernel
theorem dX0_addReading_23 : decode cX0_addReading 23 = .ok (.getfield 31, 3) := by decide +kernel
theorem dX0_addReading_26 : decode cX0_addReading 26 = .ok (.ldc2_w 45, 3) := by decide +kernel
theorem dX0_addReading_29 : decode cX0_addReading 29 = .ok (.invokestatic 41, 3) := by decide +kernel
theorem dX0_addReading_32 : decode cX0_addReading 32 = .ok (.ifCond .eq 22, 3) := by decide +kernel
theorem dX0_addReading_35 : decode cX0_addReading 35 = .ok (.iload 5, 2) := by decide +kernel
theorem dX0_addReading_37 : decode cX0_addReading 37 = .ok (.i2l, 1) := by decide +kernel
theorem dX0_addReading_38 : decode cX0_addReading 38 = .ok (.ldc2_w 47, 3) := by decide +kernel
theorem dX0_addReading_41 : decode cX0_addReading 41 = .ok (.ldc2_w 49, 3) := by decide +kernel
theorem dX0_addReading_44 : decode cX0_addReading 44 = .ok (.invokestatic 41, 3) := by decide +kernel
theorem dX0_addReading_47 : decode cX0_addReading 47 = .ok (.ifCond .eq 7, 3) := by decide +kernel
theorem dX0_addReading_50 : decode cX0_addReading 50 = .ok (.iconst 1, 1) := by decide +kernel
theorem dX0_addReading_51 : decode cX0_addReading 51 = .ok (.goto 4, 3) := by decide +kernel
theorem dX0_addReading_54 : decode cX0_addReading 54 = .ok (.iconst 0, 1) := by decide +kernel
theorem dX0_addReading_55 : decode cX0_addReading 55 = .ok (.istore 6, 2) := by decide +kernel
theorem dX0_addReading_57 : decode cX0_addReading 57 = .ok (.iload 6, 2) := by decide +kernel
theorem dX0_addReading_59 : decode cX0_addReading 59 = .ok (.ifCond .eq 29, 3) := by decide +kernel
theorem dX0_addReading_62 : decode cX0_addReading 62 = .ok (.aload_n 0, 1) := by decide +kernel
theorem dX0_addReading_63 : decode cX0_addReading 63 = .ok (.getfield 23, 3) := by decide +kernel
theorem dX0_addReading_66 : decode cX0_addReading 66 = .ok (.lload_n 1, 1) := by decide +kernel
theorem dX0_addReading_67 : decode cX0_addReading 67 = .ok (.lload_n 3, 1) := by decide +kernel
theorem dX0_addReading_68 : decode cX0_addReading 68 = .ok (.iload 5, 2) := by decide +kernel
theorem dX0_addReading_70 : decode cX0_addReading 70 = .ok (.aload_n 0, 1) := by decide +kernel
theorem dX0_addReading_71 : decode cX0_addReading 71 = .ok (.getfield 27, 3) := by decide +kernel
theorem dX0_addReading_74 : decode cX0_addReading 74 = .ok (.ifCond .ne 7, 3) := by decide +kernel
theorem dX0_addReading_77 : decode cX0_addReading 77 = .ok (.iconst 1, 1) := by decide +kernel
theorem dX0_addReading_78 : decode cX0_addReading 78 = .ok (.goto 4, 3) := by decide +kernel
theorem dX0_addReading_81 : decode cX0_addReading 81 = .ok (.iconst 0, 1) := by decide +kernel
theorem dX0_addReading_82 : decode cX0_addReading 82 = .ok (.invokevirtual 51, 3) := by decide +kernel
theorem dX0_addReading_85 : decode cX0_addReading 85 = .ok (.ifCond .ne 5, 3) := by decide +kernel
theorem dX0_addReading_88 : decode cX0_addReading 88 = .ok (.iconst 0, 1) := by decide +kernel
theorem dX0_addReading_89 : decode cX0_addReading 89 = .ok (.ireturn, 1) := by decide +kernel
theorem dX0_addReading_90 : decode cX0_addReading 90 = .ok (.aload_n 0, 1) := by decide +kernel
theorem dX0_addReading_91 : decode cX0_addReading 91 = .ok (.lload_n 3, 1) := by decide +kernel
theorem dX0_addReading_92 : decode cX0_addReading 92 = .ok (.putfield 31, 3) := by decide +kernel
theorem dX0_addReading_95 : decode cX0_addReading 95 = .ok (.iconst 1, 1) := by decide +kernel
theorem dX0_addReading_96 : decode cX0_addReading 96 = .ok (.ireturn, 1) := by decide +kernel
set_option maxRecDepth 20000 in
theorem ggX0_addReset_X3_within : GoodIn wsX0_addReset wsX3_within := goodIn_r _ [7] (by decide +kernel) (by decide +kernel)
set_option maxRecDepth 20000 in
theorem gX0_addReset_X3_within_n41 : GoodIn wsX0_addReset (wsX3_within) := ggX0_addReset_X3_within
set_option maxRecDepth 20000 in
theorem ggX0_addReset_X1_add : GoodIn wsX0_addReset wsX1_add := goodIn_r _ [12, 13, 14, 15, 16, 17, 18, 19, 20, 21, 11, 22, 23, 24, 25, 26, 27, 28, 29, 30, 31, 32, 37, 38, 39, 40, 41, 42, 43] (by decide +kernel) (by decide +kernel)
set_option maxRecDepth 20000 in
theorem gX0_addReset_X1_add : GoodIn wsX0_addReset (wsV RX0 51 RX1 yX1_add wsX1_add) := goodIn_app (goodIn_of _ (by decide +kernel)) ggX0_addReset_X1_add
theorem dX0_addReset_0 : decode cX0_addReset 0 = .ok (.lload_n 1, 1) := by decide +kernel
theorem dX0_addReset_1 : decode cX0_addReset 1 = .ok (.lconst 0, 1) := by decide +kernel
theorem dX0_addReset_2 : decode cX0_addReset 2 = .ok (.ldc2_w 45, 3) := by decide +kernel
theorem dX0_addReset_5 : decode cX0_addReset 5 = .ok (.invokestatic 41, 3) := by decide +kernel
theorem dX0_addReset_8 : decode cX0_addReset 8 = .ok (.ifCond .eq 34, 3) := by decide +kernel
theorem dX0_addReset_11 : decode cX0_addReset 11 = .ok (.aload_n 0, 1) := by decide +kernel
theorem dX0_addReset_12 : decode cX0_addReset 12 = .ok (.getfield 23, 3) := by decide +kernel
theorem dX0_addReset_15 : decode cX0_addReset 15 = .ok (.lload_n 1, 1) := by decide +kernel
theorem dX0_addReset_16 : decode cX0_addReset 16 = .ok (.ldc2_w 55, 3) := by decide +kernel
theorem dX0_addReset_19 : decode cX0_addReset 19 = .ok (.iconst 0, 1) := by decide +kernel
theorem dX0_addReset_20 : decode cX0_addReset 20 = .ok (.aload_n 0, 1) := by decide +kernel
theorem dX0_addReset_21 : decode cX0_addReset 21 = .ok (.getfield 27, 3) := by decide +kernel
theorem dX0_addReset_24 : decode cX0_addReset 24 = .ok (.ifCond .ne 7, 3) := by decide +kernel
theorem dX0_addReset_27 : decode cX0_addReset 27 = .ok (.iconst 1, 1) := by decide +kernel
theorem dX0_addReset_28 : decode cX0_addReset 28 = .ok (.goto 4, 3) := by decide +kernel
theorem dX0_addReset_31 : decode cX0_addReset 31 = .ok (.iconst 0, 1) := by decide +kernel
theorem dX0_addReset_32 : decode cX0_addReset 32 = .ok (.invokevirtual 51, 3) := by decide +kernel
theorem dX0_addReset_35 : decode cX0_addReset 35 = .ok (.ifCond .eq 7, 3) := by decide +kernel
theorem dX0_addReset_38 : decode cX0_addReset 38 = .ok (.iconst 1, 1) := by decide +kernel
theorem dX0_addReset_39 : decode cX0_addReset 39 = .ok (.goto 4, 3) := by decide +kernel
theorem dX0_addReset_42 : decode cX0_addReset 42 = .ok (.iconst 0, 1) := by decide +kernel
theorem dX0_addReset_43 : decode cX0_addReset 43 = .ok (.ireturn, 1) := by decide +kernel
set_option maxRecDepth 20000 in
theorem ggX0_turnSeal_X3_within : GoodIn wsX0_turnSeal wsX3_within := goodIn_r _ [8] (by decide +kernel) (by decide +kernel)
set_option maxRecDepth 20000 in
theorem gX0_turnSeal_X3_within_n41 : GoodIn wsX0_turnSeal (wsX3_within) := ggX0_turnSeal_X3_within
set_option maxRecDepth 20000 in
theorem ggX0_turnSeal_X1_add : GoodIn wsX0_turnSeal wsX1_add := goodIn_r _ [13, 14, 15, 16, 17, 18, 19, 20, 21, 22, 12, 23, 24, 25, 26, 27, 28, 29, 30, 31, 32, 33, 38, 39, 40, 41, 42, 43, 44] (by decide +kernel) (by decide +kernel)
set_option maxRecDepth 20000 in
theorem gX0_turnSeal_X1_add : GoodIn wsX0_turnSeal (wsV RX0 51 RX1 yX1_add wsX1_add) := goodIn_app (goodIn_of _ (by decide +kernel)) ggX0_turnSeal_X1_add
theorem dX0_turnSeal_0 : decode cX0_turnSeal 0 = .ok (.iload_n 1, 1) := by decide +kernel
theorem dX0_turnSeal_1 : decode cX0_turnSeal 1 = .ok (.i2l, 1) := by decide +kernel
theorem dX0_turnSeal_2 : decode cX0_turnSeal 2 = .ok (.lconst 1, 1) := by decide +kernel
theorem dX0_turnSeal_3 : decode cX0_turnSeal 3 = .ok (.ldc2_w 57, 3) := by decide +kernel
theorem dX0_turnSeal_6 : decode cX0_turnSeal 6 = .ok (.invokestatic 41, 3) := by decide +kernel
theorem dX0_turnSeal_9 : decode cX0_turnSeal 9 = .ok (.ifCond .eq 11, 3) := by decide +kernel
theorem dX0_turnSeal_12 : decode cX0_turnSeal 12 = .ok (.aload_n 0, 1) := by decide +kernel
theorem dX0_turnSeal_13 : decode cX0_turnSeal 13 = .ok (.getfield 27, 3) := by decide +kernel
theorem dX0_turnSeal_16 : decode cX0_turnSeal 16 = .ok (.iload_n 2, 1) := by decide +kernel
theorem dX0_turnSeal_17 : decode cX0_turnSeal 17 = .ok (.if_icmp .ne 5, 3) := by decide +kernel
theorem dX0_turnSeal_20 : decode cX0_turnSeal 20 = .ok (.iconst 0, 1) := by decide +kernel
theorem dX0_turnSeal_21 : decode cX0_turnSeal 21 = .ok (.ireturn, 1) := by decide +kernel
theorem dX0_turnSeal_22 : decode cX0_turnSeal 22 = .ok (.aload_n 0, 1) := by decide +kernel
theorem dX0_turnSeal_23 : decode cX0_turnSeal 23 = .ok (.getfield 23, 3) := by decide +kernel
theorem dX0_turnSeal_26 : decode cX0_turnSeal 26 = .ok (.iload_n 1, 1) := by decide +kernel
theorem dX0_turnSeal_27 : decode cX0_turnSeal 27 = .ok (.i2l, 1) := by decide +kernel
theorem dX0_turnSeal_28 : decode cX0_turnSeal 28 = .ok (.iload_n 2, 1) := by decide +kernel
theorem dX0_turnSeal_29 : decode cX0_turnSeal 29 = .ok (.ifCond .eq 9, 3) := by decide +kernel
theorem dX0_turnSeal_32 : decode cX0_turnSeal 32 = .ok (.ldc2_w 59, 3) := by decide +kernel
theorem dX0_turnSeal_35 : decode cX0_turnSeal 35 = .ok (.goto 6, 3) := by decide +kernel
theorem dX0_turnSeal_38 : decode cX0_turnSeal 38 = .ok (.ldc2_w 61, 3) := by decide +kernel
theorem dX0_turnSeal_41 : decode cX0_turnSeal 41 = .ok (.iconst 0, 1) := by decide +kernel
theorem dX0_turnSeal_42 : decode cX0_turnSeal 42 = .ok (.iconst 1, 1) := by decide +kernel
theorem dX0_turnSeal_43 : decode cX0_turnSeal 43 = .ok (.invokevirtual 51, 3) := by decide +kernel
theorem dX0_turnSeal_46 : decode cX0_turnSeal 46 = .ok (.ifCond .ne 5, 3) := by decide +kernel
theorem dX0_turnSeal_49 : decode cX0_turnSeal 49 = .ok (.iconst 0, 1) := by decide +kernel
theorem dX0_turnSeal_50 : decode cX0_turnSeal 50 = .ok (.ireturn, 1) := by decide +kernel
theorem dX0_turnSeal_51 : decode cX0_turnSeal 51 = .ok (.aload_n 0, 1) := by decide +kernel
theorem dX0_turnSeal_52 : decode cX0_turnSeal 52 = .ok (.iload_n 2, 1) := by decide +kernel
theorem dX0_turnSeal_53 : decode cX0_turnSeal 53 = .ok (.putfield 27, 3) := by decide +kernel
theorem dX0_turnSeal_56 : decode cX0_turnSeal 56 = .ok (.iconst 1, 1) := by decide +kernel
theorem dX0_turnSeal_57 : decode cX0_turnSeal 57 = .ok (.ireturn, 1) := by decide +kernel
set_option maxRecDepth 20000 in
theorem ggX0_fractionPart_X0_litresAbove : GoodIn wsX0_fractionPart wsX0_litresAbove := goodIn_r _ [5, 6, 7, 8, 9, 10, 11, 12, 13, 14, 15, 16, 17, 18, 19, 20, 21, 22, 23, 24, 25, 26, 27, 28, 29, 30, 31, 32, 33, 34, 35, 36, 37, 38, 39, 40, 41, 42, 43, 59, 60, 61, 62, 63, 64, 65, 66, 67, 68, 69, 70, 71, 72, 73] (by decide +kernel) (by decide +kernel)
set_option maxRecDepth 20000 in
theorem gX0_fractionPart_X0_litresAbove : GoodIn wsX0_fractionPart (wsV RX0 63 RX0 yX0_litresAbove wsX0_litresAbove) := goodIn_app (goodIn_of _ (by decide +kernel)) ggX0_fractionPart_X0_litresAbove
set_option maxRecDepth 20000 in
theorem ggX0_fractionPart_X0_litresBelow : GoodIn wsX0_fractionPart wsX0_litresBelow := goodIn_r _ [47, 6, 7, 48, 15, 16, 11, 17, 18, 19, 20, 21, 22, 23, 24, 25, 26, 27, 28, 49, 50, 51, 32, 52, 53, 35, 36, 37, 38, 39, 40, 41, 42, 43, 59, 60, 61, 62, 63, 64, 65, 66, 67, 68, 69, 70, 71, 72, 73] (by decide +kernel) (by decide +kernel)
set_option maxRecDepth 20000 in
theorem gX0_fractionPart_X0_litresBelow : GoodIn wsX0_fractionPart (wsV RX0 67 RX0 yX0_litresBelow wsX0_litresBelow) := goodIn_app (goodIn_of _ (by decide +kernel)) ggX0_fractionPart_X0_litresBelow
set_option maxRecDepth 20000 in
theorem ggX0_fractionPart_X3_commonDivisor : GoodIn wsX0_fractionPart wsX3_commonDivisor := goodIn_r _ [56] (by decide +kernel) (by decide +kernel)
set_option maxRecDepth 20000 in
theorem gX0_fractionPart_X3_commonDivisor_n70 : GoodIn wsX0_fractionPart (wsX3_commonDivisor) := ggX0_fractionPart_X3_commonDivisor
set_option maxRecDepth 20000 in
theorem ggX0_fractionPart_X3_quotient : GoodIn wsX0_fractionPart wsX3_quotient := goodIn_r _ [58] (by decide +kernel) (by decide +kernel)
set_option maxRecDepth 20000 in
theorem gX0_fractionPart_X3_quotient_n74 : GoodIn wsX0_fractionPart (wsX3_quotient) := ggX0_fractionPart_X3_quotient
theorem dX0_fractionPart_0 : decode cX0_fractionPart 0 = .ok (.aload_n 0, 1) := by decide +kernel
theorem dX0_fractionPart_1 : decode cX0_fractionPart 1 = .ok (.iload_n 1, 1) := by decide +kernel
theorem dX0_fractionPart_2 : decode cX0_fractionPart 2 = .ok (.invokevirtual 63, 3) := by decide +kernel
theorem dX0_fractionPart_5 : decode cX0_fractionPart 5 = .ok (.lstore_n 3, 1) := by decide +kernel
theorem dX0_fractionPart_6 : decode cX0_fractionPart 6 = .ok (.aload_n 0, 1) := by decide +kernel
theorem dX0_fractionPart_7 : decode cX0_fractionPart 7 = .ok (.iload_n 1, 1) := by decide +kernel
theorem dX0_fractionPart_8 : decode cX0_fractionPart 8 = .ok (.invokevirtual 67, 3) := by decide +kernel
theorem dX0_fractionPart_11 : decode cX0_fractionPart 11 = .ok (.lstore 5, 2) := by decide +kernel
theorem dX0_fractionPart_13 : decode cX0_fractionPart 13 = .ok (.iload_n 2, 1) := by decide +kernel
theorem dX0_fractionPart_14 : decode cX0_fractionPart 14 = .ok (.ifCond .ne 7, 3) := by decide +kernel
theorem dX0_fractionPart_17 : decode cX0_fractionPart 17 = .ok (.lload_n 3, 1) := by decide +kernel
theorem dX0_fractionPart_18 : decode cX0_fractionPart 18 = .ok (.goto 5, 3) := by decide +kernel
theorem dX0_fractionPart_21 : decode cX0_fractionPart 21 = .ok (.lload 5, 2) := by decide +kernel
theorem dX0_fractionPart_23 : decode cX0_fractionPart 23 = .ok (.lload_n 3, 1) := by decide +kernel
theorem dX0_fractionPart_24 : decode cX0_fractionPart 24 = .ok (.lload 5, 2) := by decide +kernel
theorem dX0_fractionPart_26 : decode cX0_fractionPart 26 = .ok (.invokestatic 70, 3) := by decide +kernel
theorem dX0_fractionPart_29 : decode cX0_fractionPart 29 = .ok (.invokestatic 74, 3) := by decide +kernel
theorem dX0_fractionPart_32 : decode cX0_fractionPart 32 = .ok (.lreturn, 1) := by decide +kernel
set_option maxRecDepth 20000 in
theorem ggX0_allThousandths_X0_litresAbove : GoodIn wsX0_allThousandths wsX0_litresAbove := goodIn_r _ [7, 1, 8, 9, 10, 11, 12, 13, 14, 15, 16, 17, 18, 19, 20, 21, 22, 23, 24, 25, 26, 27, 28, 29, 30, 31, 32, 33, 34, 35, 36, 37, 38, 39, 40, 41, 42, 43, 44, 58, 59, 60, 61, 62, 63, 64, 65, 66, 67, 68, 69, 70, 71, 72] (by decide +kernel) (by decide +kernel)
set_option maxRecDepth 20000 in
theorem gX0_allThousandths_X0_litresAbove : GoodIn wsX0_allThousandths (wsV RX0 63 RX0 yX0_litresAbove wsX0_litresAbove) := goodIn_app (goodIn_of _ (by decide +kernel)) ggX0_allThousandths_X0_litresAbove
set_option maxRecDepth 20000 in
theorem ggX0_allThousandths_X0_litresBelow : GoodIn wsX0_allThousandths wsX0_litresBelow := goodIn_r _ [48, 1, 8, 49, 16, 17, 12, 18, 19, 20, 21, 22, 23, 24, 25, 26, 27, 28, 29, 50, 51, 52, 33, 53, 54, 36, 37, 38, 39, 40, 41, 42, 43, 44, 58, 59, 60, 61, 62, 63, 64, 65, 66, 67, 68, 69, 70, 71, 72] (by decide +kernel) (by decide +kernel)
set_option maxRecDepth 20000 in
theorem gX0_allThousandths_X0_litresBelow : GoodIn wsX0_allThousandths (wsV RX0 67 RX0 yX0_litresBelow wsX0_litresBelow) := goodIn_app (goodIn_of _ (by decide +kernel)) ggX0_allThousandths_X0_litresBelow
